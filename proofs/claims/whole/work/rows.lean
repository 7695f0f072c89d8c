section
-- ===== PART A: goes FIRST, ahead of the names: the tables' words, and 'selects' of the private methods out of them =====
/-- a private method of a class that the tables say can be made, by its rows of tables_1 -/
def lw_okq (q : MethodName × Nat) : Prop := (q.1.cls ≠ "java/lang/invoke/MethodHandle" ∧ q.1.cls ≠ "java/lang/invoke/VarHandle") ∧ Cond.instantiable q.1.cls q.2 ∈ tables_1 ∧ Cond.privateMethod q.1 ∈ tables_1 ∧ Cond.instanceMethod q.1 ∈ tables_1
theorem lw_p0 : lw_okq (⟨"java/lang/Throwable", "fillInStackTrace", "(I)Ljava/lang/Throwable;"⟩, 6) := ⟨⟨by decide +kernel, by decide +kernel⟩, List.mem_of_getElem? (i := 374) (by decide +kernel), List.mem_of_getElem? (i := 372) (by decide +kernel), List.mem_of_getElem? (i := 373) (by decide +kernel)⟩
theorem lw_p1 : lw_okq (⟨"PlainSteps$Machine", "interruptBy", "(I)V"⟩, 11) := ⟨⟨by decide +kernel, by decide +kernel⟩, List.mem_of_getElem? (i := 254) (by decide +kernel), List.mem_of_getElem? (i := 567) (by decide +kernel), List.mem_of_getElem? (i := 568) (by decide +kernel)⟩
theorem lw_p2 : lw_okq (⟨"PlainSteps$Machine", "failWith", "(II)V"⟩, 11) := ⟨⟨by decide +kernel, by decide +kernel⟩, List.mem_of_getElem? (i := 254) (by decide +kernel), List.mem_of_getElem? (i := 600) (by decide +kernel), List.mem_of_getElem? (i := 601) (by decide +kernel)⟩
theorem lw_p3 : lw_okq (⟨"PlainSteps$Work", "prepare", "(II)V"⟩, 14) := ⟨⟨by decide +kernel, by decide +kernel⟩, List.mem_of_getElem? (i := 178) (by decide +kernel), List.mem_of_getElem? (i := 621) (by decide +kernel), List.mem_of_getElem? (i := 622) (by decide +kernel)⟩
theorem lw_p4 : lw_okq (⟨"PlainSteps$Work", "doTransfer", "(I)I"⟩, 14) := ⟨⟨by decide +kernel, by decide +kernel⟩, List.mem_of_getElem? (i := 178) (by decide +kernel), List.mem_of_getElem? (i := 633) (by decide +kernel), List.mem_of_getElem? (i := 634) (by decide +kernel)⟩
theorem lw_p5 : lw_okq (⟨"PlainSteps$Operands", "readField", "(II)J"⟩, 7) := ⟨⟨by decide +kernel, by decide +kernel⟩, List.mem_of_getElem? (i := 62) (by decide +kernel), List.mem_of_getElem? (i := 641) (by decide +kernel), List.mem_of_getElem? (i := 642) (by decide +kernel)⟩
theorem lw_p6 : lw_okq (⟨"PlainSteps$Work", "divide", "(IJJII)I"⟩, 14) := ⟨⟨by decide +kernel, by decide +kernel⟩, List.mem_of_getElem? (i := 178) (by decide +kernel), List.mem_of_getElem? (i := 657) (by decide +kernel), List.mem_of_getElem? (i := 658) (by decide +kernel)⟩
theorem lw_p7 : lw_okq (⟨"PlainSteps$Work", "write", "(IIJ)V"⟩, 14) := ⟨⟨by decide +kernel, by decide +kernel⟩, List.mem_of_getElem? (i := 178) (by decide +kernel), List.mem_of_getElem? (i := 668) (by decide +kernel), List.mem_of_getElem? (i := 669) (by decide +kernel)⟩
theorem lw_p8 : lw_okq (⟨"PlainSteps$Work", "load", "(ZJII)I"⟩, 14) := ⟨⟨by decide +kernel, by decide +kernel⟩, List.mem_of_getElem? (i := 178) (by decide +kernel), List.mem_of_getElem? (i := 695) (by decide +kernel), List.mem_of_getElem? (i := 696) (by decide +kernel)⟩
theorem lw_p9 : lw_okq (⟨"PlainSteps$Work", "store", "(ZJJ)I"⟩, 14) := ⟨⟨by decide +kernel, by decide +kernel⟩, List.mem_of_getElem? (i := 178) (by decide +kernel), List.mem_of_getElem? (i := 703) (by decide +kernel), List.mem_of_getElem? (i := 704) (by decide +kernel)⟩
theorem lw_p10 : lw_okq (⟨"PlainSteps$Work", "goBack", "()I"⟩, 14) := ⟨⟨by decide +kernel, by decide +kernel⟩, List.mem_of_getElem? (i := 178) (by decide +kernel), List.mem_of_getElem? (i := 708) (by decide +kernel), List.mem_of_getElem? (i := 709) (by decide +kernel)⟩
theorem lw_p11 : lw_okq (⟨"PlainSteps$Work", "writeWhatWaits", "()V"⟩, 14) := ⟨⟨by decide +kernel, by decide +kernel⟩, List.mem_of_getElem? (i := 178) (by decide +kernel), List.mem_of_getElem? (i := 720) (by decide +kernel), List.mem_of_getElem? (i := 721) (by decide +kernel)⟩
theorem lw_p12 : lw_okq (⟨"PlainSteps$Work", "takeBack", "()V"⟩, 14) := ⟨⟨by decide +kernel, by decide +kernel⟩, List.mem_of_getElem? (i := 178) (by decide +kernel), List.mem_of_getElem? (i := 730) (by decide +kernel), List.mem_of_getElem? (i := 731) (by decide +kernel)⟩
theorem lw_p13 : lw_okq (⟨"PlainSteps$Machine", "settlePlace", "(IZ)V"⟩, 11) := ⟨⟨by decide +kernel, by decide +kernel⟩, List.mem_of_getElem? (i := 254) (by decide +kernel), List.mem_of_getElem? (i := 743) (by decide +kernel), List.mem_of_getElem? (i := 744) (by decide +kernel)⟩
theorem lw_p14 : lw_okq (⟨"PlainStepsModel", "goes", "(ZZ)Z"⟩, 52) := ⟨⟨by decide +kernel, by decide +kernel⟩, List.mem_of_getElem? (i := 816) (by decide +kernel), List.mem_of_getElem? (i := 991) (by decide +kernel), List.mem_of_getElem? (i := 992) (by decide +kernel)⟩
theorem lw_p15 : lw_okq (⟨"PlainStepsModel", "isOperand", "(I)Z"⟩, 52) := ⟨⟨by decide +kernel, by decide +kernel⟩, List.mem_of_getElem? (i := 816) (by decide +kernel), List.mem_of_getElem? (i := 1009) (by decide +kernel), List.mem_of_getElem? (i := 1010) (by decide +kernel)⟩
def lw_privs_1 : List (MethodName × Nat) := [(⟨"java/lang/Throwable", "fillInStackTrace", "(I)Ljava/lang/Throwable;"⟩, 6), (⟨"PlainSteps$Machine", "interruptBy", "(I)V"⟩, 11), (⟨"PlainSteps$Machine", "failWith", "(II)V"⟩, 11), (⟨"PlainSteps$Work", "prepare", "(II)V"⟩, 14), (⟨"PlainSteps$Work", "doTransfer", "(I)I"⟩, 14), (⟨"PlainSteps$Operands", "readField", "(II)J"⟩, 7), (⟨"PlainSteps$Work", "divide", "(IJJII)I"⟩, 14), (⟨"PlainSteps$Work", "write", "(IIJ)V"⟩, 14), (⟨"PlainSteps$Work", "load", "(ZJII)I"⟩, 14), (⟨"PlainSteps$Work", "store", "(ZJJ)I"⟩, 14), (⟨"PlainSteps$Work", "goBack", "()I"⟩, 14), (⟨"PlainSteps$Work", "writeWhatWaits", "()V"⟩, 14), (⟨"PlainSteps$Work", "takeBack", "()V"⟩, 14), (⟨"PlainSteps$Machine", "settlePlace", "(IZ)V"⟩, 11), (⟨"PlainStepsModel", "goes", "(ZZ)Z"⟩, 52), (⟨"PlainStepsModel", "isOperand", "(I)Z"⟩, 52)]
theorem lw_r1 : ∀ q ∈ lw_privs_1, lw_okq q := List.forall_mem_cons.mpr ⟨lw_p0, List.forall_mem_cons.mpr ⟨lw_p1, List.forall_mem_cons.mpr ⟨lw_p2, List.forall_mem_cons.mpr ⟨lw_p3, List.forall_mem_cons.mpr ⟨lw_p4, List.forall_mem_cons.mpr ⟨lw_p5, List.forall_mem_cons.mpr ⟨lw_p6, List.forall_mem_cons.mpr ⟨lw_p7, List.forall_mem_cons.mpr ⟨lw_p8, List.forall_mem_cons.mpr ⟨lw_p9, List.forall_mem_cons.mpr ⟨lw_p10, List.forall_mem_cons.mpr ⟨lw_p11, List.forall_mem_cons.mpr ⟨lw_p12, List.forall_mem_cons.mpr ⟨lw_p13, List.forall_mem_cons.mpr ⟨lw_p14, List.forall_mem_cons.mpr ⟨lw_p15, fun _ h => absurd h List.not_mem_nil⟩⟩⟩⟩⟩⟩⟩⟩⟩⟩⟩⟩⟩⟩⟩⟩
theorem lw_p16 : lw_okq (⟨"PlainStepsModel", "stepOnce", "()V"⟩, 52) := ⟨⟨by decide +kernel, by decide +kernel⟩, List.mem_of_getElem? (i := 816) (by decide +kernel), List.mem_of_getElem? (i := 1035) (by decide +kernel), List.mem_of_getElem? (i := 1036) (by decide +kernel)⟩
theorem lw_p17 : lw_okq (⟨"PlainStepsModel", "waitingLine", "()I"⟩, 52) := ⟨⟨by decide +kernel, by decide +kernel⟩, List.mem_of_getElem? (i := 816) (by decide +kernel), List.mem_of_getElem? (i := 1039) (by decide +kernel), List.mem_of_getElem? (i := 1040) (by decide +kernel)⟩
theorem lw_p18 : lw_okq (⟨"PlainStepsModel", "doInstruction", "()V"⟩, 52) := ⟨⟨by decide +kernel, by decide +kernel⟩, List.mem_of_getElem? (i := 816) (by decide +kernel), List.mem_of_getElem? (i := 1043) (by decide +kernel), List.mem_of_getElem? (i := 1044) (by decide +kernel)⟩
theorem lw_p19 : lw_okq (⟨"PlainStepsModel", "takeFault", "(I)V"⟩, 52) := ⟨⟨by decide +kernel, by decide +kernel⟩, List.mem_of_getElem? (i := 816) (by decide +kernel), List.mem_of_getElem? (i := 1047) (by decide +kernel), List.mem_of_getElem? (i := 1048) (by decide +kernel)⟩
theorem lw_p20 : lw_okq (⟨"PlainStepsModel", "keep", "(III)Z"⟩, 52) := ⟨⟨by decide +kernel, by decide +kernel⟩, List.mem_of_getElem? (i := 816) (by decide +kernel), List.mem_of_getElem? (i := 1051) (by decide +kernel), List.mem_of_getElem? (i := 1052) (by decide +kernel)⟩
theorem lw_p21 : lw_okq (⟨"PlainStepsModel", "find", "()I"⟩, 52) := ⟨⟨by decide +kernel, by decide +kernel⟩, List.mem_of_getElem? (i := 816) (by decide +kernel), List.mem_of_getElem? (i := 1055) (by decide +kernel), List.mem_of_getElem? (i := 1056) (by decide +kernel)⟩
theorem lw_p22 : lw_okq (⟨"PlainStepsModel", "save", "()V"⟩, 52) := ⟨⟨by decide +kernel, by decide +kernel⟩, List.mem_of_getElem? (i := 816) (by decide +kernel), List.mem_of_getElem? (i := 1059) (by decide +kernel), List.mem_of_getElem? (i := 1060) (by decide +kernel)⟩
theorem lw_p23 : lw_okq (⟨"PlainStepsModel", "doAll", "(I)V"⟩, 52) := ⟨⟨by decide +kernel, by decide +kernel⟩, List.mem_of_getElem? (i := 816) (by decide +kernel), List.mem_of_getElem? (i := 1064) (by decide +kernel), List.mem_of_getElem? (i := 1065) (by decide +kernel)⟩
theorem lw_p24 : lw_okq (⟨"PlainStepsModel", "doTransfer", "(II)V"⟩, 52) := ⟨⟨by decide +kernel, by decide +kernel⟩, List.mem_of_getElem? (i := 816) (by decide +kernel), List.mem_of_getElem? (i := 1068) (by decide +kernel), List.mem_of_getElem? (i := 1069) (by decide +kernel)⟩
theorem lw_p25 : lw_okq (⟨"PlainStepsModel", "operand", "(II)J"⟩, 52) := ⟨⟨by decide +kernel, by decide +kernel⟩, List.mem_of_getElem? (i := 816) (by decide +kernel), List.mem_of_getElem? (i := 1072) (by decide +kernel), List.mem_of_getElem? (i := 1073) (by decide +kernel)⟩
theorem lw_p26 : lw_okq (⟨"PlainStepsModel", "isParallel", "(I)Z"⟩, 52) := ⟨⟨by decide +kernel, by decide +kernel⟩, List.mem_of_getElem? (i := 816) (by decide +kernel), List.mem_of_getElem? (i := 1076) (by decide +kernel), List.mem_of_getElem? (i := 1077) (by decide +kernel)⟩
theorem lw_p27 : lw_okq (⟨"PlainStepsModel", "store", "(IJJI)V"⟩, 52) := ⟨⟨by decide +kernel, by decide +kernel⟩, List.mem_of_getElem? (i := 816) (by decide +kernel), List.mem_of_getElem? (i := 1081) (by decide +kernel), List.mem_of_getElem? (i := 1082) (by decide +kernel)⟩
theorem lw_p28 : lw_okq (⟨"PlainStepsModel", "isThere", "(JI)Z"⟩, 52) := ⟨⟨by decide +kernel, by decide +kernel⟩, List.mem_of_getElem? (i := 816) (by decide +kernel), List.mem_of_getElem? (i := 1085) (by decide +kernel), List.mem_of_getElem? (i := 1086) (by decide +kernel)⟩
theorem lw_p29 : lw_okq (⟨"PlainStepsModel", "later", "(IIJZ)V"⟩, 52) := ⟨⟨by decide +kernel, by decide +kernel⟩, List.mem_of_getElem? (i := 816) (by decide +kernel), List.mem_of_getElem? (i := 1089) (by decide +kernel), List.mem_of_getElem? (i := 1090) (by decide +kernel)⟩
theorem lw_p30 : lw_okq (⟨"PlainStepsModel", "setMemory", "(IJI)V"⟩, 52) := ⟨⟨by decide +kernel, by decide +kernel⟩, List.mem_of_getElem? (i := 816) (by decide +kernel), List.mem_of_getElem? (i := 1093) (by decide +kernel), List.mem_of_getElem? (i := 1094) (by decide +kernel)⟩
theorem lw_p31 : lw_okq (⟨"PlainStepsModel", "markOnly", "(II)V"⟩, 52) := ⟨⟨by decide +kernel, by decide +kernel⟩, List.mem_of_getElem? (i := 816) (by decide +kernel), List.mem_of_getElem? (i := 1097) (by decide +kernel), List.mem_of_getElem? (i := 1098) (by decide +kernel)⟩
def lw_privs_2 : List (MethodName × Nat) := [(⟨"PlainStepsModel", "stepOnce", "()V"⟩, 52), (⟨"PlainStepsModel", "waitingLine", "()I"⟩, 52), (⟨"PlainStepsModel", "doInstruction", "()V"⟩, 52), (⟨"PlainStepsModel", "takeFault", "(I)V"⟩, 52), (⟨"PlainStepsModel", "keep", "(III)Z"⟩, 52), (⟨"PlainStepsModel", "find", "()I"⟩, 52), (⟨"PlainStepsModel", "save", "()V"⟩, 52), (⟨"PlainStepsModel", "doAll", "(I)V"⟩, 52), (⟨"PlainStepsModel", "doTransfer", "(II)V"⟩, 52), (⟨"PlainStepsModel", "operand", "(II)J"⟩, 52), (⟨"PlainStepsModel", "isParallel", "(I)Z"⟩, 52), (⟨"PlainStepsModel", "store", "(IJJI)V"⟩, 52), (⟨"PlainStepsModel", "isThere", "(JI)Z"⟩, 52), (⟨"PlainStepsModel", "later", "(IIJZ)V"⟩, 52), (⟨"PlainStepsModel", "setMemory", "(IJI)V"⟩, 52), (⟨"PlainStepsModel", "markOnly", "(II)V"⟩, 52)]
theorem lw_r2 : ∀ q ∈ lw_privs_2, lw_okq q := List.forall_mem_cons.mpr ⟨lw_p16, List.forall_mem_cons.mpr ⟨lw_p17, List.forall_mem_cons.mpr ⟨lw_p18, List.forall_mem_cons.mpr ⟨lw_p19, List.forall_mem_cons.mpr ⟨lw_p20, List.forall_mem_cons.mpr ⟨lw_p21, List.forall_mem_cons.mpr ⟨lw_p22, List.forall_mem_cons.mpr ⟨lw_p23, List.forall_mem_cons.mpr ⟨lw_p24, List.forall_mem_cons.mpr ⟨lw_p25, List.forall_mem_cons.mpr ⟨lw_p26, List.forall_mem_cons.mpr ⟨lw_p27, List.forall_mem_cons.mpr ⟨lw_p28, List.forall_mem_cons.mpr ⟨lw_p29, List.forall_mem_cons.mpr ⟨lw_p30, List.forall_mem_cons.mpr ⟨lw_p31, fun _ h => absurd h List.not_mem_nil⟩⟩⟩⟩⟩⟩⟩⟩⟩⟩⟩⟩⟩⟩⟩⟩
theorem lw_p32 : lw_okq (⟨"PlainStepsModel", "back", "()V"⟩, 52) := ⟨⟨by decide +kernel, by decide +kernel⟩, List.mem_of_getElem? (i := 816) (by decide +kernel), List.mem_of_getElem? (i := 1101) (by decide +kernel), List.mem_of_getElem? (i := 1102) (by decide +kernel)⟩
theorem lw_p33 : lw_okq (⟨"PlainStepsModel", "compute", "(IIJJ)V"⟩, 52) := ⟨⟨by decide +kernel, by decide +kernel⟩, List.mem_of_getElem? (i := 816) (by decide +kernel), List.mem_of_getElem? (i := 1105) (by decide +kernel), List.mem_of_getElem? (i := 1106) (by decide +kernel)⟩
theorem lw_p34 : lw_okq (⟨"PlainStepsModel", "isMarked", "(II)Z"⟩, 52) := ⟨⟨by decide +kernel, by decide +kernel⟩, List.mem_of_getElem? (i := 816) (by decide +kernel), List.mem_of_getElem? (i := 1109) (by decide +kernel), List.mem_of_getElem? (i := 1110) (by decide +kernel)⟩
theorem lw_p35 : lw_okq (⟨"PlainStepsModel", "result", "(IIJZ)V"⟩, 52) := ⟨⟨by decide +kernel, by decide +kernel⟩, List.mem_of_getElem? (i := 816) (by decide +kernel), List.mem_of_getElem? (i := 1124) (by decide +kernel), List.mem_of_getElem? (i := 1125) (by decide +kernel)⟩
theorem lw_p36 : lw_okq (⟨"PlainStepsModel", "cut", "(IJ)J"⟩, 52) := ⟨⟨by decide +kernel, by decide +kernel⟩, List.mem_of_getElem? (i := 816) (by decide +kernel), List.mem_of_getElem? (i := 1128) (by decide +kernel), List.mem_of_getElem? (i := 1129) (by decide +kernel)⟩
theorem lw_p37 : lw_okq (⟨"PlainStepsModel", "setRegister", "(IJZ)V"⟩, 52) := ⟨⟨by decide +kernel, by decide +kernel⟩, List.mem_of_getElem? (i := 816) (by decide +kernel), List.mem_of_getElem? (i := 1132) (by decide +kernel), List.mem_of_getElem? (i := 1133) (by decide +kernel)⟩
theorem lw_p38 : lw_okq (⟨"PlainStepsModel", "writeAll", "()V"⟩, 52) := ⟨⟨by decide +kernel, by decide +kernel⟩, List.mem_of_getElem? (i := 816) (by decide +kernel), List.mem_of_getElem? (i := 1136) (by decide +kernel), List.mem_of_getElem? (i := 1137) (by decide +kernel)⟩
theorem lw_p39 : lw_okq (⟨"PlainStepsModel", "restore", "()V"⟩, 52) := ⟨⟨by decide +kernel, by decide +kernel⟩, List.mem_of_getElem? (i := 816) (by decide +kernel), List.mem_of_getElem? (i := 1140) (by decide +kernel), List.mem_of_getElem? (i := 1141) (by decide +kernel)⟩
theorem lw_p40 : lw_okq (⟨"PlainStepsModel", "comePlace", "(I)V"⟩, 52) := ⟨⟨by decide +kernel, by decide +kernel⟩, List.mem_of_getElem? (i := 816) (by decide +kernel), List.mem_of_getElem? (i := 1144) (by decide +kernel), List.mem_of_getElem? (i := 1145) (by decide +kernel)⟩
theorem lw_p41 : lw_okq (⟨"PlainStepsModel", "isRegister", "(I)Z"⟩, 52) := ⟨⟨by decide +kernel, by decide +kernel⟩, List.mem_of_getElem? (i := 816) (by decide +kernel), List.mem_of_getElem? (i := 1152) (by decide +kernel), List.mem_of_getElem? (i := 1153) (by decide +kernel)⟩
def lw_privs_3 : List (MethodName × Nat) := [(⟨"PlainStepsModel", "back", "()V"⟩, 52), (⟨"PlainStepsModel", "compute", "(IIJJ)V"⟩, 52), (⟨"PlainStepsModel", "isMarked", "(II)Z"⟩, 52), (⟨"PlainStepsModel", "result", "(IIJZ)V"⟩, 52), (⟨"PlainStepsModel", "cut", "(IJ)J"⟩, 52), (⟨"PlainStepsModel", "setRegister", "(IJZ)V"⟩, 52), (⟨"PlainStepsModel", "writeAll", "()V"⟩, 52), (⟨"PlainStepsModel", "restore", "()V"⟩, 52), (⟨"PlainStepsModel", "comePlace", "(I)V"⟩, 52), (⟨"PlainStepsModel", "isRegister", "(I)Z"⟩, 52)]
theorem lw_r3 : ∀ q ∈ lw_privs_3, lw_okq q := List.forall_mem_cons.mpr ⟨lw_p32, List.forall_mem_cons.mpr ⟨lw_p33, List.forall_mem_cons.mpr ⟨lw_p34, List.forall_mem_cons.mpr ⟨lw_p35, List.forall_mem_cons.mpr ⟨lw_p36, List.forall_mem_cons.mpr ⟨lw_p37, List.forall_mem_cons.mpr ⟨lw_p38, List.forall_mem_cons.mpr ⟨lw_p39, List.forall_mem_cons.mpr ⟨lw_p40, List.forall_mem_cons.mpr ⟨lw_p41, fun _ h => absurd h List.not_mem_nil⟩⟩⟩⟩⟩⟩⟩⟩⟩⟩
def lw_privs : List (MethodName × Nat) := lw_privs_1 ++ (lw_privs_2 ++ (lw_privs_3))
def lw_tbl : List Cond := k2_sels lw_privs ++ tables_1
theorem lw_privs_ok : ∀ q ∈ lw_privs, lw_okq q := by
  show ∀ q ∈ lw_privs_1 ++ (lw_privs_2 ++ (lw_privs_3)), lw_okq q
  exact List.forall_mem_append.mpr ⟨lw_r1, List.forall_mem_append.mpr ⟨lw_r2, lw_r3⟩⟩
/-! the words that every method here is given: those of the tables that stay -/
def zq_W : List Cond := lw_tbl.filter goodWord
theorem zq_Wg {w : Cond} (h : w ∈ zq_W) : goodWord w = true := (List.mem_filter.mp h).2
theorem zq_gW {w : Cond} (h : w ∈ zq_W) : w ∈ zq_W ∧ ((w.onTables && w.keeps) = true ∨ ∃ ty, w = .arrayClass ty) := ⟨h, good_of_word (zq_Wg h)⟩
theorem zq_gI {y : MethodName} {b : ByteArray} {n : Nat} {r : Option FieldType} (h : Cond.code y b n r ∈ zq_W) : GoodIn zq_W (.code y b n r :: zq_W) := fun w hw => by
  rcases List.mem_cons.mp hw with rfl | hw
  · exact zq_gW h
  · exact zq_gW hw
theorem zq_gV {own C : String} {idx : Nat} {y : MethodName} {b : ByteArray} {n : Nat} {r : Option FieldType} (h1 : Cond.methodLink own idx y ∈ zq_W) (h2 : Cond.instanceMethod y ∈ zq_W) (h3 : Cond.selects C y y ∈ zq_W) (h4 : Cond.initialized C ∈ zq_W) (h5 : Cond.code y b n r ∈ zq_W) : GoodIn zq_W (wsV own idx C y (.code y b n r :: zq_W)) := fun w hw => by
  unfold wsV at hw
  rcases List.mem_append.mp hw with hw | hw
  · simp only [List.mem_cons, List.not_mem_nil, or_false] at hw
    rcases hw with rfl | rfl | rfl | rfl
    · exact zq_gW h1
    · exact zq_gW h2
    · exact zq_gW h3
    · exact zq_gW h4
  · exact zq_gI h5 w hw
theorem zq_gS {own : String} {idx : Nat} {y : MethodName} {b : ByteArray} {n : Nat} {r : Option FieldType} (h1 : Cond.methodLink own idx y ∈ zq_W) (h2 : Cond.static y ∈ zq_W) (h3 : Cond.initialized own ∈ zq_W) (h5 : Cond.code y b n r ∈ zq_W) : GoodIn zq_W (wsS own idx y (.code y b n r :: zq_W)) := fun w hw => by
  unfold wsS at hw
  rcases List.mem_append.mp hw with hw | hw
  · simp only [List.mem_cons, List.not_mem_nil, or_false] at hw
    rcases hw with rfl | rfl | rfl
    · exact zq_gW h1
    · exact zq_gW h2
    · exact zq_gW h3
  · exact zq_gI h5 w hw
abbrev zR_Registers : String := "PlainSteps$Registers"
def zF_Registers : u_T := fun k => match k with
  | 0 => ("PlainSteps$Registers", "cuts", "[J", true)
  | 1 => ("PlainSteps$Registers", "values", "[J", true)
  | 2 => ("PlainSteps$Registers", "marks", "[Z", true)
  | _ => ("PlainSteps$Registers", "count", "I", false)
def zt_Registers : Nat → FieldType := fun k => match k with
  | 0 => (.array .long)
  | 1 => (.array .long)
  | 2 => (.array .boolean)
  | _ => .int
theorem zn_Registers : ∀ a, a < 4 → ∀ b, b < 4 → a ≠ b → (zF_Registers a).2.1 ≠ (zF_Registers b).2.1 := by decide +kernel
theorem zt_Registers_ok : ∀ k, k < 4 → parseFieldDescriptor (zF_Registers k).2.2.1 = some (zt_Registers k) := by decide +kernel
abbrev zR_Bytes : String := "PlainSteps$Bytes"
def zF_Bytes : u_T := fun k => match k with
  | _ => ("PlainSteps$Bytes", "cells", "[B", true)
def zt_Bytes : Nat → FieldType := fun k => match k with
  | _ => (.array .byte)
theorem zn_Bytes : ∀ a, a < 1 → ∀ b, b < 1 → a ≠ b → (zF_Bytes a).2.1 ≠ (zF_Bytes b).2.1 := by decide +kernel
theorem zt_Bytes_ok : ∀ k, k < 1 → parseFieldDescriptor (zF_Bytes k).2.2.1 = some (zt_Bytes k) := by decide +kernel
abbrev zR_Operands : String := "PlainSteps$Operands"
def zF_Operands : u_T := fun k => match k with
  | 0 => ("PlainSteps$Operands", "registers", "LPlainSteps$Registers;", true)
  | 1 => ("PlainSteps$Operands", "constants", "[J", true)
  | 2 => ("PlainSteps$Operands", "fieldFrom", "[I", true)
  | 3 => ("PlainSteps$Operands", "fieldTo", "[I", true)
  | 4 => ("PlainSteps$Operands", "fieldSign", "[Z", true)
  | 5 => ("PlainSteps$Operands", "constantCount", "I", false)
  | _ => ("PlainSteps$Operands", "fieldCount", "I", false)
def zt_Operands : Nat → FieldType := fun k => match k with
  | 0 => (.object "PlainSteps$Registers")
  | 1 => (.array .long)
  | 2 => (.array .int)
  | 3 => (.array .int)
  | 4 => (.array .boolean)
  | 5 => .int
  | _ => .int
theorem zn_Operands : ∀ a, a < 7 → ∀ b, b < 7 → a ≠ b → (zF_Operands a).2.1 ≠ (zF_Operands b).2.1 := by decide +kernel
theorem zt_Operands_ok : ∀ k, k < 7 → parseFieldDescriptor (zF_Operands k).2.2.1 = some (zt_Operands k) := by decide +kernel
abbrev zR_Program : String := "PlainSteps$Program"
def zF_Program : u_T := fun k => match k with
  | 0 => ("PlainSteps$Program", "ops", "[I", true)
  | 1 => ("PlainSteps$Program", "firsts", "[I", true)
  | 2 => ("PlainSteps$Program", "seconds", "[I", true)
  | 3 => ("PlainSteps$Program", "targets", "[I", true)
  | 4 => ("PlainSteps$Program", "transferCount", "I", false)
  | 5 => ("PlainSteps$Program", "masks", "[I", true)
  | 6 => ("PlainSteps$Program", "values", "[I", true)
  | 7 => ("PlainSteps$Program", "ways", "[I", true)
  | 8 => ("PlainSteps$Program", "starts", "[I", true)
  | 9 => ("PlainSteps$Program", "ends", "[I", true)
  | _ => ("PlainSteps$Program", "instructionCount", "I", false)
def zt_Program : Nat → FieldType := fun k => match k with
  | 0 => (.array .int)
  | 1 => (.array .int)
  | 2 => (.array .int)
  | 3 => (.array .int)
  | 4 => .int
  | 5 => (.array .int)
  | 6 => (.array .int)
  | 7 => (.array .int)
  | 8 => (.array .int)
  | 9 => (.array .int)
  | _ => .int
theorem zn_Program : ∀ a, a < 11 → ∀ b, b < 11 → a ≠ b → (zF_Program a).2.1 ≠ (zF_Program b).2.1 := by decide +kernel
theorem zt_Program_ok : ∀ k, k < 11 → parseFieldDescriptor (zF_Program k).2.2.1 = some (zt_Program k) := by decide +kernel
abbrev zR_Kept : String := "PlainSteps$Kept"
def zF_Kept : u_T := fun k => match k with
  | 0 => ("PlainSteps$Kept", "places", "[I", true)
  | 1 => ("PlainSteps$Kept", "levels", "[I", true)
  | 2 => ("PlainSteps$Kept", "count", "I", false)
  | _ => ("PlainSteps$Kept", "level", "I", false)
def zt_Kept : Nat → FieldType := fun k => match k with
  | 0 => (.array .int)
  | 1 => (.array .int)
  | 2 => .int
  | _ => .int
theorem zn_Kept : ∀ a, a < 4 → ∀ b, b < 4 → a ≠ b → (zF_Kept a).2.1 ≠ (zF_Kept b).2.1 := by decide +kernel
theorem zt_Kept_ok : ∀ k, k < 4 → parseFieldDescriptor (zF_Kept k).2.2.1 = some (zt_Kept k) := by decide +kernel
abbrev zR_Lines : String := "PlainSteps$Lines"
def zF_Lines : u_T := fun k => match k with
  | 0 => ("PlainSteps$Lines", "on", "[Z", true)
  | _ => ("PlainSteps$Lines", "ranks", "[I", true)
def zt_Lines : Nat → FieldType := fun k => match k with
  | 0 => (.array .boolean)
  | _ => (.array .int)
theorem zn_Lines : ∀ a, a < 2 → ∀ b, b < 2 → a ≠ b → (zF_Lines a).2.1 ≠ (zF_Lines b).2.1 := by decide +kernel
theorem zt_Lines_ok : ∀ k, k < 2 → parseFieldDescriptor (zF_Lines k).2.2.1 = some (zt_Lines k) := by decide +kernel
abbrev zR_Writes : String := "PlainSteps$Writes"
def zF_Writes : u_T := fun k => match k with
  | 0 => ("PlainSteps$Writes", "registers", "LPlainSteps$Registers;", true)
  | 1 => ("PlainSteps$Writes", "bytes", "LPlainSteps$Bytes;", true)
  | 2 => ("PlainSteps$Writes", "forms", "[I", true)
  | 3 => ("PlainSteps$Writes", "targets", "[I", true)
  | 4 => ("PlainSteps$Writes", "values", "[J", true)
  | _ => ("PlainSteps$Writes", "count", "I", false)
def zt_Writes : Nat → FieldType := fun k => match k with
  | 0 => (.object "PlainSteps$Registers")
  | 1 => (.object "PlainSteps$Bytes")
  | 2 => (.array .int)
  | 3 => (.array .int)
  | 4 => (.array .long)
  | _ => .int
theorem zn_Writes : ∀ a, a < 6 → ∀ b, b < 6 → a ≠ b → (zF_Writes a).2.1 ≠ (zF_Writes b).2.1 := by decide +kernel
theorem zt_Writes_ok : ∀ k, k < 6 → parseFieldDescriptor (zF_Writes k).2.2.1 = some (zt_Writes k) := by decide +kernel
abbrev zR_Work : String := "PlainSteps$Work"
def zF_Work : u_T := fun k => match k with
  | 0 => ("PlainSteps$Work", "registers", "LPlainSteps$Registers;", true)
  | 1 => ("PlainSteps$Work", "bytes", "LPlainSteps$Bytes;", true)
  | 2 => ("PlainSteps$Work", "operands", "LPlainSteps$Operands;", true)
  | 3 => ("PlainSteps$Work", "program", "LPlainSteps$Program;", true)
  | 4 => ("PlainSteps$Work", "kept", "LPlainSteps$Kept;", true)
  | 5 => ("PlainSteps$Work", "writes", "LPlainSteps$Writes;", true)
  | 6 => ("PlainSteps$Work", "counts", "[I", true)
  | 7 => ("PlainSteps$Work", "word", "I", false)
  | 8 => ("PlainSteps$Work", "parallel", "Z", false)
  | 9 => ("PlainSteps$Work", "restoring", "Z", false)
  | 10 => ("PlainSteps$Work", "wrotePlace", "Z", false)
  | 11 => ("PlainSteps$Work", "ended", "Z", false)
  | 12 => ("PlainSteps$Work", "halts", "Z", false)
  | _ => ("PlainSteps$Work", "backPlace", "I", false)
def zt_Work : Nat → FieldType := fun k => match k with
  | 0 => (.object "PlainSteps$Registers")
  | 1 => (.object "PlainSteps$Bytes")
  | 2 => (.object "PlainSteps$Operands")
  | 3 => (.object "PlainSteps$Program")
  | 4 => (.object "PlainSteps$Kept")
  | 5 => (.object "PlainSteps$Writes")
  | 6 => (.array .int)
  | 7 => .int
  | 8 => .boolean
  | 9 => .boolean
  | 10 => .boolean
  | 11 => .boolean
  | 12 => .boolean
  | _ => .int
theorem zn_Work : ∀ a, a < 14 → ∀ b, b < 14 → a ≠ b → (zF_Work a).2.1 ≠ (zF_Work b).2.1 := by decide +kernel
theorem zt_Work_ok : ∀ k, k < 14 → parseFieldDescriptor (zF_Work k).2.2.1 = some (zt_Work k) := by decide +kernel
abbrev zR_Machine : String := "PlainSteps$Machine"
def zF_Machine : u_T := fun k => match k with
  | 0 => ("PlainSteps$Machine", "registers", "LPlainSteps$Registers;", true)
  | 1 => ("PlainSteps$Machine", "bytes", "LPlainSteps$Bytes;", true)
  | 2 => ("PlainSteps$Machine", "program", "LPlainSteps$Program;", true)
  | 3 => ("PlainSteps$Machine", "kept", "LPlainSteps$Kept;", true)
  | 4 => ("PlainSteps$Machine", "lines", "LPlainSteps$Lines;", true)
  | 5 => ("PlainSteps$Machine", "work", "LPlainSteps$Work;", true)
  | 6 => ("PlainSteps$Machine", "counts", "[I", true)
  | 7 => ("PlainSteps$Machine", "waitingPlace", "I", false)
  | 8 => ("PlainSteps$Machine", "halt", "I", false)
  | 9 => ("PlainSteps$Machine", "faultKind", "I", false)
  | _ => ("PlainSteps$Machine", "faultPlace", "I", false)
def zt_Machine : Nat → FieldType := fun k => match k with
  | 0 => (.object "PlainSteps$Registers")
  | 1 => (.object "PlainSteps$Bytes")
  | 2 => (.object "PlainSteps$Program")
  | 3 => (.object "PlainSteps$Kept")
  | 4 => (.object "PlainSteps$Lines")
  | 5 => (.object "PlainSteps$Work")
  | 6 => (.array .int)
  | 7 => .int
  | 8 => .int
  | 9 => .int
  | _ => .int
theorem zn_Machine : ∀ a, a < 11 → ∀ b, b < 11 → a ≠ b → (zF_Machine a).2.1 ≠ (zF_Machine b).2.1 := by decide +kernel
theorem zt_Machine_ok : ∀ k, k < 11 → parseFieldDescriptor (zF_Machine k).2.2.1 = some (zt_Machine k) := by decide +kernel
abbrev zR_PS : String := "PlainSteps"
def zF_PS : u_T := fun k => match k with
  | 0 => ("PlainSteps", "registers", "LPlainSteps$Registers;", true)
  | 1 => ("PlainSteps", "bytes", "LPlainSteps$Bytes;", true)
  | 2 => ("PlainSteps", "operands", "LPlainSteps$Operands;", true)
  | 3 => ("PlainSteps", "program", "LPlainSteps$Program;", true)
  | 4 => ("PlainSteps", "kept", "LPlainSteps$Kept;", true)
  | 5 => ("PlainSteps", "lines", "LPlainSteps$Lines;", true)
  | 6 => ("PlainSteps", "machine", "LPlainSteps$Machine;", true)
  | _ => ("PlainSteps", "counts", "[I", true)
def zt_PS : Nat → FieldType := fun k => match k with
  | 0 => (.object "PlainSteps$Registers")
  | 1 => (.object "PlainSteps$Bytes")
  | 2 => (.object "PlainSteps$Operands")
  | 3 => (.object "PlainSteps$Program")
  | 4 => (.object "PlainSteps$Kept")
  | 5 => (.object "PlainSteps$Lines")
  | 6 => (.object "PlainSteps$Machine")
  | _ => (.array .int)
theorem zn_PS : ∀ a, a < 8 → ∀ b, b < 8 → a ≠ b → (zF_PS a).2.1 ≠ (zF_PS b).2.1 := by decide +kernel
theorem zt_PS_ok : ∀ k, k < 8 → parseFieldDescriptor (zF_PS k).2.2.1 = some (zt_PS k) := by decide +kernel
abbrev zR_M : String := "PlainStepsModel"
def zF_M : u_T := fun k => match k with
  | 0 => ("PlainStepsModel", "thrown", "I", false)
  | 1 => ("PlainStepsModel", "registers", "I", false)
  | 2 => ("PlainStepsModel", "width", "[I", true)
  | 3 => ("PlainStepsModel", "value", "[J", true)
  | 4 => ("PlainStepsModel", "before", "[J", true)
  | 5 => ("PlainStepsModel", "saved", "[J", true)
  | 6 => ("PlainStepsModel", "marked", "[Z", true)
  | 7 => ("PlainStepsModel", "markedBefore", "[Z", true)
  | 8 => ("PlainStepsModel", "markedSaved", "[Z", true)
  | 9 => ("PlainStepsModel", "memory", "[B", true)
  | 10 => ("PlainStepsModel", "memorySaved", "[B", true)
  | 11 => ("PlainStepsModel", "constants", "I", false)
  | 12 => ("PlainStepsModel", "fields", "I", false)
  | 13 => ("PlainStepsModel", "transfers", "I", false)
  | 14 => ("PlainStepsModel", "instructions", "I", false)
  | 15 => ("PlainStepsModel", "constant", "[J", true)
  | 16 => ("PlainStepsModel", "from", "[I", true)
  | 17 => ("PlainStepsModel", "to", "[I", true)
  | 18 => ("PlainStepsModel", "signed", "[Z", true)
  | 19 => ("PlainStepsModel", "op", "[I", true)
  | 20 => ("PlainStepsModel", "first", "[I", true)
  | 21 => ("PlainStepsModel", "second", "[I", true)
  | 22 => ("PlainStepsModel", "target", "[I", true)
  | 23 => ("PlainStepsModel", "mask", "[I", true)
  | 24 => ("PlainStepsModel", "pattern", "[I", true)
  | 25 => ("PlainStepsModel", "how", "[I", true)
  | 26 => ("PlainStepsModel", "begin", "[I", true)
  | 27 => ("PlainStepsModel", "on", "[Z", true)
  | 28 => ("PlainStepsModel", "rank", "[I", true)
  | 29 => ("PlainStepsModel", "level", "I", false)
  | 30 => ("PlainStepsModel", "kept", "I", false)
  | 31 => ("PlainStepsModel", "levelSaved", "I", false)
  | 32 => ("PlainStepsModel", "keptSaved", "I", false)
  | 33 => ("PlainStepsModel", "keptPlace", "[I", true)
  | 34 => ("PlainStepsModel", "keptLevel", "[I", true)
  | 35 => ("PlainStepsModel", "word", "I", false)
  | 36 => ("PlainStepsModel", "stands", "I", false)
  | 37 => ("PlainStepsModel", "fault", "I", false)
  | 38 => ("PlainStepsModel", "ends", "Z", false)
  | 39 => ("PlainStepsModel", "halts", "Z", false)
  | 40 => ("PlainStepsModel", "wrote", "Z", false)
  | 41 => ("PlainStepsModel", "waits", "Z", false)
  | 42 => ("PlainStepsModel", "waitsPlace", "J", false)
  | 43 => ("PlainStepsModel", "writes", "I", false)
  | 44 => ("PlainStepsModel", "writeTo", "[I", true)
  | 45 => ("PlainStepsModel", "writeAt", "[I", true)
  | 46 => ("PlainStepsModel", "writeValue", "[J", true)
  | 47 => ("PlainStepsModel", "writeMark", "[Z", true)
  | 48 => ("PlainStepsModel", "halted", "I", false)
  | 49 => ("PlainStepsModel", "latest", "I", false)
  | 50 => ("PlainStepsModel", "latestPlace", "I", false)
  | _ => ("PlainStepsModel", "count", "[I", true)
def zt_M : Nat → FieldType := fun k => match k with
  | 0 => .int
  | 1 => .int
  | 2 => (.array .int)
  | 3 => (.array .long)
  | 4 => (.array .long)
  | 5 => (.array .long)
  | 6 => (.array .boolean)
  | 7 => (.array .boolean)
  | 8 => (.array .boolean)
  | 9 => (.array .byte)
  | 10 => (.array .byte)
  | 11 => .int
  | 12 => .int
  | 13 => .int
  | 14 => .int
  | 15 => (.array .long)
  | 16 => (.array .int)
  | 17 => (.array .int)
  | 18 => (.array .boolean)
  | 19 => (.array .int)
  | 20 => (.array .int)
  | 21 => (.array .int)
  | 22 => (.array .int)
  | 23 => (.array .int)
  | 24 => (.array .int)
  | 25 => (.array .int)
  | 26 => (.array .int)
  | 27 => (.array .boolean)
  | 28 => (.array .int)
  | 29 => .int
  | 30 => .int
  | 31 => .int
  | 32 => .int
  | 33 => (.array .int)
  | 34 => (.array .int)
  | 35 => .int
  | 36 => .int
  | 37 => .int
  | 38 => .boolean
  | 39 => .boolean
  | 40 => .boolean
  | 41 => .boolean
  | 42 => .long
  | 43 => .int
  | 44 => (.array .int)
  | 45 => (.array .int)
  | 46 => (.array .long)
  | 47 => (.array .boolean)
  | 48 => .int
  | 49 => .int
  | 50 => .int
  | _ => (.array .int)
theorem zn_M : ∀ a, a < 52 → ∀ b, b < 52 → a ≠ b → (zF_M a).2.1 ≠ (zF_M b).2.1 := by decide +kernel
theorem zt_M_ok : ∀ k, k < 52 → parseFieldDescriptor (zF_M k).2.2.1 = some (zt_M k) := by decide +kernel
abbrev vwCl : List vw_C := [(zR_Registers, zF_Registers, 4), (zR_Bytes, zF_Bytes, 1), (zR_Operands, zF_Operands, 7), (zR_Program, zF_Program, 11), (zR_Kept, zF_Kept, 4), (zR_Lines, zF_Lines, 2), (zR_Writes, zF_Writes, 6), (zR_Work, zF_Work, 14), (zR_Machine, zF_Machine, 11), (zR_PS, zF_PS, 8), (zR_M, zF_M, 52)]
abbrev zy_Registers_init : MethodName := ⟨"PlainSteps$Registers", "<init>", "()V"⟩
abbrev zb_Registers_init : ByteArray := prog_8_method_1_code
abbrev zs_Registers_init : List Cond := .code zy_Registers_init zb_Registers_init 1 none :: zq_W
abbrev zy_Registers_add : MethodName := ⟨"PlainSteps$Registers", "add", "(I)I"⟩
abbrev zb_Registers_add : ByteArray := prog_8_method_2_code
abbrev zs_Registers_add : List Cond := .code zy_Registers_add zb_Registers_add 2 (some .int) :: zq_W
abbrev zy_Registers_has : MethodName := ⟨"PlainSteps$Registers", "has", "(I)Z"⟩
abbrev zb_Registers_has : ByteArray := prog_8_method_3_code
abbrev zs_Registers_has : List Cond := .code zy_Registers_has zb_Registers_has 2 (some .boolean) :: zq_W
abbrev zy_Registers_valueOf : MethodName := ⟨"PlainSteps$Registers", "valueOf", "(I)J"⟩
abbrev zb_Registers_valueOf : ByteArray := prog_8_method_4_code
abbrev zs_Registers_valueOf : List Cond := .code zy_Registers_valueOf zb_Registers_valueOf 2 (some .long) :: zq_W
abbrev zy_Registers_isMarked : MethodName := ⟨"PlainSteps$Registers", "isMarked", "(I)Z"⟩
abbrev zb_Registers_isMarked : ByteArray := prog_8_method_5_code
abbrev zs_Registers_isMarked : List Cond := .code zy_Registers_isMarked zb_Registers_isMarked 2 (some .boolean) :: zq_W
abbrev zy_Registers_put : MethodName := ⟨"PlainSteps$Registers", "put", "(IJZ)V"⟩
abbrev zb_Registers_put : ByteArray := prog_8_method_6_code
abbrev zs_Registers_put : List Cond := .code zy_Registers_put zb_Registers_put 5 none :: zq_W
abbrev zy_Registers_placeNow : MethodName := ⟨"PlainSteps$Registers", "placeNow", "()I"⟩
abbrev zb_Registers_placeNow : ByteArray := prog_8_method_7_code
abbrev zs_Registers_placeNow : List Cond := .code zy_Registers_placeNow zb_Registers_placeNow 1 (some .int) :: zq_W
abbrev zy_Registers_movePlace : MethodName := ⟨"PlainSteps$Registers", "movePlace", "(I)V"⟩
abbrev zb_Registers_movePlace : ByteArray := prog_8_method_8_code
abbrev zs_Registers_movePlace : List Cond := .code zy_Registers_movePlace zb_Registers_movePlace 2 none :: zq_W
abbrev zy_Bytes_init : MethodName := ⟨"PlainSteps$Bytes", "<init>", "()V"⟩
abbrev zb_Bytes_init : ByteArray := prog_2_method_1_code
abbrev zs_Bytes_init : List Cond := .code zy_Bytes_init zb_Bytes_init 1 none :: zq_W
abbrev zy_Bytes_hasByte : MethodName := ⟨"PlainSteps$Bytes", "hasByte", "(J)Z"⟩
abbrev zb_Bytes_hasByte : ByteArray := prog_2_method_2_code
abbrev zs_Bytes_hasByte : List Cond := .code zy_Bytes_hasByte zb_Bytes_hasByte 3 (some .boolean) :: zq_W
abbrev zy_Bytes_hasWord : MethodName := ⟨"PlainSteps$Bytes", "hasWord", "(J)Z"⟩
abbrev zb_Bytes_hasWord : ByteArray := prog_2_method_3_code
abbrev zs_Bytes_hasWord : List Cond := .code zy_Bytes_hasWord zb_Bytes_hasWord 3 (some .boolean) :: zq_W
abbrev zy_Bytes_byteOf : MethodName := ⟨"PlainSteps$Bytes", "byteOf", "(I)I"⟩
abbrev zb_Bytes_byteOf : ByteArray := prog_2_method_4_code
abbrev zs_Bytes_byteOf : List Cond := .code zy_Bytes_byteOf zb_Bytes_byteOf 2 (some .int) :: zq_W
abbrev zy_Bytes_wordOf : MethodName := ⟨"PlainSteps$Bytes", "wordOf", "(I)I"⟩
abbrev zb_Bytes_wordOf : ByteArray := prog_2_method_5_code
abbrev zs_Bytes_wordOf : List Cond := .code zy_Bytes_wordOf zb_Bytes_wordOf 2 (some .int) :: zq_W
abbrev zy_Bytes_putByte : MethodName := ⟨"PlainSteps$Bytes", "putByte", "(IJ)V"⟩
abbrev zb_Bytes_putByte : ByteArray := prog_2_method_6_code
abbrev zs_Bytes_putByte : List Cond := .code zy_Bytes_putByte zb_Bytes_putByte 4 none :: zq_W
abbrev zy_Bytes_putWord : MethodName := ⟨"PlainSteps$Bytes", "putWord", "(IJ)V"⟩
abbrev zb_Bytes_putWord : ByteArray := prog_2_method_7_code
abbrev zs_Bytes_putWord : List Cond := .code zy_Bytes_putWord zb_Bytes_putWord 4 none :: zq_W
abbrev zy_Operands_init : MethodName := ⟨"PlainSteps$Operands", "<init>", "(LPlainSteps$Registers;)V"⟩
abbrev zb_Operands_init : ByteArray := prog_6_method_1_code
abbrev zs_Operands_init : List Cond := .code zy_Operands_init zb_Operands_init 2 none :: zq_W
abbrev zy_Operands_addConstant : MethodName := ⟨"PlainSteps$Operands", "addConstant", "(J)I"⟩
abbrev zb_Operands_addConstant : ByteArray := prog_6_method_2_code
abbrev zs_Operands_addConstant : List Cond := .code zy_Operands_addConstant zb_Operands_addConstant 3 (some .int) :: zq_W
abbrev zy_Operands_addField : MethodName := ⟨"PlainSteps$Operands", "addField", "(IIZ)I"⟩
abbrev zb_Operands_addField : ByteArray := prog_6_method_3_code
abbrev zs_Operands_addField : List Cond := .code zy_Operands_addField zb_Operands_addField 4 (some .int) :: zq_W
abbrev zy_Operands_has : MethodName := ⟨"PlainSteps$Operands", "has", "(I)Z"⟩
abbrev zb_Operands_has : ByteArray := prog_6_method_4_code
abbrev zs_Operands_has : List Cond := .code zy_Operands_has zb_Operands_has 2 (some .boolean) :: zq_W
abbrev zy_Operands_read : MethodName := ⟨"PlainSteps$Operands", "read", "(II)J"⟩
abbrev zb_Operands_read : ByteArray := prog_6_method_5_code
abbrev zs_Operands_read : List Cond := .code zy_Operands_read zb_Operands_read 3 (some .long) :: zq_W
abbrev zy_Operands_readField : MethodName := ⟨"PlainSteps$Operands", "readField", "(II)J"⟩
abbrev zb_Operands_readField : ByteArray := prog_6_method_6_code
abbrev zs_Operands_readField : List Cond := .code zy_Operands_readField zb_Operands_readField 7 (some .long) :: zq_W
abbrev zy_Operands_isMarked : MethodName := ⟨"PlainSteps$Operands", "isMarked", "(I)Z"⟩
abbrev zb_Operands_isMarked : ByteArray := prog_6_method_7_code
abbrev zs_Operands_isMarked : List Cond := .code zy_Operands_isMarked zb_Operands_isMarked 2 (some .boolean) :: zq_W
abbrev zy_Program_init : MethodName := ⟨"PlainSteps$Program", "<init>", "()V"⟩
abbrev zb_Program_init : ByteArray := prog_7_method_1_code
abbrev zs_Program_init : List Cond := .code zy_Program_init zb_Program_init 1 none :: zq_W
abbrev zy_Program_addTransfer : MethodName := ⟨"PlainSteps$Program", "addTransfer", "(IIII)I"⟩
abbrev zb_Program_addTransfer : ByteArray := prog_7_method_2_code
abbrev zs_Program_addTransfer : List Cond := .code zy_Program_addTransfer zb_Program_addTransfer 5 (some .int) :: zq_W
abbrev zy_Program_addInstruction : MethodName := ⟨"PlainSteps$Program", "addInstruction", "(III)I"⟩
abbrev zb_Program_addInstruction : ByteArray := prog_7_method_3_code
abbrev zs_Program_addInstruction : List Cond := .code zy_Program_addInstruction zb_Program_addInstruction 4 (some .int) :: zq_W
abbrev zy_Program_find : MethodName := ⟨"PlainSteps$Program", "find", "(I)I"⟩
abbrev zb_Program_find : ByteArray := prog_7_method_4_code
abbrev zs_Program_find : List Cond := .code zy_Program_find zb_Program_find 3 (some .int) :: zq_W
abbrev zy_Program_is : MethodName := ⟨"PlainSteps$Program", "is", "(II)Z"⟩
abbrev zb_Program_is : ByteArray := prog_7_method_5_code
abbrev zs_Program_is : List Cond := .code zy_Program_is zb_Program_is 3 (some .boolean) :: zq_W
abbrev zy_Kept_init : MethodName := ⟨"PlainSteps$Kept", "<init>", "()V"⟩
abbrev zb_Kept_init : ByteArray := prog_3_method_1_code
abbrev zs_Kept_init : List Cond := .code zy_Kept_init zb_Kept_init 1 none :: zq_W
abbrev zy_Kept_isFull : MethodName := ⟨"PlainSteps$Kept", "isFull", "()Z"⟩
abbrev zb_Kept_isFull : ByteArray := prog_3_method_2_code
abbrev zs_Kept_isFull : List Cond := .code zy_Kept_isFull zb_Kept_isFull 1 (some .boolean) :: zq_W
abbrev zy_Kept_keep : MethodName := ⟨"PlainSteps$Kept", "keep", "(II)V"⟩
abbrev zb_Kept_keep : ByteArray := prog_3_method_3_code
abbrev zs_Kept_keep : List Cond := .code zy_Kept_keep zb_Kept_keep 3 none :: zq_W
abbrev zy_Kept_goBack : MethodName := ⟨"PlainSteps$Kept", "goBack", "()I"⟩
abbrev zb_Kept_goBack : ByteArray := prog_3_method_4_code
abbrev zs_Kept_goBack : List Cond := .code zy_Kept_goBack zb_Kept_goBack 1 (some .int) :: zq_W
abbrev zy_Kept_restore : MethodName := ⟨"PlainSteps$Kept", "restore", "(II)V"⟩
abbrev zb_Kept_restore : ByteArray := prog_3_method_5_code
abbrev zs_Kept_restore : List Cond := .code zy_Kept_restore zb_Kept_restore 3 none :: zq_W
abbrev zy_Lines_init : MethodName := ⟨"PlainSteps$Lines", "<init>", "()V"⟩
abbrev zb_Lines_init : ByteArray := prog_4_method_1_code
abbrev zs_Lines_init : List Cond := .code zy_Lines_init zb_Lines_init 2 none :: zq_W
abbrev zy_Lines_has : MethodName := ⟨"PlainSteps$Lines", "has", "(I)Z"⟩
abbrev zb_Lines_has : ByteArray := prog_4_method_2_code
abbrev zs_Lines_has : List Cond := .code zy_Lines_has zb_Lines_has 2 (some .boolean) :: zq_W
abbrev zy_Lines_turn : MethodName := ⟨"PlainSteps$Lines", "turn", "(IZ)Z"⟩
abbrev zb_Lines_turn : ByteArray := prog_4_method_3_code
abbrev zs_Lines_turn : List Cond := .code zy_Lines_turn zb_Lines_turn 4 (some .boolean) :: zq_W
abbrev zy_Lines_giveRank : MethodName := ⟨"PlainSteps$Lines", "giveRank", "(II)I"⟩
abbrev zb_Lines_giveRank : ByteArray := prog_4_method_4_code
abbrev zs_Lines_giveRank : List Cond := .code zy_Lines_giveRank zb_Lines_giveRank 4 (some .int) :: zq_W
abbrev zy_Lines_rankOf : MethodName := ⟨"PlainSteps$Lines", "rankOf", "(I)I"⟩
abbrev zb_Lines_rankOf : ByteArray := prog_4_method_5_code
abbrev zs_Lines_rankOf : List Cond := .code zy_Lines_rankOf zb_Lines_rankOf 2 (some .int) :: zq_W
abbrev zy_Lines_mostUrgent : MethodName := ⟨"PlainSteps$Lines", "mostUrgent", "(I)I"⟩
abbrev zb_Lines_mostUrgent : ByteArray := prog_4_method_6_code
abbrev zs_Lines_mostUrgent : List Cond := .code zy_Lines_mostUrgent zb_Lines_mostUrgent 5 (some .int) :: zq_W
abbrev zy_Writes_init : MethodName := ⟨"PlainSteps$Writes", "<init>", "(LPlainSteps$Registers;LPlainSteps$Bytes;)V"⟩
abbrev zb_Writes_init : ByteArray := prog_10_method_1_code
abbrev zs_Writes_init : List Cond := .code zy_Writes_init zb_Writes_init 3 none :: zq_W
abbrev zy_Writes_clear : MethodName := ⟨"PlainSteps$Writes", "clear", "()V"⟩
abbrev zb_Writes_clear : ByteArray := prog_10_method_2_code
abbrev zs_Writes_clear : List Cond := .code zy_Writes_clear zb_Writes_clear 1 none :: zq_W
abbrev zy_Writes_note : MethodName := ⟨"PlainSteps$Writes", "note", "(IIJ)V"⟩
abbrev zb_Writes_note : ByteArray := prog_10_method_3_code
abbrev zs_Writes_note : List Cond := .code zy_Writes_note zb_Writes_note 5 none :: zq_W
abbrev zy_Writes_noteReverse : MethodName := ⟨"PlainSteps$Writes", "noteReverse", "(II)V"⟩
abbrev zb_Writes_noteReverse : ByteArray := prog_10_method_4_code
abbrev zs_Writes_noteReverse : List Cond := .code zy_Writes_noteReverse zb_Writes_noteReverse 3 none :: zq_W
abbrev zy_Writes_perform : MethodName := ⟨"PlainSteps$Writes", "perform", "(IIJ)V"⟩
abbrev zb_Writes_perform : ByteArray := prog_10_method_5_code
abbrev zs_Writes_perform : List Cond := .code zy_Writes_perform zb_Writes_perform 5 none :: zq_W
abbrev zy_Writes_performInOrder : MethodName := ⟨"PlainSteps$Writes", "performInOrder", "()V"⟩
abbrev zb_Writes_performInOrder : ByteArray := prog_10_method_6_code
abbrev zs_Writes_performInOrder : List Cond := .code zy_Writes_performInOrder zb_Writes_performInOrder 2 none :: zq_W
abbrev zy_Writes_performBackwards : MethodName := ⟨"PlainSteps$Writes", "performBackwards", "()V"⟩
abbrev zb_Writes_performBackwards : ByteArray := prog_10_method_7_code
abbrev zs_Writes_performBackwards : List Cond := .code zy_Writes_performBackwards zb_Writes_performBackwards 2 none :: zq_W
abbrev zy_Work_init : MethodName := ⟨"PlainSteps$Work", "<init>", "(LPlainSteps$Registers;LPlainSteps$Bytes;LPlainSteps$Operands;LPlainSteps$Program;LPlainSteps$Kept;[I)V"⟩
abbrev zb_Work_init : ByteArray := prog_9_method_1_code
abbrev zs_Work_init : List Cond := .code zy_Work_init zb_Work_init 7 none :: zq_W
abbrev zy_Work_carryOut : MethodName := ⟨"PlainSteps$Work", "carryOut", "(II)I"⟩
abbrev zb_Work_carryOut : ByteArray := prog_9_method_2_code
abbrev zs_Work_carryOut : List Cond := .code zy_Work_carryOut zb_Work_carryOut 7 (some .int) :: zq_W
abbrev zy_Work_prepare : MethodName := ⟨"PlainSteps$Work", "prepare", "(II)V"⟩
abbrev zb_Work_prepare : ByteArray := prog_9_method_3_code
abbrev zs_Work_prepare : List Cond := .code zy_Work_prepare zb_Work_prepare 3 none :: zq_W
abbrev zy_Work_writeWhatWaits : MethodName := ⟨"PlainSteps$Work", "writeWhatWaits", "()V"⟩
abbrev zb_Work_writeWhatWaits : ByteArray := prog_9_method_4_code
abbrev zs_Work_writeWhatWaits : List Cond := .code zy_Work_writeWhatWaits zb_Work_writeWhatWaits 1 none :: zq_W
abbrev zy_Work_takeBack : MethodName := ⟨"PlainSteps$Work", "takeBack", "()V"⟩
abbrev zb_Work_takeBack : ByteArray := prog_9_method_5_code
abbrev zs_Work_takeBack : List Cond := .code zy_Work_takeBack zb_Work_takeBack 1 none :: zq_W
abbrev zy_Work_doTransfer : MethodName := ⟨"PlainSteps$Work", "doTransfer", "(I)I"⟩
abbrev zb_Work_doTransfer : ByteArray := prog_9_method_6_code
abbrev zs_Work_doTransfer : List Cond := .code zy_Work_doTransfer zb_Work_doTransfer 10 (some .int) :: zq_W
abbrev zy_Work_divide : MethodName := ⟨"PlainSteps$Work", "divide", "(IJJII)I"⟩
abbrev zb_Work_divide : ByteArray := prog_9_method_7_code
abbrev zs_Work_divide : List Cond := .code zy_Work_divide zb_Work_divide 10 (some .int) :: zq_W
abbrev zy_Work_load : MethodName := ⟨"PlainSteps$Work", "load", "(ZJII)I"⟩
abbrev zb_Work_load : ByteArray := prog_9_method_8_code
abbrev zs_Work_load : List Cond := .code zy_Work_load zb_Work_load 7 (some .int) :: zq_W
abbrev zy_Work_store : MethodName := ⟨"PlainSteps$Work", "store", "(ZJJ)I"⟩
abbrev zb_Work_store : ByteArray := prog_9_method_9_code
abbrev zs_Work_store : List Cond := .code zy_Work_store zb_Work_store 6 (some .int) :: zq_W
abbrev zy_Work_goBack : MethodName := ⟨"PlainSteps$Work", "goBack", "()I"⟩
abbrev zb_Work_goBack : ByteArray := prog_9_method_10_code
abbrev zs_Work_goBack : List Cond := .code zy_Work_goBack zb_Work_goBack 2 (some .int) :: zq_W
abbrev zy_Work_write : MethodName := ⟨"PlainSteps$Work", "write", "(IIJ)V"⟩
abbrev zb_Work_write : ByteArray := prog_9_method_11_code
abbrev zs_Work_write : List Cond := .code zy_Work_write zb_Work_write 5 none :: zq_W
abbrev zy_Work_result : MethodName := ⟨"PlainSteps$Work", "result", "(IJJ)J"⟩
abbrev zb_Work_result : ByteArray := prog_9_method_12_code
abbrev zs_Work_result : List Cond := .code zy_Work_result zb_Work_result 5 (some .long) :: zq_W
abbrev zy_Work_isBelow : MethodName := ⟨"PlainSteps$Work", "isBelow", "(JJ)Z"⟩
abbrev zb_Work_isBelow : ByteArray := prog_9_method_13_code
abbrev zs_Work_isBelow : List Cond := .code zy_Work_isBelow zb_Work_isBelow 4 (some .boolean) :: zq_W
abbrev zy_Work_quotient : MethodName := ⟨"PlainSteps$Work", "quotient", "(JJ)J"⟩
abbrev zb_Work_quotient : ByteArray := prog_9_method_14_code
abbrev zs_Work_quotient : List Cond := .code zy_Work_quotient zb_Work_quotient 6 (some .long) :: zq_W
abbrev zy_Machine_init : MethodName := ⟨"PlainSteps$Machine", "<init>", "(LPlainSteps$Registers;LPlainSteps$Bytes;LPlainSteps$Program;LPlainSteps$Kept;LPlainSteps$Lines;LPlainSteps$Work;[I)V"⟩
abbrev zb_Machine_init : ByteArray := prog_5_method_1_code
abbrev zs_Machine_init : List Cond := .code zy_Machine_init zb_Machine_init 8 none :: zq_W
abbrev zy_Machine_loseWaiting : MethodName := ⟨"PlainSteps$Machine", "loseWaiting", "()V"⟩
abbrev zb_Machine_loseWaiting : ByteArray := prog_5_method_2_code
abbrev zs_Machine_loseWaiting : List Cond := .code zy_Machine_loseWaiting zb_Machine_loseWaiting 1 none :: zq_W
abbrev zy_Machine_takeStep : MethodName := ⟨"PlainSteps$Machine", "takeStep", "()V"⟩
abbrev zb_Machine_takeStep : ByteArray := prog_5_method_3_code
abbrev zs_Machine_takeStep : List Cond := .code zy_Machine_takeStep zb_Machine_takeStep 6 none :: zq_W
abbrev zy_Machine_interruptBy : MethodName := ⟨"PlainSteps$Machine", "interruptBy", "(I)V"⟩
abbrev zb_Machine_interruptBy : ByteArray := prog_5_method_4_code
abbrev zs_Machine_interruptBy : List Cond := .code zy_Machine_interruptBy zb_Machine_interruptBy 2 none :: zq_W
abbrev zy_Machine_settlePlace : MethodName := ⟨"PlainSteps$Machine", "settlePlace", "(IZ)V"⟩
abbrev zb_Machine_settlePlace : ByteArray := prog_5_method_5_code
abbrev zs_Machine_settlePlace : List Cond := .code zy_Machine_settlePlace zb_Machine_settlePlace 4 none :: zq_W
abbrev zy_Machine_failWith : MethodName := ⟨"PlainSteps$Machine", "failWith", "(II)V"⟩
abbrev zb_Machine_failWith : ByteArray := prog_5_method_6_code
abbrev zs_Machine_failWith : List Cond := .code zy_Machine_failWith zb_Machine_failWith 3 none :: zq_W
abbrev zy_PS_init : MethodName := ⟨"PlainSteps", "<init>", "()V"⟩
abbrev zb_PS_init : ByteArray := prog_1_method_1_code
abbrev zs_PS_init : List Cond := .code zy_PS_init zb_PS_init 2 none :: zq_W
abbrev zy_PS_register : MethodName := ⟨"PlainSteps", "register", "(I)I"⟩
abbrev zb_PS_register : ByteArray := prog_1_method_2_code
abbrev zs_PS_register : List Cond := .code zy_PS_register zb_PS_register 2 (some .int) :: zq_W
abbrev zy_PS_constant : MethodName := ⟨"PlainSteps", "constant", "(J)I"⟩
abbrev zb_PS_constant : ByteArray := prog_1_method_3_code
abbrev zs_PS_constant : List Cond := .code zy_PS_constant zb_PS_constant 3 (some .int) :: zq_W
abbrev zy_PS_field : MethodName := ⟨"PlainSteps", "field", "(IIZ)I"⟩
abbrev zb_PS_field : ByteArray := prog_1_method_4_code
abbrev zs_PS_field : List Cond := .code zy_PS_field zb_PS_field 4 (some .int) :: zq_W
abbrev zy_PS_transfer : MethodName := ⟨"PlainSteps", "transfer", "(IIII)I"⟩
abbrev zb_PS_transfer : ByteArray := prog_1_method_5_code
abbrev zs_PS_transfer : List Cond := .code zy_PS_transfer zb_PS_transfer 5 (some .int) :: zq_W
abbrev zy_PS_instruction : MethodName := ⟨"PlainSteps", "instruction", "(III)I"⟩
abbrev zb_PS_instruction : ByteArray := prog_1_method_6_code
abbrev zs_PS_instruction : List Cond := .code zy_PS_instruction zb_PS_instruction 4 (some .int) :: zq_W
abbrev zy_PS_memory : MethodName := ⟨"PlainSteps", "memory", "(II)I"⟩
abbrev zb_PS_memory : ByteArray := prog_1_method_7_code
abbrev zs_PS_memory : List Cond := .code zy_PS_memory zb_PS_memory 4 (some .int) :: zq_W
abbrev zy_PS_byteAt : MethodName := ⟨"PlainSteps", "byteAt", "(I)I"⟩
abbrev zb_PS_byteAt : ByteArray := prog_1_method_8_code
abbrev zs_PS_byteAt : List Cond := .code zy_PS_byteAt zb_PS_byteAt 2 (some .int) :: zq_W
abbrev zy_PS_step : MethodName := ⟨"PlainSteps", "step", "(I)I"⟩
abbrev zb_PS_step : ByteArray := prog_1_method_9_code
abbrev zs_PS_step : List Cond := .code zy_PS_step zb_PS_step 3 (some .int) :: zq_W
abbrev zy_PS_set : MethodName := ⟨"PlainSteps", "set", "(IJ)J"⟩
abbrev zb_PS_set : ByteArray := prog_1_method_10_code
abbrev zs_PS_set : List Cond := .code zy_PS_set zb_PS_set 6 (some .long) :: zq_W
abbrev zy_PS_get : MethodName := ⟨"PlainSteps", "get", "(I)J"⟩
abbrev zb_PS_get : ByteArray := prog_1_method_11_code
abbrev zs_PS_get : List Cond := .code zy_PS_get zb_PS_get 2 (some .long) :: zq_W
abbrev zy_PS_mark : MethodName := ⟨"PlainSteps", "mark", "(I)Z"⟩
abbrev zb_PS_mark : ByteArray := prog_1_method_12_code
abbrev zs_PS_mark : List Cond := .code zy_PS_mark zb_PS_mark 2 (some .boolean) :: zq_W
abbrev zy_PS_line : MethodName := ⟨"PlainSteps", "line", "(IZ)Z"⟩
abbrev zb_PS_line : ByteArray := prog_1_method_13_code
abbrev zs_PS_line : List Cond := .code zy_PS_line zb_PS_line 3 (some .boolean) :: zq_W
abbrev zy_PS_enable : MethodName := ⟨"PlainSteps", "enable", "(II)I"⟩
abbrev zb_PS_enable : ByteArray := prog_1_method_14_code
abbrev zs_PS_enable : List Cond := .code zy_PS_enable zb_PS_enable 3 (some .int) :: zq_W
abbrev zy_PS_fault : MethodName := ⟨"PlainSteps", "fault", "(I)I"⟩
abbrev zb_PS_fault : ByteArray := prog_1_method_15_code
abbrev zs_PS_fault : List Cond := .code zy_PS_fault zb_PS_fault 2 (some .int) :: zq_W
abbrev zy_PS_halted : MethodName := ⟨"PlainSteps", "halted", "()I"⟩
abbrev zb_PS_halted : ByteArray := prog_1_method_16_code
abbrev zs_PS_halted : List Cond := .code zy_PS_halted zb_PS_halted 1 (some .int) :: zq_W
abbrev zy_PS_counter : MethodName := ⟨"PlainSteps", "counter", "(I)I"⟩
abbrev zb_PS_counter : ByteArray := prog_1_method_17_code
abbrev zs_PS_counter : List Cond := .code zy_PS_counter zb_PS_counter 2 (some .int) :: zq_W
abbrev zy_M_init : MethodName := ⟨"PlainStepsModel", "<init>", "()V"⟩
abbrev zb_M_init : ByteArray := prog_12_method_1_code
abbrev zs_M_init : List Cond := .code zy_M_init zb_M_init 2 none :: zq_W
abbrev zy_M_thrown : MethodName := ⟨"PlainStepsModel", "thrown", "()I"⟩
abbrev zb_M_thrown : ByteArray := prog_12_method_2_code
abbrev zs_M_thrown : List Cond := .code zy_M_thrown zb_M_thrown 1 (some .int) :: zq_W
abbrev zy_M_in : MethodName := ⟨"PlainStepsModel", "in", "(JJJ)Z"⟩
abbrev zb_M_in : ByteArray := prog_12_method_3_code
abbrev zs_M_in : List Cond := .code zy_M_in zb_M_in 6 (some .boolean) :: zq_W
abbrev zy_M_goes : MethodName := ⟨"PlainStepsModel", "goes", "(ZZ)Z"⟩
abbrev zb_M_goes : ByteArray := prog_12_method_4_code
abbrev zs_M_goes : List Cond := .code zy_M_goes zb_M_goes 3 (some .boolean) :: zq_W
abbrev zy_M_cut : MethodName := ⟨"PlainStepsModel", "cut", "(IJ)J"⟩
abbrev zb_M_cut : ByteArray := prog_12_method_5_code
abbrev zs_M_cut : List Cond := .code zy_M_cut zb_M_cut 4 (some .long) :: zq_W
abbrev zy_M_register : MethodName := ⟨"PlainStepsModel", "register", "(I)I"⟩
abbrev zb_M_register : ByteArray := prog_12_method_6_code
abbrev zs_M_register : List Cond := .code zy_M_register zb_M_register 2 (some .int) :: zq_W
abbrev zy_M_constant : MethodName := ⟨"PlainStepsModel", "constant", "(J)I"⟩
abbrev zb_M_constant : ByteArray := prog_12_method_7_code
abbrev zs_M_constant : List Cond := .code zy_M_constant zb_M_constant 3 (some .int) :: zq_W
abbrev zy_M_field : MethodName := ⟨"PlainStepsModel", "field", "(IIZ)I"⟩
abbrev zb_M_field : ByteArray := prog_12_method_8_code
abbrev zs_M_field : List Cond := .code zy_M_field zb_M_field 4 (some .int) :: zq_W
abbrev zy_M_isOperand : MethodName := ⟨"PlainStepsModel", "isOperand", "(I)Z"⟩
abbrev zb_M_isOperand : ByteArray := prog_12_method_9_code
abbrev zs_M_isOperand : List Cond := .code zy_M_isOperand zb_M_isOperand 2 (some .boolean) :: zq_W
abbrev zy_M_transfer : MethodName := ⟨"PlainStepsModel", "transfer", "(IIII)I"⟩
abbrev zb_M_transfer : ByteArray := prog_12_method_10_code
abbrev zs_M_transfer : List Cond := .code zy_M_transfer zb_M_transfer 5 (some .int) :: zq_W
abbrev zy_M_instruction : MethodName := ⟨"PlainStepsModel", "instruction", "(III)I"⟩
abbrev zb_M_instruction : ByteArray := prog_12_method_11_code
abbrev zs_M_instruction : List Cond := .code zy_M_instruction zb_M_instruction 4 (some .int) :: zq_W
abbrev zy_M_memory : MethodName := ⟨"PlainStepsModel", "memory", "(II)I"⟩
abbrev zb_M_memory : ByteArray := prog_12_method_12_code
abbrev zs_M_memory : List Cond := .code zy_M_memory zb_M_memory 4 (some .int) :: zq_W
abbrev zy_M_byteAt : MethodName := ⟨"PlainStepsModel", "byteAt", "(I)I"⟩
abbrev zb_M_byteAt : ByteArray := prog_12_method_13_code
abbrev zs_M_byteAt : List Cond := .code zy_M_byteAt zb_M_byteAt 2 (some .int) :: zq_W
abbrev zy_M_keep : MethodName := ⟨"PlainStepsModel", "keep", "(III)Z"⟩
abbrev zb_M_keep : ByteArray := prog_12_method_14_code
abbrev zs_M_keep : List Cond := .code zy_M_keep zb_M_keep 4 (some .boolean) :: zq_W
abbrev zy_M_takeFault : MethodName := ⟨"PlainStepsModel", "takeFault", "(I)V"⟩
abbrev zb_M_takeFault : ByteArray := prog_12_method_15_code
abbrev zs_M_takeFault : List Cond := .code zy_M_takeFault zb_M_takeFault 2 none :: zq_W
abbrev zy_M_waitingLine : MethodName := ⟨"PlainStepsModel", "waitingLine", "()I"⟩
abbrev zb_M_waitingLine : ByteArray := prog_12_method_16_code
abbrev zs_M_waitingLine : List Cond := .code zy_M_waitingLine zb_M_waitingLine 3 (some .int) :: zq_W
abbrev zy_M_isParallel : MethodName := ⟨"PlainStepsModel", "isParallel", "(I)Z"⟩
abbrev zb_M_isParallel : ByteArray := prog_12_method_17_code
abbrev zs_M_isParallel : List Cond := .code zy_M_isParallel zb_M_isParallel 2 (some .boolean) :: zq_W
abbrev zy_M_operand : MethodName := ⟨"PlainStepsModel", "operand", "(II)J"⟩
abbrev zb_M_operand : ByteArray := prog_12_method_18_code
abbrev zs_M_operand : List Cond := .code zy_M_operand zb_M_operand 7 (some .long) :: zq_W
abbrev zy_M_isMarked : MethodName := ⟨"PlainStepsModel", "isMarked", "(II)Z"⟩
abbrev zb_M_isMarked : ByteArray := prog_12_method_19_code
abbrev zs_M_isMarked : List Cond := .code zy_M_isMarked zb_M_isMarked 3 (some .boolean) :: zq_W
abbrev zy_M_setRegister : MethodName := ⟨"PlainStepsModel", "setRegister", "(IJZ)V"⟩
abbrev zb_M_setRegister : ByteArray := prog_12_method_20_code
abbrev zs_M_setRegister : List Cond := .code zy_M_setRegister zb_M_setRegister 5 none :: zq_W
abbrev zy_M_setMemory : MethodName := ⟨"PlainStepsModel", "setMemory", "(IJI)V"⟩
abbrev zb_M_setMemory : ByteArray := prog_12_method_21_code
abbrev zs_M_setMemory : List Cond := .code zy_M_setMemory zb_M_setMemory 5 none :: zq_W
abbrev zy_M_later : MethodName := ⟨"PlainStepsModel", "later", "(IIJZ)V"⟩
abbrev zb_M_later : ByteArray := prog_12_method_22_code
abbrev zs_M_later : List Cond := .code zy_M_later zb_M_later 6 none :: zq_W
abbrev zy_M_result : MethodName := ⟨"PlainStepsModel", "result", "(IIJZ)V"⟩
abbrev zb_M_result : ByteArray := prog_12_method_23_code
abbrev zs_M_result : List Cond := .code zy_M_result zb_M_result 8 none :: zq_W
abbrev zy_M_markOnly : MethodName := ⟨"PlainStepsModel", "markOnly", "(II)V"⟩
abbrev zb_M_markOnly : ByteArray := prog_12_method_24_code
abbrev zs_M_markOnly : List Cond := .code zy_M_markOnly zb_M_markOnly 3 none :: zq_W
abbrev zy_M_writeAll : MethodName := ⟨"PlainStepsModel", "writeAll", "()V"⟩
abbrev zb_M_writeAll : ByteArray := prog_12_method_25_code
abbrev zs_M_writeAll : List Cond := .code zy_M_writeAll zb_M_writeAll 3 none :: zq_W
abbrev zy_M_isLess : MethodName := ⟨"PlainStepsModel", "isLess", "(JJ)Z"⟩
abbrev zb_M_isLess : ByteArray := prog_12_method_26_code
abbrev zs_M_isLess : List Cond := .code zy_M_isLess zb_M_isLess 4 (some .boolean) :: zq_W
abbrev zy_M_quotient : MethodName := ⟨"PlainStepsModel", "quotient", "(JJ)J"⟩
abbrev zb_M_quotient : ByteArray := prog_12_method_27_code
abbrev zs_M_quotient : List Cond := .code zy_M_quotient zb_M_quotient 8 (some .long) :: zq_W
abbrev zy_M_simple : MethodName := ⟨"PlainStepsModel", "simple", "(IJJ)J"⟩
abbrev zb_M_simple : ByteArray := prog_12_method_28_code
abbrev zs_M_simple : List Cond := .code zy_M_simple zb_M_simple 5 (some .long) :: zq_W
abbrev zy_M_isThere : MethodName := ⟨"PlainStepsModel", "isThere", "(JI)Z"⟩
abbrev zb_M_isThere : ByteArray := prog_12_method_29_code
abbrev zs_M_isThere : List Cond := .code zy_M_isThere zb_M_isThere 4 (some .boolean) :: zq_W
abbrev zy_M_compute : MethodName := ⟨"PlainStepsModel", "compute", "(IIJJ)V"⟩
abbrev zb_M_compute : ByteArray := prog_12_method_30_code
abbrev zs_M_compute : List Cond := .code zy_M_compute zb_M_compute 10 none :: zq_W
abbrev zy_M_store : MethodName := ⟨"PlainStepsModel", "store", "(IJJI)V"⟩
abbrev zb_M_store : ByteArray := prog_12_method_31_code
abbrev zs_M_store : List Cond := .code zy_M_store zb_M_store 7 none :: zq_W
abbrev zy_M_back : MethodName := ⟨"PlainStepsModel", "back", "()V"⟩
abbrev zb_M_back : ByteArray := prog_12_method_32_code
abbrev zs_M_back : List Cond := .code zy_M_back zb_M_back 1 none :: zq_W
abbrev zy_M_doTransfer : MethodName := ⟨"PlainStepsModel", "doTransfer", "(II)V"⟩
abbrev zb_M_doTransfer : ByteArray := prog_12_method_33_code
abbrev zs_M_doTransfer : List Cond := .code zy_M_doTransfer zb_M_doTransfer 7 none :: zq_W
abbrev zy_M_save : MethodName := ⟨"PlainStepsModel", "save", "()V"⟩
abbrev zb_M_save : ByteArray := prog_12_method_34_code
abbrev zs_M_save : List Cond := .code zy_M_save zb_M_save 2 none :: zq_W
abbrev zy_M_restore : MethodName := ⟨"PlainStepsModel", "restore", "()V"⟩
abbrev zb_M_restore : ByteArray := prog_12_method_35_code
abbrev zs_M_restore : List Cond := .code zy_M_restore zb_M_restore 2 none :: zq_W
abbrev zy_M_find : MethodName := ⟨"PlainStepsModel", "find", "()I"⟩
abbrev zb_M_find : ByteArray := prog_12_method_36_code
abbrev zs_M_find : List Cond := .code zy_M_find zb_M_find 2 (some .int) :: zq_W
abbrev zy_M_doAll : MethodName := ⟨"PlainStepsModel", "doAll", "(I)V"⟩
abbrev zb_M_doAll : ByteArray := prog_12_method_37_code
abbrev zs_M_doAll : List Cond := .code zy_M_doAll zb_M_doAll 3 none :: zq_W
abbrev zy_M_comePlace : MethodName := ⟨"PlainStepsModel", "comePlace", "(I)V"⟩
abbrev zb_M_comePlace : ByteArray := prog_12_method_38_code
abbrev zs_M_comePlace : List Cond := .code zy_M_comePlace zb_M_comePlace 5 none :: zq_W
abbrev zy_M_doInstruction : MethodName := ⟨"PlainStepsModel", "doInstruction", "()V"⟩
abbrev zb_M_doInstruction : ByteArray := prog_12_method_39_code
abbrev zs_M_doInstruction : List Cond := .code zy_M_doInstruction zb_M_doInstruction 3 none :: zq_W
abbrev zy_M_stepOnce : MethodName := ⟨"PlainStepsModel", "stepOnce", "()V"⟩
abbrev zb_M_stepOnce : ByteArray := prog_12_method_40_code
abbrev zs_M_stepOnce : List Cond := .code zy_M_stepOnce zb_M_stepOnce 2 none :: zq_W
abbrev zy_M_step : MethodName := ⟨"PlainStepsModel", "step", "(I)I"⟩
abbrev zb_M_step : ByteArray := prog_12_method_41_code
abbrev zs_M_step : List Cond := .code zy_M_step zb_M_step 3 (some .int) :: zq_W
abbrev zy_M_isRegister : MethodName := ⟨"PlainStepsModel", "isRegister", "(I)Z"⟩
abbrev zb_M_isRegister : ByteArray := prog_12_method_42_code
abbrev zs_M_isRegister : List Cond := .code zy_M_isRegister zb_M_isRegister 2 (some .boolean) :: zq_W
abbrev zy_M_set : MethodName := ⟨"PlainStepsModel", "set", "(IJ)J"⟩
abbrev zb_M_set : ByteArray := prog_12_method_43_code
abbrev zs_M_set : List Cond := .code zy_M_set zb_M_set 6 (some .long) :: zq_W
abbrev zy_M_get : MethodName := ⟨"PlainStepsModel", "get", "(I)J"⟩
abbrev zb_M_get : ByteArray := prog_12_method_44_code
abbrev zs_M_get : List Cond := .code zy_M_get zb_M_get 2 (some .long) :: zq_W
abbrev zy_M_mark : MethodName := ⟨"PlainStepsModel", "mark", "(I)Z"⟩
abbrev zb_M_mark : ByteArray := prog_12_method_45_code
abbrev zs_M_mark : List Cond := .code zy_M_mark zb_M_mark 2 (some .boolean) :: zq_W
abbrev zy_M_line : MethodName := ⟨"PlainStepsModel", "line", "(IZ)Z"⟩
abbrev zb_M_line : ByteArray := prog_12_method_46_code
abbrev zs_M_line : List Cond := .code zy_M_line zb_M_line 4 (some .boolean) :: zq_W
abbrev zy_M_enable : MethodName := ⟨"PlainStepsModel", "enable", "(II)I"⟩
abbrev zb_M_enable : ByteArray := prog_12_method_47_code
abbrev zs_M_enable : List Cond := .code zy_M_enable zb_M_enable 4 (some .int) :: zq_W
abbrev zy_M_fault : MethodName := ⟨"PlainStepsModel", "fault", "(I)I"⟩
abbrev zb_M_fault : ByteArray := prog_12_method_48_code
abbrev zs_M_fault : List Cond := .code zy_M_fault zb_M_fault 2 (some .int) :: zq_W
abbrev zy_M_halted : MethodName := ⟨"PlainStepsModel", "halted", "()I"⟩
abbrev zb_M_halted : ByteArray := prog_12_method_49_code
abbrev zs_M_halted : List Cond := .code zy_M_halted zb_M_halted 1 (some .int) :: zq_W
abbrev zy_M_counter : MethodName := ⟨"PlainStepsModel", "counter", "(I)I"⟩
abbrev zb_M_counter : ByteArray := prog_12_method_50_code
abbrev zs_M_counter : List Cond := .code zy_M_counter zb_M_counter 2 (some .int) :: zq_W
abbrev zy_L_register : MethodName := ⟨"PlainStepsLaw", "register", "(LPlainSteps;I[J)I"⟩
abbrev zb_L_register : ByteArray := method_3_code
abbrev zy_L_constant : MethodName := ⟨"PlainStepsLaw", "constant", "(LPlainSteps;J[J)I"⟩
abbrev zb_L_constant : ByteArray := method_4_code
abbrev zy_L_field : MethodName := ⟨"PlainStepsLaw", "field", "(LPlainSteps;IIZ[J)I"⟩
abbrev zb_L_field : ByteArray := method_5_code
abbrev zy_L_transfer : MethodName := ⟨"PlainStepsLaw", "transfer", "(LPlainSteps;IIII[J)I"⟩
abbrev zb_L_transfer : ByteArray := method_6_code
abbrev zy_L_instruction : MethodName := ⟨"PlainStepsLaw", "instruction", "(LPlainSteps;III[J)I"⟩
abbrev zb_L_instruction : ByteArray := method_7_code
abbrev zy_L_memory : MethodName := ⟨"PlainStepsLaw", "memory", "(LPlainSteps;II[J)I"⟩
abbrev zb_L_memory : ByteArray := method_8_code
abbrev zy_L_byteAt : MethodName := ⟨"PlainStepsLaw", "byteAt", "(LPlainSteps;I[J)I"⟩
abbrev zb_L_byteAt : ByteArray := method_9_code
abbrev zy_L_step : MethodName := ⟨"PlainStepsLaw", "step", "(LPlainSteps;I[J)I"⟩
abbrev zb_L_step : ByteArray := method_10_code
abbrev zy_L_set : MethodName := ⟨"PlainStepsLaw", "set", "(LPlainSteps;IJ[J)I"⟩
abbrev zb_L_set : ByteArray := method_11_code
abbrev zy_L_get : MethodName := ⟨"PlainStepsLaw", "get", "(LPlainSteps;I[J)I"⟩
abbrev zb_L_get : ByteArray := method_12_code
abbrev zy_L_mark : MethodName := ⟨"PlainStepsLaw", "mark", "(LPlainSteps;I[J)I"⟩
abbrev zb_L_mark : ByteArray := method_13_code
abbrev zy_L_line : MethodName := ⟨"PlainStepsLaw", "line", "(LPlainSteps;IZ[J)I"⟩
abbrev zb_L_line : ByteArray := method_14_code
abbrev zy_L_enable : MethodName := ⟨"PlainStepsLaw", "enable", "(LPlainSteps;II[J)I"⟩
abbrev zb_L_enable : ByteArray := method_15_code
abbrev zy_L_fault : MethodName := ⟨"PlainStepsLaw", "fault", "(LPlainSteps;I[J)I"⟩
abbrev zb_L_fault : ByteArray := method_16_code
abbrev zy_L_counter : MethodName := ⟨"PlainStepsLaw", "counter", "(LPlainSteps;I[J)I"⟩
abbrev zb_L_counter : ByteArray := method_17_code
theorem zw_0 : (.laysFinal "PlainSteps$Registers" "PlainSteps$Registers" "cuts" "[J" : Cond) ∈ zq_W := List.mem_filter.mpr ⟨List.mem_append_right _ (List.mem_append_left _ (List.mem_of_getElem? (i := 39) rfl)), rfl⟩
theorem zw_1 : (.laysFinal "PlainSteps$Registers" "PlainSteps$Registers" "values" "[J" : Cond) ∈ zq_W := List.mem_filter.mpr ⟨List.mem_append_right _ (List.mem_append_left _ (List.mem_of_getElem? (i := 41) rfl)), rfl⟩
theorem zw_2 : (.laysFinal "PlainSteps$Registers" "PlainSteps$Registers" "marks" "[Z" : Cond) ∈ zq_W := List.mem_filter.mpr ⟨List.mem_append_right _ (List.mem_append_left _ (List.mem_of_getElem? (i := 43) rfl)), rfl⟩
theorem zw_3 : (.lays "PlainSteps$Registers" "PlainSteps$Registers" "count" "I" : Cond) ∈ zq_W := List.mem_filter.mpr ⟨List.mem_append_right _ (List.mem_append_left _ (List.mem_of_getElem? (i := 45) rfl)), rfl⟩
theorem zw_4 : (.laysFinal "PlainSteps$Bytes" "PlainSteps$Bytes" "cells" "[B" : Cond) ∈ zq_W := List.mem_filter.mpr ⟨List.mem_append_right _ (List.mem_append_left _ (List.mem_of_getElem? (i := 57) rfl)), rfl⟩
theorem zw_5 : (.laysFinal "PlainSteps$Operands" "PlainSteps$Operands" "registers" "LPlainSteps$Registers;" : Cond) ∈ zq_W := List.mem_filter.mpr ⟨List.mem_append_right _ (List.mem_append_left _ (List.mem_of_getElem? (i := 76) rfl)), rfl⟩
theorem zw_6 : (.laysFinal "PlainSteps$Operands" "PlainSteps$Operands" "constants" "[J" : Cond) ∈ zq_W := List.mem_filter.mpr ⟨List.mem_append_right _ (List.mem_append_left _ (List.mem_of_getElem? (i := 78) rfl)), rfl⟩
theorem zw_7 : (.laysFinal "PlainSteps$Operands" "PlainSteps$Operands" "fieldFrom" "[I" : Cond) ∈ zq_W := List.mem_filter.mpr ⟨List.mem_append_right _ (List.mem_append_left _ (List.mem_of_getElem? (i := 80) rfl)), rfl⟩
theorem zw_8 : (.laysFinal "PlainSteps$Operands" "PlainSteps$Operands" "fieldTo" "[I" : Cond) ∈ zq_W := List.mem_filter.mpr ⟨List.mem_append_right _ (List.mem_append_left _ (List.mem_of_getElem? (i := 82) rfl)), rfl⟩
theorem zw_9 : (.laysFinal "PlainSteps$Operands" "PlainSteps$Operands" "fieldSign" "[Z" : Cond) ∈ zq_W := List.mem_filter.mpr ⟨List.mem_append_right _ (List.mem_append_left _ (List.mem_of_getElem? (i := 84) rfl)), rfl⟩
theorem zw_10 : (.lays "PlainSteps$Operands" "PlainSteps$Operands" "constantCount" "I" : Cond) ∈ zq_W := List.mem_filter.mpr ⟨List.mem_append_right _ (List.mem_append_left _ (List.mem_of_getElem? (i := 86) rfl)), rfl⟩
theorem zw_11 : (.lays "PlainSteps$Operands" "PlainSteps$Operands" "fieldCount" "I" : Cond) ∈ zq_W := List.mem_filter.mpr ⟨List.mem_append_right _ (List.mem_append_left _ (List.mem_of_getElem? (i := 88) rfl)), rfl⟩
theorem zw_12 : (.laysFinal "PlainSteps$Program" "PlainSteps$Program" "ops" "[I" : Cond) ∈ zq_W := List.mem_filter.mpr ⟨List.mem_append_right _ (List.mem_append_left _ (List.mem_of_getElem? (i := 117) rfl)), rfl⟩
theorem zw_13 : (.laysFinal "PlainSteps$Program" "PlainSteps$Program" "firsts" "[I" : Cond) ∈ zq_W := List.mem_filter.mpr ⟨List.mem_append_right _ (List.mem_append_left _ (List.mem_of_getElem? (i := 119) rfl)), rfl⟩
theorem zw_14 : (.laysFinal "PlainSteps$Program" "PlainSteps$Program" "seconds" "[I" : Cond) ∈ zq_W := List.mem_filter.mpr ⟨List.mem_append_right _ (List.mem_append_left _ (List.mem_of_getElem? (i := 121) rfl)), rfl⟩
theorem zw_15 : (.laysFinal "PlainSteps$Program" "PlainSteps$Program" "targets" "[I" : Cond) ∈ zq_W := List.mem_filter.mpr ⟨List.mem_append_right _ (List.mem_append_left _ (List.mem_of_getElem? (i := 123) rfl)), rfl⟩
theorem zw_16 : (.lays "PlainSteps$Program" "PlainSteps$Program" "transferCount" "I" : Cond) ∈ zq_W := List.mem_filter.mpr ⟨List.mem_append_right _ (List.mem_append_left _ (List.mem_of_getElem? (i := 125) rfl)), rfl⟩
theorem zw_17 : (.laysFinal "PlainSteps$Program" "PlainSteps$Program" "masks" "[I" : Cond) ∈ zq_W := List.mem_filter.mpr ⟨List.mem_append_right _ (List.mem_append_left _ (List.mem_of_getElem? (i := 127) rfl)), rfl⟩
theorem zw_18 : (.laysFinal "PlainSteps$Program" "PlainSteps$Program" "values" "[I" : Cond) ∈ zq_W := List.mem_filter.mpr ⟨List.mem_append_right _ (List.mem_append_left _ (List.mem_of_getElem? (i := 129) rfl)), rfl⟩
theorem zw_19 : (.laysFinal "PlainSteps$Program" "PlainSteps$Program" "ways" "[I" : Cond) ∈ zq_W := List.mem_filter.mpr ⟨List.mem_append_right _ (List.mem_append_left _ (List.mem_of_getElem? (i := 131) rfl)), rfl⟩
theorem zw_20 : (.laysFinal "PlainSteps$Program" "PlainSteps$Program" "starts" "[I" : Cond) ∈ zq_W := List.mem_filter.mpr ⟨List.mem_append_right _ (List.mem_append_left _ (List.mem_of_getElem? (i := 133) rfl)), rfl⟩
theorem zw_21 : (.laysFinal "PlainSteps$Program" "PlainSteps$Program" "ends" "[I" : Cond) ∈ zq_W := List.mem_filter.mpr ⟨List.mem_append_right _ (List.mem_append_left _ (List.mem_of_getElem? (i := 135) rfl)), rfl⟩
theorem zw_22 : (.lays "PlainSteps$Program" "PlainSteps$Program" "instructionCount" "I" : Cond) ∈ zq_W := List.mem_filter.mpr ⟨List.mem_append_right _ (List.mem_append_left _ (List.mem_of_getElem? (i := 137) rfl)), rfl⟩
theorem zw_23 : (.laysFinal "PlainSteps$Kept" "PlainSteps$Kept" "places" "[I" : Cond) ∈ zq_W := List.mem_filter.mpr ⟨List.mem_append_right _ (List.mem_append_left _ (List.mem_of_getElem? (i := 155) rfl)), rfl⟩
theorem zw_24 : (.laysFinal "PlainSteps$Kept" "PlainSteps$Kept" "levels" "[I" : Cond) ∈ zq_W := List.mem_filter.mpr ⟨List.mem_append_right _ (List.mem_append_left _ (List.mem_of_getElem? (i := 157) rfl)), rfl⟩
theorem zw_25 : (.lays "PlainSteps$Kept" "PlainSteps$Kept" "count" "I" : Cond) ∈ zq_W := List.mem_filter.mpr ⟨List.mem_append_right _ (List.mem_append_left _ (List.mem_of_getElem? (i := 159) rfl)), rfl⟩
theorem zw_26 : (.lays "PlainSteps$Kept" "PlainSteps$Kept" "level" "I" : Cond) ∈ zq_W := List.mem_filter.mpr ⟨List.mem_append_right _ (List.mem_append_left _ (List.mem_of_getElem? (i := 161) rfl)), rfl⟩
theorem zw_27 : (.laysFinal "PlainSteps$Lines" "PlainSteps$Lines" "on" "[Z" : Cond) ∈ zq_W := List.mem_filter.mpr ⟨List.mem_append_right _ (List.mem_append_left _ (List.mem_of_getElem? (i := 172) rfl)), rfl⟩
theorem zw_28 : (.laysFinal "PlainSteps$Lines" "PlainSteps$Lines" "ranks" "[I" : Cond) ∈ zq_W := List.mem_filter.mpr ⟨List.mem_append_right _ (List.mem_append_left _ (List.mem_of_getElem? (i := 174) rfl)), rfl⟩
theorem zw_29 : (.laysFinal "PlainSteps$Writes" "PlainSteps$Writes" "registers" "LPlainSteps$Registers;" : Cond) ∈ zq_W := List.mem_filter.mpr ⟨List.mem_append_right _ (List.mem_append_left _ (List.mem_of_getElem? (i := 195) rfl)), rfl⟩
theorem zw_30 : (.laysFinal "PlainSteps$Writes" "PlainSteps$Writes" "bytes" "LPlainSteps$Bytes;" : Cond) ∈ zq_W := List.mem_filter.mpr ⟨List.mem_append_right _ (List.mem_append_left _ (List.mem_of_getElem? (i := 197) rfl)), rfl⟩
theorem zw_31 : (.laysFinal "PlainSteps$Writes" "PlainSteps$Writes" "forms" "[I" : Cond) ∈ zq_W := List.mem_filter.mpr ⟨List.mem_append_right _ (List.mem_append_left _ (List.mem_of_getElem? (i := 199) rfl)), rfl⟩
theorem zw_32 : (.laysFinal "PlainSteps$Writes" "PlainSteps$Writes" "targets" "[I" : Cond) ∈ zq_W := List.mem_filter.mpr ⟨List.mem_append_right _ (List.mem_append_left _ (List.mem_of_getElem? (i := 201) rfl)), rfl⟩
theorem zw_33 : (.laysFinal "PlainSteps$Writes" "PlainSteps$Writes" "values" "[J" : Cond) ∈ zq_W := List.mem_filter.mpr ⟨List.mem_append_right _ (List.mem_append_left _ (List.mem_of_getElem? (i := 203) rfl)), rfl⟩
theorem zw_34 : (.lays "PlainSteps$Writes" "PlainSteps$Writes" "count" "I" : Cond) ∈ zq_W := List.mem_filter.mpr ⟨List.mem_append_right _ (List.mem_append_left _ (List.mem_of_getElem? (i := 205) rfl)), rfl⟩
theorem zw_35 : (.laysFinal "PlainSteps$Work" "PlainSteps$Work" "registers" "LPlainSteps$Registers;" : Cond) ∈ zq_W := List.mem_filter.mpr ⟨List.mem_append_right _ (List.mem_append_left _ (List.mem_of_getElem? (i := 224) rfl)), rfl⟩
theorem zw_36 : (.laysFinal "PlainSteps$Work" "PlainSteps$Work" "bytes" "LPlainSteps$Bytes;" : Cond) ∈ zq_W := List.mem_filter.mpr ⟨List.mem_append_right _ (List.mem_append_left _ (List.mem_of_getElem? (i := 226) rfl)), rfl⟩
theorem zw_37 : (.laysFinal "PlainSteps$Work" "PlainSteps$Work" "operands" "LPlainSteps$Operands;" : Cond) ∈ zq_W := List.mem_filter.mpr ⟨List.mem_append_right _ (List.mem_append_left _ (List.mem_of_getElem? (i := 228) rfl)), rfl⟩
theorem zw_38 : (.laysFinal "PlainSteps$Work" "PlainSteps$Work" "program" "LPlainSteps$Program;" : Cond) ∈ zq_W := List.mem_filter.mpr ⟨List.mem_append_right _ (List.mem_append_left _ (List.mem_of_getElem? (i := 230) rfl)), rfl⟩
theorem zw_39 : (.laysFinal "PlainSteps$Work" "PlainSteps$Work" "kept" "LPlainSteps$Kept;" : Cond) ∈ zq_W := List.mem_filter.mpr ⟨List.mem_append_right _ (List.mem_append_left _ (List.mem_of_getElem? (i := 232) rfl)), rfl⟩
theorem zw_40 : (.laysFinal "PlainSteps$Work" "PlainSteps$Work" "writes" "LPlainSteps$Writes;" : Cond) ∈ zq_W := List.mem_filter.mpr ⟨List.mem_append_right _ (List.mem_append_left _ (List.mem_of_getElem? (i := 234) rfl)), rfl⟩
theorem zw_41 : (.laysFinal "PlainSteps$Work" "PlainSteps$Work" "counts" "[I" : Cond) ∈ zq_W := List.mem_filter.mpr ⟨List.mem_append_right _ (List.mem_append_left _ (List.mem_of_getElem? (i := 236) rfl)), rfl⟩
theorem zw_42 : (.lays "PlainSteps$Work" "PlainSteps$Work" "word" "I" : Cond) ∈ zq_W := List.mem_filter.mpr ⟨List.mem_append_right _ (List.mem_append_left _ (List.mem_of_getElem? (i := 238) rfl)), rfl⟩
theorem zw_43 : (.lays "PlainSteps$Work" "PlainSteps$Work" "parallel" "Z" : Cond) ∈ zq_W := List.mem_filter.mpr ⟨List.mem_append_right _ (List.mem_append_right _ (List.mem_append_left _ (List.mem_of_getElem? (i := 0) rfl))), rfl⟩
theorem zw_44 : (.lays "PlainSteps$Work" "PlainSteps$Work" "restoring" "Z" : Cond) ∈ zq_W := List.mem_filter.mpr ⟨List.mem_append_right _ (List.mem_append_right _ (List.mem_append_left _ (List.mem_of_getElem? (i := 2) rfl))), rfl⟩
theorem zw_45 : (.lays "PlainSteps$Work" "PlainSteps$Work" "wrotePlace" "Z" : Cond) ∈ zq_W := List.mem_filter.mpr ⟨List.mem_append_right _ (List.mem_append_right _ (List.mem_append_left _ (List.mem_of_getElem? (i := 4) rfl))), rfl⟩
theorem zw_46 : (.lays "PlainSteps$Work" "PlainSteps$Work" "ended" "Z" : Cond) ∈ zq_W := List.mem_filter.mpr ⟨List.mem_append_right _ (List.mem_append_right _ (List.mem_append_left _ (List.mem_of_getElem? (i := 6) rfl))), rfl⟩
theorem zw_47 : (.lays "PlainSteps$Work" "PlainSteps$Work" "halts" "Z" : Cond) ∈ zq_W := List.mem_filter.mpr ⟨List.mem_append_right _ (List.mem_append_right _ (List.mem_append_left _ (List.mem_of_getElem? (i := 8) rfl))), rfl⟩
theorem zw_48 : (.lays "PlainSteps$Work" "PlainSteps$Work" "backPlace" "I" : Cond) ∈ zq_W := List.mem_filter.mpr ⟨List.mem_append_right _ (List.mem_append_right _ (List.mem_append_left _ (List.mem_of_getElem? (i := 10) rfl))), rfl⟩
theorem zw_49 : (.laysFinal "PlainSteps$Machine" "PlainSteps$Machine" "registers" "LPlainSteps$Registers;" : Cond) ∈ zq_W := List.mem_filter.mpr ⟨List.mem_append_right _ (List.mem_append_right _ (List.mem_append_left _ (List.mem_of_getElem? (i := 33) rfl))), rfl⟩
theorem zw_50 : (.laysFinal "PlainSteps$Machine" "PlainSteps$Machine" "bytes" "LPlainSteps$Bytes;" : Cond) ∈ zq_W := List.mem_filter.mpr ⟨List.mem_append_right _ (List.mem_append_right _ (List.mem_append_left _ (List.mem_of_getElem? (i := 35) rfl))), rfl⟩
theorem zw_51 : (.laysFinal "PlainSteps$Machine" "PlainSteps$Machine" "program" "LPlainSteps$Program;" : Cond) ∈ zq_W := List.mem_filter.mpr ⟨List.mem_append_right _ (List.mem_append_right _ (List.mem_append_left _ (List.mem_of_getElem? (i := 37) rfl))), rfl⟩
theorem zw_52 : (.laysFinal "PlainSteps$Machine" "PlainSteps$Machine" "kept" "LPlainSteps$Kept;" : Cond) ∈ zq_W := List.mem_filter.mpr ⟨List.mem_append_right _ (List.mem_append_right _ (List.mem_append_left _ (List.mem_of_getElem? (i := 39) rfl))), rfl⟩
theorem zw_53 : (.laysFinal "PlainSteps$Machine" "PlainSteps$Machine" "lines" "LPlainSteps$Lines;" : Cond) ∈ zq_W := List.mem_filter.mpr ⟨List.mem_append_right _ (List.mem_append_right _ (List.mem_append_left _ (List.mem_of_getElem? (i := 41) rfl))), rfl⟩
theorem zw_54 : (.laysFinal "PlainSteps$Machine" "PlainSteps$Machine" "work" "LPlainSteps$Work;" : Cond) ∈ zq_W := List.mem_filter.mpr ⟨List.mem_append_right _ (List.mem_append_right _ (List.mem_append_left _ (List.mem_of_getElem? (i := 43) rfl))), rfl⟩
theorem zw_55 : (.laysFinal "PlainSteps$Machine" "PlainSteps$Machine" "counts" "[I" : Cond) ∈ zq_W := List.mem_filter.mpr ⟨List.mem_append_right _ (List.mem_append_right _ (List.mem_append_left _ (List.mem_of_getElem? (i := 45) rfl))), rfl⟩
theorem zw_56 : (.lays "PlainSteps$Machine" "PlainSteps$Machine" "waitingPlace" "I" : Cond) ∈ zq_W := List.mem_filter.mpr ⟨List.mem_append_right _ (List.mem_append_right _ (List.mem_append_left _ (List.mem_of_getElem? (i := 47) rfl))), rfl⟩
theorem zw_57 : (.lays "PlainSteps$Machine" "PlainSteps$Machine" "halt" "I" : Cond) ∈ zq_W := List.mem_filter.mpr ⟨List.mem_append_right _ (List.mem_append_right _ (List.mem_append_left _ (List.mem_of_getElem? (i := 49) rfl))), rfl⟩
theorem zw_58 : (.lays "PlainSteps$Machine" "PlainSteps$Machine" "faultKind" "I" : Cond) ∈ zq_W := List.mem_filter.mpr ⟨List.mem_append_right _ (List.mem_append_right _ (List.mem_append_left _ (List.mem_of_getElem? (i := 51) rfl))), rfl⟩
theorem zw_59 : (.lays "PlainSteps$Machine" "PlainSteps$Machine" "faultPlace" "I" : Cond) ∈ zq_W := List.mem_filter.mpr ⟨List.mem_append_right _ (List.mem_append_right _ (List.mem_append_left _ (List.mem_of_getElem? (i := 53) rfl))), rfl⟩
theorem zw_60 : (.laysFinal "PlainSteps" "PlainSteps" "registers" "LPlainSteps$Registers;" : Cond) ∈ zq_W := List.mem_filter.mpr ⟨List.mem_append_right _ (List.mem_append_right _ (List.mem_append_left _ (List.mem_of_getElem? (i := 64) rfl))), rfl⟩
theorem zw_61 : (.laysFinal "PlainSteps" "PlainSteps" "bytes" "LPlainSteps$Bytes;" : Cond) ∈ zq_W := List.mem_filter.mpr ⟨List.mem_append_right _ (List.mem_append_right _ (List.mem_append_left _ (List.mem_of_getElem? (i := 66) rfl))), rfl⟩
theorem zw_62 : (.laysFinal "PlainSteps" "PlainSteps" "operands" "LPlainSteps$Operands;" : Cond) ∈ zq_W := List.mem_filter.mpr ⟨List.mem_append_right _ (List.mem_append_right _ (List.mem_append_left _ (List.mem_of_getElem? (i := 68) rfl))), rfl⟩
theorem zw_63 : (.laysFinal "PlainSteps" "PlainSteps" "program" "LPlainSteps$Program;" : Cond) ∈ zq_W := List.mem_filter.mpr ⟨List.mem_append_right _ (List.mem_append_right _ (List.mem_append_left _ (List.mem_of_getElem? (i := 70) rfl))), rfl⟩
theorem zw_64 : (.laysFinal "PlainSteps" "PlainSteps" "kept" "LPlainSteps$Kept;" : Cond) ∈ zq_W := List.mem_filter.mpr ⟨List.mem_append_right _ (List.mem_append_right _ (List.mem_append_left _ (List.mem_of_getElem? (i := 72) rfl))), rfl⟩
theorem zw_65 : (.laysFinal "PlainSteps" "PlainSteps" "lines" "LPlainSteps$Lines;" : Cond) ∈ zq_W := List.mem_filter.mpr ⟨List.mem_append_right _ (List.mem_append_right _ (List.mem_append_left _ (List.mem_of_getElem? (i := 74) rfl))), rfl⟩
theorem zw_66 : (.laysFinal "PlainSteps" "PlainSteps" "machine" "LPlainSteps$Machine;" : Cond) ∈ zq_W := List.mem_filter.mpr ⟨List.mem_append_right _ (List.mem_append_right _ (List.mem_append_left _ (List.mem_of_getElem? (i := 76) rfl))), rfl⟩
theorem zw_67 : (.laysFinal "PlainSteps" "PlainSteps" "counts" "[I" : Cond) ∈ zq_W := List.mem_filter.mpr ⟨List.mem_append_right _ (List.mem_append_right _ (List.mem_append_left _ (List.mem_of_getElem? (i := 78) rfl))), rfl⟩
theorem zw_68 : (.lays "PlainStepsModel" "PlainStepsModel" "thrown" "I" : Cond) ∈ zq_W := List.mem_filter.mpr ⟨List.mem_append_right _ (List.mem_append_right _ (List.mem_append_right _ (List.mem_append_right _ (List.mem_append_left _ (List.mem_of_getElem? (i := 153) rfl))))), rfl⟩
theorem zw_69 : (.lays "PlainStepsModel" "PlainStepsModel" "registers" "I" : Cond) ∈ zq_W := List.mem_filter.mpr ⟨List.mem_append_right _ (List.mem_append_right _ (List.mem_append_right _ (List.mem_append_right _ (List.mem_append_left _ (List.mem_of_getElem? (i := 155) rfl))))), rfl⟩
theorem zw_70 : (.laysFinal "PlainStepsModel" "PlainStepsModel" "width" "[I" : Cond) ∈ zq_W := List.mem_filter.mpr ⟨List.mem_append_right _ (List.mem_append_right _ (List.mem_append_right _ (List.mem_append_right _ (List.mem_append_left _ (List.mem_of_getElem? (i := 157) rfl))))), rfl⟩
theorem zw_71 : (.laysFinal "PlainStepsModel" "PlainStepsModel" "value" "[J" : Cond) ∈ zq_W := List.mem_filter.mpr ⟨List.mem_append_right _ (List.mem_append_right _ (List.mem_append_right _ (List.mem_append_right _ (List.mem_append_left _ (List.mem_of_getElem? (i := 159) rfl))))), rfl⟩
theorem zw_72 : (.laysFinal "PlainStepsModel" "PlainStepsModel" "before" "[J" : Cond) ∈ zq_W := List.mem_filter.mpr ⟨List.mem_append_right _ (List.mem_append_right _ (List.mem_append_right _ (List.mem_append_right _ (List.mem_append_left _ (List.mem_of_getElem? (i := 161) rfl))))), rfl⟩
theorem zw_73 : (.laysFinal "PlainStepsModel" "PlainStepsModel" "saved" "[J" : Cond) ∈ zq_W := List.mem_filter.mpr ⟨List.mem_append_right _ (List.mem_append_right _ (List.mem_append_right _ (List.mem_append_right _ (List.mem_append_left _ (List.mem_of_getElem? (i := 163) rfl))))), rfl⟩
theorem zw_74 : (.laysFinal "PlainStepsModel" "PlainStepsModel" "marked" "[Z" : Cond) ∈ zq_W := List.mem_filter.mpr ⟨List.mem_append_right _ (List.mem_append_right _ (List.mem_append_right _ (List.mem_append_right _ (List.mem_append_left _ (List.mem_of_getElem? (i := 165) rfl))))), rfl⟩
theorem zw_75 : (.laysFinal "PlainStepsModel" "PlainStepsModel" "markedBefore" "[Z" : Cond) ∈ zq_W := List.mem_filter.mpr ⟨List.mem_append_right _ (List.mem_append_right _ (List.mem_append_right _ (List.mem_append_right _ (List.mem_append_left _ (List.mem_of_getElem? (i := 167) rfl))))), rfl⟩
theorem zw_76 : (.laysFinal "PlainStepsModel" "PlainStepsModel" "markedSaved" "[Z" : Cond) ∈ zq_W := List.mem_filter.mpr ⟨List.mem_append_right _ (List.mem_append_right _ (List.mem_append_right _ (List.mem_append_right _ (List.mem_append_left _ (List.mem_of_getElem? (i := 169) rfl))))), rfl⟩
theorem zw_77 : (.laysFinal "PlainStepsModel" "PlainStepsModel" "memory" "[B" : Cond) ∈ zq_W := List.mem_filter.mpr ⟨List.mem_append_right _ (List.mem_append_right _ (List.mem_append_right _ (List.mem_append_right _ (List.mem_append_left _ (List.mem_of_getElem? (i := 171) rfl))))), rfl⟩
theorem zw_78 : (.laysFinal "PlainStepsModel" "PlainStepsModel" "memorySaved" "[B" : Cond) ∈ zq_W := List.mem_filter.mpr ⟨List.mem_append_right _ (List.mem_append_right _ (List.mem_append_right _ (List.mem_append_right _ (List.mem_append_left _ (List.mem_of_getElem? (i := 173) rfl))))), rfl⟩
theorem zw_79 : (.lays "PlainStepsModel" "PlainStepsModel" "constants" "I" : Cond) ∈ zq_W := List.mem_filter.mpr ⟨List.mem_append_right _ (List.mem_append_right _ (List.mem_append_right _ (List.mem_append_right _ (List.mem_append_left _ (List.mem_of_getElem? (i := 175) rfl))))), rfl⟩
theorem zw_80 : (.lays "PlainStepsModel" "PlainStepsModel" "fields" "I" : Cond) ∈ zq_W := List.mem_filter.mpr ⟨List.mem_append_right _ (List.mem_append_right _ (List.mem_append_right _ (List.mem_append_right _ (List.mem_append_left _ (List.mem_of_getElem? (i := 177) rfl))))), rfl⟩
theorem zw_81 : (.lays "PlainStepsModel" "PlainStepsModel" "transfers" "I" : Cond) ∈ zq_W := List.mem_filter.mpr ⟨List.mem_append_right _ (List.mem_append_right _ (List.mem_append_right _ (List.mem_append_right _ (List.mem_append_left _ (List.mem_of_getElem? (i := 179) rfl))))), rfl⟩
theorem zw_82 : (.lays "PlainStepsModel" "PlainStepsModel" "instructions" "I" : Cond) ∈ zq_W := List.mem_filter.mpr ⟨List.mem_append_right _ (List.mem_append_right _ (List.mem_append_right _ (List.mem_append_right _ (List.mem_append_left _ (List.mem_of_getElem? (i := 181) rfl))))), rfl⟩
theorem zw_83 : (.laysFinal "PlainStepsModel" "PlainStepsModel" "constant" "[J" : Cond) ∈ zq_W := List.mem_filter.mpr ⟨List.mem_append_right _ (List.mem_append_right _ (List.mem_append_right _ (List.mem_append_right _ (List.mem_append_left _ (List.mem_of_getElem? (i := 183) rfl))))), rfl⟩
theorem zw_84 : (.laysFinal "PlainStepsModel" "PlainStepsModel" "from" "[I" : Cond) ∈ zq_W := List.mem_filter.mpr ⟨List.mem_append_right _ (List.mem_append_right _ (List.mem_append_right _ (List.mem_append_right _ (List.mem_append_left _ (List.mem_of_getElem? (i := 185) rfl))))), rfl⟩
theorem zw_85 : (.laysFinal "PlainStepsModel" "PlainStepsModel" "to" "[I" : Cond) ∈ zq_W := List.mem_filter.mpr ⟨List.mem_append_right _ (List.mem_append_right _ (List.mem_append_right _ (List.mem_append_right _ (List.mem_append_left _ (List.mem_of_getElem? (i := 187) rfl))))), rfl⟩
theorem zw_86 : (.laysFinal "PlainStepsModel" "PlainStepsModel" "signed" "[Z" : Cond) ∈ zq_W := List.mem_filter.mpr ⟨List.mem_append_right _ (List.mem_append_right _ (List.mem_append_right _ (List.mem_append_right _ (List.mem_append_left _ (List.mem_of_getElem? (i := 189) rfl))))), rfl⟩
theorem zw_87 : (.laysFinal "PlainStepsModel" "PlainStepsModel" "op" "[I" : Cond) ∈ zq_W := List.mem_filter.mpr ⟨List.mem_append_right _ (List.mem_append_right _ (List.mem_append_right _ (List.mem_append_right _ (List.mem_append_left _ (List.mem_of_getElem? (i := 191) rfl))))), rfl⟩
theorem zw_88 : (.laysFinal "PlainStepsModel" "PlainStepsModel" "first" "[I" : Cond) ∈ zq_W := List.mem_filter.mpr ⟨List.mem_append_right _ (List.mem_append_right _ (List.mem_append_right _ (List.mem_append_right _ (List.mem_append_left _ (List.mem_of_getElem? (i := 193) rfl))))), rfl⟩
theorem zw_89 : (.laysFinal "PlainStepsModel" "PlainStepsModel" "second" "[I" : Cond) ∈ zq_W := List.mem_filter.mpr ⟨List.mem_append_right _ (List.mem_append_right _ (List.mem_append_right _ (List.mem_append_right _ (List.mem_append_left _ (List.mem_of_getElem? (i := 195) rfl))))), rfl⟩
theorem zw_90 : (.laysFinal "PlainStepsModel" "PlainStepsModel" "target" "[I" : Cond) ∈ zq_W := List.mem_filter.mpr ⟨List.mem_append_right _ (List.mem_append_right _ (List.mem_append_right _ (List.mem_append_right _ (List.mem_append_left _ (List.mem_of_getElem? (i := 197) rfl))))), rfl⟩
theorem zw_91 : (.laysFinal "PlainStepsModel" "PlainStepsModel" "mask" "[I" : Cond) ∈ zq_W := List.mem_filter.mpr ⟨List.mem_append_right _ (List.mem_append_right _ (List.mem_append_right _ (List.mem_append_right _ (List.mem_append_left _ (List.mem_of_getElem? (i := 199) rfl))))), rfl⟩
theorem zw_92 : (.laysFinal "PlainStepsModel" "PlainStepsModel" "pattern" "[I" : Cond) ∈ zq_W := List.mem_filter.mpr ⟨List.mem_append_right _ (List.mem_append_right _ (List.mem_append_right _ (List.mem_append_right _ (List.mem_append_left _ (List.mem_of_getElem? (i := 201) rfl))))), rfl⟩
theorem zw_93 : (.laysFinal "PlainStepsModel" "PlainStepsModel" "how" "[I" : Cond) ∈ zq_W := List.mem_filter.mpr ⟨List.mem_append_right _ (List.mem_append_right _ (List.mem_append_right _ (List.mem_append_right _ (List.mem_append_left _ (List.mem_of_getElem? (i := 203) rfl))))), rfl⟩
theorem zw_94 : (.laysFinal "PlainStepsModel" "PlainStepsModel" "begin" "[I" : Cond) ∈ zq_W := List.mem_filter.mpr ⟨List.mem_append_right _ (List.mem_append_right _ (List.mem_append_right _ (List.mem_append_right _ (List.mem_append_left _ (List.mem_of_getElem? (i := 205) rfl))))), rfl⟩
theorem zw_95 : (.laysFinal "PlainStepsModel" "PlainStepsModel" "on" "[Z" : Cond) ∈ zq_W := List.mem_filter.mpr ⟨List.mem_append_right _ (List.mem_append_right _ (List.mem_append_right _ (List.mem_append_right _ (List.mem_append_left _ (List.mem_of_getElem? (i := 207) rfl))))), rfl⟩
theorem zw_96 : (.laysFinal "PlainStepsModel" "PlainStepsModel" "rank" "[I" : Cond) ∈ zq_W := List.mem_filter.mpr ⟨List.mem_append_right _ (List.mem_append_right _ (List.mem_append_right _ (List.mem_append_right _ (List.mem_append_left _ (List.mem_of_getElem? (i := 209) rfl))))), rfl⟩
theorem zw_97 : (.lays "PlainStepsModel" "PlainStepsModel" "level" "I" : Cond) ∈ zq_W := List.mem_filter.mpr ⟨List.mem_append_right _ (List.mem_append_right _ (List.mem_append_right _ (List.mem_append_right _ (List.mem_append_left _ (List.mem_of_getElem? (i := 211) rfl))))), rfl⟩
theorem zw_98 : (.lays "PlainStepsModel" "PlainStepsModel" "kept" "I" : Cond) ∈ zq_W := List.mem_filter.mpr ⟨List.mem_append_right _ (List.mem_append_right _ (List.mem_append_right _ (List.mem_append_right _ (List.mem_append_left _ (List.mem_of_getElem? (i := 213) rfl))))), rfl⟩
theorem zw_99 : (.lays "PlainStepsModel" "PlainStepsModel" "levelSaved" "I" : Cond) ∈ zq_W := List.mem_filter.mpr ⟨List.mem_append_right _ (List.mem_append_right _ (List.mem_append_right _ (List.mem_append_right _ (List.mem_append_left _ (List.mem_of_getElem? (i := 215) rfl))))), rfl⟩
theorem zw_100 : (.lays "PlainStepsModel" "PlainStepsModel" "keptSaved" "I" : Cond) ∈ zq_W := List.mem_filter.mpr ⟨List.mem_append_right _ (List.mem_append_right _ (List.mem_append_right _ (List.mem_append_right _ (List.mem_append_left _ (List.mem_of_getElem? (i := 217) rfl))))), rfl⟩
theorem zw_101 : (.laysFinal "PlainStepsModel" "PlainStepsModel" "keptPlace" "[I" : Cond) ∈ zq_W := List.mem_filter.mpr ⟨List.mem_append_right _ (List.mem_append_right _ (List.mem_append_right _ (List.mem_append_right _ (List.mem_append_left _ (List.mem_of_getElem? (i := 219) rfl))))), rfl⟩
theorem zw_102 : (.laysFinal "PlainStepsModel" "PlainStepsModel" "keptLevel" "[I" : Cond) ∈ zq_W := List.mem_filter.mpr ⟨List.mem_append_right _ (List.mem_append_right _ (List.mem_append_right _ (List.mem_append_right _ (List.mem_append_left _ (List.mem_of_getElem? (i := 221) rfl))))), rfl⟩
theorem zw_103 : (.lays "PlainStepsModel" "PlainStepsModel" "word" "I" : Cond) ∈ zq_W := List.mem_filter.mpr ⟨List.mem_append_right _ (List.mem_append_right _ (List.mem_append_right _ (List.mem_append_right _ (List.mem_append_left _ (List.mem_of_getElem? (i := 223) rfl))))), rfl⟩
theorem zw_104 : (.lays "PlainStepsModel" "PlainStepsModel" "stands" "I" : Cond) ∈ zq_W := List.mem_filter.mpr ⟨List.mem_append_right _ (List.mem_append_right _ (List.mem_append_right _ (List.mem_append_right _ (List.mem_append_left _ (List.mem_of_getElem? (i := 225) rfl))))), rfl⟩
theorem zw_105 : (.lays "PlainStepsModel" "PlainStepsModel" "fault" "I" : Cond) ∈ zq_W := List.mem_filter.mpr ⟨List.mem_append_right _ (List.mem_append_right _ (List.mem_append_right _ (List.mem_append_right _ (List.mem_append_left _ (List.mem_of_getElem? (i := 227) rfl))))), rfl⟩
theorem zw_106 : (.lays "PlainStepsModel" "PlainStepsModel" "ends" "Z" : Cond) ∈ zq_W := List.mem_filter.mpr ⟨List.mem_append_right _ (List.mem_append_right _ (List.mem_append_right _ (List.mem_append_right _ (List.mem_append_left _ (List.mem_of_getElem? (i := 229) rfl))))), rfl⟩
theorem zw_107 : (.lays "PlainStepsModel" "PlainStepsModel" "halts" "Z" : Cond) ∈ zq_W := List.mem_filter.mpr ⟨List.mem_append_right _ (List.mem_append_right _ (List.mem_append_right _ (List.mem_append_right _ (List.mem_append_left _ (List.mem_of_getElem? (i := 231) rfl))))), rfl⟩
theorem zw_108 : (.lays "PlainStepsModel" "PlainStepsModel" "wrote" "Z" : Cond) ∈ zq_W := List.mem_filter.mpr ⟨List.mem_append_right _ (List.mem_append_right _ (List.mem_append_right _ (List.mem_append_right _ (List.mem_append_left _ (List.mem_of_getElem? (i := 233) rfl))))), rfl⟩
theorem zw_109 : (.lays "PlainStepsModel" "PlainStepsModel" "waits" "Z" : Cond) ∈ zq_W := List.mem_filter.mpr ⟨List.mem_append_right _ (List.mem_append_right _ (List.mem_append_right _ (List.mem_append_right _ (List.mem_append_left _ (List.mem_of_getElem? (i := 235) rfl))))), rfl⟩
theorem zw_110 : (.lays "PlainStepsModel" "PlainStepsModel" "waitsPlace" "J" : Cond) ∈ zq_W := List.mem_filter.mpr ⟨List.mem_append_right _ (List.mem_append_right _ (List.mem_append_right _ (List.mem_append_right _ (List.mem_append_left _ (List.mem_of_getElem? (i := 237) rfl))))), rfl⟩
theorem zw_111 : (.lays "PlainStepsModel" "PlainStepsModel" "writes" "I" : Cond) ∈ zq_W := List.mem_filter.mpr ⟨List.mem_append_right _ (List.mem_append_right _ (List.mem_append_right _ (List.mem_append_right _ (List.mem_append_left _ (List.mem_of_getElem? (i := 239) rfl))))), rfl⟩
theorem zw_112 : (.laysFinal "PlainStepsModel" "PlainStepsModel" "writeTo" "[I" : Cond) ∈ zq_W := List.mem_filter.mpr ⟨List.mem_append_right _ (List.mem_append_right _ (List.mem_append_right _ (List.mem_append_right _ (List.mem_append_right _ (List.mem_of_getElem? (i := 1) rfl))))), rfl⟩
theorem zw_113 : (.laysFinal "PlainStepsModel" "PlainStepsModel" "writeAt" "[I" : Cond) ∈ zq_W := List.mem_filter.mpr ⟨List.mem_append_right _ (List.mem_append_right _ (List.mem_append_right _ (List.mem_append_right _ (List.mem_append_right _ (List.mem_of_getElem? (i := 3) rfl))))), rfl⟩
theorem zw_114 : (.laysFinal "PlainStepsModel" "PlainStepsModel" "writeValue" "[J" : Cond) ∈ zq_W := List.mem_filter.mpr ⟨List.mem_append_right _ (List.mem_append_right _ (List.mem_append_right _ (List.mem_append_right _ (List.mem_append_right _ (List.mem_of_getElem? (i := 5) rfl))))), rfl⟩
theorem zw_115 : (.laysFinal "PlainStepsModel" "PlainStepsModel" "writeMark" "[Z" : Cond) ∈ zq_W := List.mem_filter.mpr ⟨List.mem_append_right _ (List.mem_append_right _ (List.mem_append_right _ (List.mem_append_right _ (List.mem_append_right _ (List.mem_of_getElem? (i := 7) rfl))))), rfl⟩
theorem zw_116 : (.lays "PlainStepsModel" "PlainStepsModel" "halted" "I" : Cond) ∈ zq_W := List.mem_filter.mpr ⟨List.mem_append_right _ (List.mem_append_right _ (List.mem_append_right _ (List.mem_append_right _ (List.mem_append_right _ (List.mem_of_getElem? (i := 9) rfl))))), rfl⟩
theorem zw_117 : (.lays "PlainStepsModel" "PlainStepsModel" "latest" "I" : Cond) ∈ zq_W := List.mem_filter.mpr ⟨List.mem_append_right _ (List.mem_append_right _ (List.mem_append_right _ (List.mem_append_right _ (List.mem_append_right _ (List.mem_of_getElem? (i := 11) rfl))))), rfl⟩
theorem zw_118 : (.lays "PlainStepsModel" "PlainStepsModel" "latestPlace" "I" : Cond) ∈ zq_W := List.mem_filter.mpr ⟨List.mem_append_right _ (List.mem_append_right _ (List.mem_append_right _ (List.mem_append_right _ (List.mem_append_right _ (List.mem_of_getElem? (i := 13) rfl))))), rfl⟩
theorem zw_119 : (.laysFinal "PlainStepsModel" "PlainStepsModel" "count" "[I" : Cond) ∈ zq_W := List.mem_filter.mpr ⟨List.mem_append_right _ (List.mem_append_right _ (List.mem_append_right _ (List.mem_append_right _ (List.mem_append_right _ (List.mem_of_getElem? (i := 15) rfl))))), rfl⟩
theorem zw_120 : (.fieldLink "PlainSteps$Registers" 9 "PlainSteps$Registers" "cuts" "[J" : Cond) ∈ zq_W := List.mem_filter.mpr ⟨List.mem_append_right _ (List.mem_append_left _ (List.mem_of_getElem? (i := 34) rfl)), rfl⟩
theorem zw_121 : (.fieldLink "PlainSteps$Registers" 24 "PlainSteps$Registers" "count" "I" : Cond) ∈ zq_W := List.mem_filter.mpr ⟨List.mem_append_right _ (List.mem_append_left _ (List.mem_of_getElem? (i := 37) rfl)), rfl⟩
theorem zw_122 : (.constantLong "PlainSteps$Registers" 28 (-1) : Cond) ∈ zq_W := List.mem_filter.mpr ⟨List.mem_append_right _ (List.mem_append_right _ (List.mem_append_left _ (List.mem_of_getElem? (i := 182) rfl))), rfl⟩
theorem zw_123 : (.fieldLink "PlainSteps$Registers" 18 "PlainSteps$Registers" "marks" "[Z" : Cond) ∈ zq_W := List.mem_filter.mpr ⟨List.mem_append_right _ (List.mem_append_left _ (List.mem_of_getElem? (i := 36) rfl)), rfl⟩
theorem zw_124 : (.fieldLink "PlainSteps$Registers" 15 "PlainSteps$Registers" "values" "[J" : Cond) ∈ zq_W := List.mem_filter.mpr ⟨List.mem_append_right _ (List.mem_append_left _ (List.mem_of_getElem? (i := 35) rfl)), rfl⟩
theorem zw_125 : (.methodLink "PlainSteps$Registers" 30 zy_Registers_put : Cond) ∈ zq_W := List.mem_filter.mpr ⟨List.mem_append_right _ (List.mem_append_right _ (List.mem_append_right _ (List.mem_append_left _ (List.mem_of_getElem? (i := 127) rfl)))), rfl⟩
theorem zw_126 : (.instanceMethod zy_Registers_put : Cond) ∈ zq_W := List.mem_filter.mpr ⟨List.mem_append_right _ (List.mem_append_right _ (List.mem_append_right _ (List.mem_append_left _ (List.mem_of_getElem? (i := 111) rfl)))), rfl⟩
theorem zw_127 : (.selects "PlainSteps$Registers" zy_Registers_put zy_Registers_put : Cond) ∈ zq_W := List.mem_filter.mpr ⟨List.mem_append_right _ (List.mem_append_right _ (List.mem_append_right _ (List.mem_append_left _ (List.mem_of_getElem? (i := 112) rfl)))), rfl⟩
theorem zw_128 : (.initialized "PlainSteps$Registers" : Cond) ∈ zq_W := List.mem_filter.mpr ⟨List.mem_append_right _ (List.mem_append_left _ (List.mem_of_getElem? (i := 2) rfl)), rfl⟩
theorem zw_129 : (.code zy_Registers_put zb_Registers_put 5 none : Cond) ∈ zq_W := List.mem_filter.mpr ⟨List.mem_append_right _ (List.mem_append_right _ (List.mem_append_right _ (List.mem_append_left _ (List.mem_of_getElem? (i := 113) rfl)))), rfl⟩
theorem zw_130 : (.constantLong "PlainSteps$Bytes" 15 (4096) : Cond) ∈ zq_W := List.mem_filter.mpr ⟨List.mem_append_right _ (List.mem_append_right _ (List.mem_append_right _ (List.mem_append_left _ (List.mem_of_getElem? (i := 20) rfl)))), rfl⟩
theorem zw_131 : (.methodLink "PlainSteps$Bytes" 17 zy_Bytes_hasByte : Cond) ∈ zq_W := List.mem_filter.mpr ⟨List.mem_append_right _ (List.mem_append_right _ (List.mem_append_right _ (List.mem_append_left _ (List.mem_of_getElem? (i := 118) rfl)))), rfl⟩
theorem zw_132 : (.instanceMethod zy_Bytes_hasByte : Cond) ∈ zq_W := List.mem_filter.mpr ⟨List.mem_append_right _ (List.mem_append_right _ (List.mem_append_right _ (List.mem_append_left _ (List.mem_of_getElem? (i := 17) rfl)))), rfl⟩
theorem zw_133 : (.selects "PlainSteps$Bytes" zy_Bytes_hasByte zy_Bytes_hasByte : Cond) ∈ zq_W := List.mem_filter.mpr ⟨List.mem_append_right _ (List.mem_append_right _ (List.mem_append_right _ (List.mem_append_left _ (List.mem_of_getElem? (i := 18) rfl)))), rfl⟩
theorem zw_134 : (.initialized "PlainSteps$Bytes" : Cond) ∈ zq_W := List.mem_filter.mpr ⟨List.mem_append_right _ (List.mem_append_left _ (List.mem_of_getElem? (i := 3) rfl)), rfl⟩
theorem zw_135 : (.code zy_Bytes_hasByte zb_Bytes_hasByte 3 (some .boolean) : Cond) ∈ zq_W := List.mem_filter.mpr ⟨List.mem_append_right _ (List.mem_append_right _ (List.mem_append_right _ (List.mem_append_left _ (List.mem_of_getElem? (i := 19) rfl)))), rfl⟩
theorem zw_136 : (.fieldLink "PlainSteps$Bytes" 9 "PlainSteps$Bytes" "cells" "[B" : Cond) ∈ zq_W := List.mem_filter.mpr ⟨List.mem_append_right _ (List.mem_append_left _ (List.mem_of_getElem? (i := 56) rfl)), rfl⟩
theorem zw_137 : (.fieldLink "PlainSteps$Operands" 9 "PlainSteps$Operands" "constants" "[J" : Cond) ∈ zq_W := List.mem_filter.mpr ⟨List.mem_append_right _ (List.mem_append_left _ (List.mem_of_getElem? (i := 68) rfl)), rfl⟩
theorem zw_138 : (.fieldLink "PlainSteps$Operands" 30 "PlainSteps$Operands" "constantCount" "I" : Cond) ∈ zq_W := List.mem_filter.mpr ⟨List.mem_append_right _ (List.mem_append_left _ (List.mem_of_getElem? (i := 72) rfl)), rfl⟩
theorem zw_139 : (.fieldLink "PlainSteps$Operands" 15 "PlainSteps$Operands" "fieldFrom" "[I" : Cond) ∈ zq_W := List.mem_filter.mpr ⟨List.mem_append_right _ (List.mem_append_left _ (List.mem_of_getElem? (i := 69) rfl)), rfl⟩
theorem zw_140 : (.fieldLink "PlainSteps$Operands" 34 "PlainSteps$Operands" "fieldCount" "I" : Cond) ∈ zq_W := List.mem_filter.mpr ⟨List.mem_append_right _ (List.mem_append_left _ (List.mem_of_getElem? (i := 74) rfl)), rfl⟩
theorem zw_141 : (.fieldLink "PlainSteps$Operands" 19 "PlainSteps$Operands" "fieldTo" "[I" : Cond) ∈ zq_W := List.mem_filter.mpr ⟨List.mem_append_right _ (List.mem_append_left _ (List.mem_of_getElem? (i := 70) rfl)), rfl⟩
theorem zw_142 : (.fieldLink "PlainSteps$Operands" 22 "PlainSteps$Operands" "fieldSign" "[Z" : Cond) ∈ zq_W := List.mem_filter.mpr ⟨List.mem_append_right _ (List.mem_append_left _ (List.mem_of_getElem? (i := 71) rfl)), rfl⟩
theorem zw_143 : (.fieldLink "PlainSteps$Operands" 26 "PlainSteps$Operands" "registers" "LPlainSteps$Registers;" : Cond) ∈ zq_W := List.mem_filter.mpr ⟨List.mem_append_right _ (List.mem_append_left _ (List.mem_of_getElem? (i := 67) rfl)), rfl⟩
theorem zw_144 : (.methodLink "PlainSteps$Operands" 37 zy_Registers_has : Cond) ∈ zq_W := List.mem_filter.mpr ⟨List.mem_append_right _ (List.mem_append_right _ (List.mem_append_left _ (List.mem_of_getElem? (i := 220) rfl))), rfl⟩
theorem zw_145 : (.instanceMethod zy_Registers_has : Cond) ∈ zq_W := List.mem_filter.mpr ⟨List.mem_append_right _ (List.mem_append_right _ (List.mem_append_left _ (List.mem_of_getElem? (i := 221) rfl))), rfl⟩
theorem zw_146 : (.selects "PlainSteps$Registers" zy_Registers_has zy_Registers_has : Cond) ∈ zq_W := List.mem_filter.mpr ⟨List.mem_append_right _ (List.mem_append_right _ (List.mem_append_left _ (List.mem_of_getElem? (i := 222) rfl))), rfl⟩
theorem zw_147 : (.code zy_Registers_has zb_Registers_has 2 (some .boolean) : Cond) ∈ zq_W := List.mem_filter.mpr ⟨List.mem_append_right _ (List.mem_append_right _ (List.mem_append_left _ (List.mem_of_getElem? (i := 223) rfl))), rfl⟩
theorem zw_148 : (.methodLink "PlainSteps$Operands" 47 zy_Registers_valueOf : Cond) ∈ zq_W := List.mem_filter.mpr ⟨List.mem_append_right _ (List.mem_append_right _ (List.mem_append_right _ (List.mem_append_left _ (List.mem_of_getElem? (i := 164) rfl)))), rfl⟩
theorem zw_149 : (.instanceMethod zy_Registers_valueOf : Cond) ∈ zq_W := List.mem_filter.mpr ⟨List.mem_append_right _ (List.mem_append_right _ (List.mem_append_right _ (List.mem_append_left _ (List.mem_of_getElem? (i := 165) rfl)))), rfl⟩
theorem zw_150 : (.selects "PlainSteps$Registers" zy_Registers_valueOf zy_Registers_valueOf : Cond) ∈ zq_W := List.mem_filter.mpr ⟨List.mem_append_right _ (List.mem_append_right _ (List.mem_append_right _ (List.mem_append_left _ (List.mem_of_getElem? (i := 166) rfl)))), rfl⟩
theorem zw_151 : (.code zy_Registers_valueOf zb_Registers_valueOf 2 (some .long) : Cond) ∈ zq_W := List.mem_filter.mpr ⟨List.mem_append_right _ (List.mem_append_right _ (List.mem_append_right _ (List.mem_append_left _ (List.mem_of_getElem? (i := 167) rfl)))), rfl⟩
theorem zw_152 : (.methodLink "PlainSteps$Operands" 43 zy_Operands_readField : Cond) ∈ zq_W := List.mem_filter.mpr ⟨List.mem_append_right _ (List.mem_append_right _ (List.mem_append_right _ (List.mem_append_left _ (List.mem_of_getElem? (i := 160) rfl)))), rfl⟩
theorem zw_153 : (.instanceMethod zy_Operands_readField : Cond) ∈ zq_W := List.mem_filter.mpr ⟨List.mem_append_right _ (List.mem_append_right _ (List.mem_append_right _ (List.mem_append_left _ (List.mem_of_getElem? (i := 162) rfl)))), rfl⟩
theorem zw_154 : (.selects "PlainSteps$Operands" zy_Operands_readField zy_Operands_readField : Cond) ∈ zq_W := List.mem_filter.mpr ⟨List.mem_append_left _ (List.mem_of_getElem? (i := 5) rfl), rfl⟩
theorem zw_155 : (.initialized "PlainSteps$Operands" : Cond) ∈ zq_W := List.mem_filter.mpr ⟨List.mem_append_right _ (List.mem_append_left _ (List.mem_of_getElem? (i := 4) rfl)), rfl⟩
theorem zw_156 : (.code zy_Operands_readField zb_Operands_readField 7 (some .long) : Cond) ∈ zq_W := List.mem_filter.mpr ⟨List.mem_append_right _ (List.mem_append_right _ (List.mem_append_right _ (List.mem_append_left _ (List.mem_of_getElem? (i := 163) rfl)))), rfl⟩
theorem zw_157 : (.methodLink "PlainSteps$Operands" 51 zy_Registers_isMarked : Cond) ∈ zq_W := List.mem_filter.mpr ⟨List.mem_append_right _ (List.mem_append_right _ (List.mem_append_right _ (List.mem_append_left _ (List.mem_of_getElem? (i := 172) rfl)))), rfl⟩
theorem zw_158 : (.instanceMethod zy_Registers_isMarked : Cond) ∈ zq_W := List.mem_filter.mpr ⟨List.mem_append_right _ (List.mem_append_right _ (List.mem_append_right _ (List.mem_append_left _ (List.mem_of_getElem? (i := 173) rfl)))), rfl⟩
theorem zw_159 : (.selects "PlainSteps$Registers" zy_Registers_isMarked zy_Registers_isMarked : Cond) ∈ zq_W := List.mem_filter.mpr ⟨List.mem_append_right _ (List.mem_append_right _ (List.mem_append_right _ (List.mem_append_left _ (List.mem_of_getElem? (i := 174) rfl)))), rfl⟩
theorem zw_160 : (.code zy_Registers_isMarked zb_Registers_isMarked 2 (some .boolean) : Cond) ∈ zq_W := List.mem_filter.mpr ⟨List.mem_append_right _ (List.mem_append_right _ (List.mem_append_right _ (List.mem_append_left _ (List.mem_of_getElem? (i := 175) rfl)))), rfl⟩
theorem zw_161 : (.fieldLink "PlainSteps$Program" 9 "PlainSteps$Program" "ops" "[I" : Cond) ∈ zq_W := List.mem_filter.mpr ⟨List.mem_append_right _ (List.mem_append_left _ (List.mem_of_getElem? (i := 98) rfl)), rfl⟩
theorem zw_162 : (.fieldLink "PlainSteps$Program" 39 "PlainSteps$Program" "transferCount" "I" : Cond) ∈ zq_W := List.mem_filter.mpr ⟨List.mem_append_right _ (List.mem_append_left _ (List.mem_of_getElem? (i := 106) rfl)), rfl⟩
theorem zw_163 : (.fieldLink "PlainSteps$Program" 15 "PlainSteps$Program" "firsts" "[I" : Cond) ∈ zq_W := List.mem_filter.mpr ⟨List.mem_append_right _ (List.mem_append_left _ (List.mem_of_getElem? (i := 100) rfl)), rfl⟩
theorem zw_164 : (.fieldLink "PlainSteps$Program" 18 "PlainSteps$Program" "seconds" "[I" : Cond) ∈ zq_W := List.mem_filter.mpr ⟨List.mem_append_right _ (List.mem_append_left _ (List.mem_of_getElem? (i := 102) rfl)), rfl⟩
theorem zw_165 : (.fieldLink "PlainSteps$Program" 21 "PlainSteps$Program" "targets" "[I" : Cond) ∈ zq_W := List.mem_filter.mpr ⟨List.mem_append_right _ (List.mem_append_left _ (List.mem_of_getElem? (i := 104) rfl)), rfl⟩
theorem zw_166 : (.fieldLink "PlainSteps$Program" 24 "PlainSteps$Program" "masks" "[I" : Cond) ∈ zq_W := List.mem_filter.mpr ⟨List.mem_append_right _ (List.mem_append_left _ (List.mem_of_getElem? (i := 108) rfl)), rfl⟩
theorem zw_167 : (.fieldLink "PlainSteps$Program" 43 "PlainSteps$Program" "instructionCount" "I" : Cond) ∈ zq_W := List.mem_filter.mpr ⟨List.mem_append_right _ (List.mem_append_left _ (List.mem_of_getElem? (i := 115) rfl)), rfl⟩
theorem zw_168 : (.fieldLink "PlainSteps$Program" 27 "PlainSteps$Program" "values" "[I" : Cond) ∈ zq_W := List.mem_filter.mpr ⟨List.mem_append_right _ (List.mem_append_left _ (List.mem_of_getElem? (i := 109) rfl)), rfl⟩
theorem zw_169 : (.fieldLink "PlainSteps$Program" 30 "PlainSteps$Program" "ways" "[I" : Cond) ∈ zq_W := List.mem_filter.mpr ⟨List.mem_append_right _ (List.mem_append_left _ (List.mem_of_getElem? (i := 110) rfl)), rfl⟩
theorem zw_170 : (.fieldLink "PlainSteps$Program" 33 "PlainSteps$Program" "starts" "[I" : Cond) ∈ zq_W := List.mem_filter.mpr ⟨List.mem_append_right _ (List.mem_append_left _ (List.mem_of_getElem? (i := 111) rfl)), rfl⟩
theorem zw_171 : (.fieldLink "PlainSteps$Program" 36 "PlainSteps$Program" "ends" "[I" : Cond) ∈ zq_W := List.mem_filter.mpr ⟨List.mem_append_right _ (List.mem_append_left _ (List.mem_of_getElem? (i := 113) rfl)), rfl⟩
theorem zw_172 : (.fieldLink "PlainSteps$Kept" 18 "PlainSteps$Kept" "count" "I" : Cond) ∈ zq_W := List.mem_filter.mpr ⟨List.mem_append_right _ (List.mem_append_left _ (List.mem_of_getElem? (i := 148) rfl)), rfl⟩
theorem zw_173 : (.fieldLink "PlainSteps$Kept" 9 "PlainSteps$Kept" "places" "[I" : Cond) ∈ zq_W := List.mem_filter.mpr ⟨List.mem_append_right _ (List.mem_append_left _ (List.mem_of_getElem? (i := 146) rfl)), rfl⟩
theorem zw_174 : (.fieldLink "PlainSteps$Kept" 15 "PlainSteps$Kept" "levels" "[I" : Cond) ∈ zq_W := List.mem_filter.mpr ⟨List.mem_append_right _ (List.mem_append_left _ (List.mem_of_getElem? (i := 147) rfl)), rfl⟩
theorem zw_175 : (.fieldLink "PlainSteps$Kept" 22 "PlainSteps$Kept" "level" "I" : Cond) ∈ zq_W := List.mem_filter.mpr ⟨List.mem_append_right _ (List.mem_append_left _ (List.mem_of_getElem? (i := 153) rfl)), rfl⟩
theorem zw_176 : (.fieldLink "PlainSteps$Lines" 9 "PlainSteps$Lines" "on" "[Z" : Cond) ∈ zq_W := List.mem_filter.mpr ⟨List.mem_append_right _ (List.mem_append_left _ (List.mem_of_getElem? (i := 170) rfl)), rfl⟩
theorem zw_177 : (.fieldLink "PlainSteps$Lines" 15 "PlainSteps$Lines" "ranks" "[I" : Cond) ∈ zq_W := List.mem_filter.mpr ⟨List.mem_append_right _ (List.mem_append_left _ (List.mem_of_getElem? (i := 171) rfl)), rfl⟩
theorem zw_178 : (.fieldLink "PlainSteps$Writes" 30 "PlainSteps$Writes" "count" "I" : Cond) ∈ zq_W := List.mem_filter.mpr ⟨List.mem_append_right _ (List.mem_append_left _ (List.mem_of_getElem? (i := 194) rfl)), rfl⟩
theorem zw_179 : (.fieldLink "PlainSteps$Writes" 9 "PlainSteps$Writes" "forms" "[I" : Cond) ∈ zq_W := List.mem_filter.mpr ⟨List.mem_append_right _ (List.mem_append_left _ (List.mem_of_getElem? (i := 191) rfl)), rfl⟩
theorem zw_180 : (.fieldLink "PlainSteps$Writes" 15 "PlainSteps$Writes" "targets" "[I" : Cond) ∈ zq_W := List.mem_filter.mpr ⟨List.mem_append_right _ (List.mem_append_left _ (List.mem_of_getElem? (i := 192) rfl)), rfl⟩
theorem zw_181 : (.fieldLink "PlainSteps$Writes" 18 "PlainSteps$Writes" "values" "[J" : Cond) ∈ zq_W := List.mem_filter.mpr ⟨List.mem_append_right _ (List.mem_append_left _ (List.mem_of_getElem? (i := 193) rfl)), rfl⟩
theorem zw_182 : (.fieldLink "PlainSteps$Writes" 22 "PlainSteps$Writes" "registers" "LPlainSteps$Registers;" : Cond) ∈ zq_W := List.mem_filter.mpr ⟨List.mem_append_right _ (List.mem_append_left _ (List.mem_of_getElem? (i := 189) rfl)), rfl⟩
theorem zw_183 : (.methodLink "PlainSteps$Writes" 47 zy_Registers_isMarked : Cond) ∈ zq_W := List.mem_filter.mpr ⟨List.mem_append_right _ (List.mem_append_right _ (List.mem_append_right _ (List.mem_append_left _ (List.mem_of_getElem? (i := 202) rfl)))), rfl⟩
theorem zw_184 : (.fieldLink "PlainSteps$Writes" 26 "PlainSteps$Writes" "bytes" "LPlainSteps$Bytes;" : Cond) ∈ zq_W := List.mem_filter.mpr ⟨List.mem_append_right _ (List.mem_append_left _ (List.mem_of_getElem? (i := 190) rfl)), rfl⟩
theorem zw_185 : (.methodLink "PlainSteps$Writes" 44 zy_Bytes_wordOf : Cond) ∈ zq_W := List.mem_filter.mpr ⟨List.mem_append_right _ (List.mem_append_right _ (List.mem_append_right _ (List.mem_append_left _ (List.mem_of_getElem? (i := 201) rfl)))), rfl⟩
theorem zw_186 : (.instanceMethod zy_Bytes_wordOf : Cond) ∈ zq_W := List.mem_filter.mpr ⟨List.mem_append_right _ (List.mem_append_right _ (List.mem_append_right _ (List.mem_append_left _ (List.mem_of_getElem? (i := 129) rfl)))), rfl⟩
theorem zw_187 : (.selects "PlainSteps$Bytes" zy_Bytes_wordOf zy_Bytes_wordOf : Cond) ∈ zq_W := List.mem_filter.mpr ⟨List.mem_append_right _ (List.mem_append_right _ (List.mem_append_right _ (List.mem_append_left _ (List.mem_of_getElem? (i := 130) rfl)))), rfl⟩
theorem zw_188 : (.code zy_Bytes_wordOf zb_Bytes_wordOf 2 (some .int) : Cond) ∈ zq_W := List.mem_filter.mpr ⟨List.mem_append_right _ (List.mem_append_right _ (List.mem_append_right _ (List.mem_append_left _ (List.mem_of_getElem? (i := 131) rfl)))), rfl⟩
theorem zw_189 : (.methodLink "PlainSteps$Writes" 40 zy_Writes_note : Cond) ∈ zq_W := List.mem_filter.mpr ⟨List.mem_append_right _ (List.mem_append_right _ (List.mem_append_right _ (List.mem_append_left _ (List.mem_of_getElem? (i := 200) rfl)))), rfl⟩
theorem zw_190 : (.instanceMethod zy_Writes_note : Cond) ∈ zq_W := List.mem_filter.mpr ⟨List.mem_append_right _ (List.mem_append_right _ (List.mem_append_right _ (List.mem_append_left _ (List.mem_of_getElem? (i := 192) rfl)))), rfl⟩
theorem zw_191 : (.selects "PlainSteps$Writes" zy_Writes_note zy_Writes_note : Cond) ∈ zq_W := List.mem_filter.mpr ⟨List.mem_append_right _ (List.mem_append_right _ (List.mem_append_right _ (List.mem_append_left _ (List.mem_of_getElem? (i := 193) rfl)))), rfl⟩
theorem zw_192 : (.initialized "PlainSteps$Writes" : Cond) ∈ zq_W := List.mem_filter.mpr ⟨List.mem_append_right _ (List.mem_append_left _ (List.mem_of_getElem? (i := 9) rfl)), rfl⟩
theorem zw_193 : (.code zy_Writes_note zb_Writes_note 5 none : Cond) ∈ zq_W := List.mem_filter.mpr ⟨List.mem_append_right _ (List.mem_append_right _ (List.mem_append_right _ (List.mem_append_left _ (List.mem_of_getElem? (i := 194) rfl)))), rfl⟩
theorem zw_194 : (.methodLink "PlainSteps$Writes" 34 zy_Bytes_byteOf : Cond) ∈ zq_W := List.mem_filter.mpr ⟨List.mem_append_right _ (List.mem_append_right _ (List.mem_append_right _ (List.mem_append_left _ (List.mem_of_getElem? (i := 199) rfl)))), rfl⟩
theorem zw_195 : (.instanceMethod zy_Bytes_byteOf : Cond) ∈ zq_W := List.mem_filter.mpr ⟨List.mem_append_right _ (List.mem_append_right _ (List.mem_append_right _ (List.mem_append_left _ (List.mem_of_getElem? (i := 39) rfl)))), rfl⟩
theorem zw_196 : (.selects "PlainSteps$Bytes" zy_Bytes_byteOf zy_Bytes_byteOf : Cond) ∈ zq_W := List.mem_filter.mpr ⟨List.mem_append_right _ (List.mem_append_right _ (List.mem_append_right _ (List.mem_append_left _ (List.mem_of_getElem? (i := 40) rfl)))), rfl⟩
theorem zw_197 : (.code zy_Bytes_byteOf zb_Bytes_byteOf 2 (some .int) : Cond) ∈ zq_W := List.mem_filter.mpr ⟨List.mem_append_right _ (List.mem_append_right _ (List.mem_append_right _ (List.mem_append_left _ (List.mem_of_getElem? (i := 41) rfl)))), rfl⟩
theorem zw_198 : (.methodLink "PlainSteps$Writes" 53 zy_Registers_valueOf : Cond) ∈ zq_W := List.mem_filter.mpr ⟨List.mem_append_right _ (List.mem_append_right _ (List.mem_append_right _ (List.mem_append_left _ (List.mem_of_getElem? (i := 203) rfl)))), rfl⟩
theorem zw_199 : (.methodLink "PlainSteps$Writes" 64 zy_Registers_put : Cond) ∈ zq_W := List.mem_filter.mpr ⟨List.mem_append_right _ (List.mem_append_right _ (List.mem_append_right _ (List.mem_append_left _ (List.mem_of_getElem? (i := 213) rfl)))), rfl⟩
theorem zw_200 : (.methodLink "PlainSteps$Writes" 57 zy_Bytes_putByte : Cond) ∈ zq_W := List.mem_filter.mpr ⟨List.mem_append_right _ (List.mem_append_right _ (List.mem_append_right _ (List.mem_append_left _ (List.mem_of_getElem? (i := 208) rfl)))), rfl⟩
theorem zw_201 : (.instanceMethod zy_Bytes_putByte : Cond) ∈ zq_W := List.mem_filter.mpr ⟨List.mem_append_right _ (List.mem_append_right _ (List.mem_append_right _ (List.mem_append_left _ (List.mem_of_getElem? (i := 43) rfl)))), rfl⟩
theorem zw_202 : (.selects "PlainSteps$Bytes" zy_Bytes_putByte zy_Bytes_putByte : Cond) ∈ zq_W := List.mem_filter.mpr ⟨List.mem_append_right _ (List.mem_append_right _ (List.mem_append_right _ (List.mem_append_left _ (List.mem_of_getElem? (i := 44) rfl)))), rfl⟩
theorem zw_203 : (.code zy_Bytes_putByte zb_Bytes_putByte 4 none : Cond) ∈ zq_W := List.mem_filter.mpr ⟨List.mem_append_right _ (List.mem_append_right _ (List.mem_append_right _ (List.mem_append_left _ (List.mem_of_getElem? (i := 45) rfl)))), rfl⟩
theorem zw_204 : (.methodLink "PlainSteps$Writes" 61 zy_Bytes_putWord : Cond) ∈ zq_W := List.mem_filter.mpr ⟨List.mem_append_right _ (List.mem_append_right _ (List.mem_append_right _ (List.mem_append_left _ (List.mem_of_getElem? (i := 209) rfl)))), rfl⟩
theorem zw_205 : (.instanceMethod zy_Bytes_putWord : Cond) ∈ zq_W := List.mem_filter.mpr ⟨List.mem_append_right _ (List.mem_append_right _ (List.mem_append_right _ (List.mem_append_left _ (List.mem_of_getElem? (i := 210) rfl)))), rfl⟩
theorem zw_206 : (.selects "PlainSteps$Bytes" zy_Bytes_putWord zy_Bytes_putWord : Cond) ∈ zq_W := List.mem_filter.mpr ⟨List.mem_append_right _ (List.mem_append_right _ (List.mem_append_right _ (List.mem_append_left _ (List.mem_of_getElem? (i := 211) rfl)))), rfl⟩
theorem zw_207 : (.code zy_Bytes_putWord zb_Bytes_putWord 4 none : Cond) ∈ zq_W := List.mem_filter.mpr ⟨List.mem_append_right _ (List.mem_append_right _ (List.mem_append_right _ (List.mem_append_left _ (List.mem_of_getElem? (i := 212) rfl)))), rfl⟩
theorem zw_208 : (.methodLink "PlainSteps$Writes" 68 zy_Writes_perform : Cond) ∈ zq_W := List.mem_filter.mpr ⟨List.mem_append_right _ (List.mem_append_right _ (List.mem_append_right _ (List.mem_append_right _ (List.mem_append_left _ (List.mem_of_getElem? (i := 8) rfl))))), rfl⟩
theorem zw_209 : (.instanceMethod zy_Writes_perform : Cond) ∈ zq_W := List.mem_filter.mpr ⟨List.mem_append_right _ (List.mem_append_right _ (List.mem_append_right _ (List.mem_append_left _ (List.mem_of_getElem? (i := 205) rfl)))), rfl⟩
theorem zw_210 : (.selects "PlainSteps$Writes" zy_Writes_perform zy_Writes_perform : Cond) ∈ zq_W := List.mem_filter.mpr ⟨List.mem_append_right _ (List.mem_append_right _ (List.mem_append_right _ (List.mem_append_left _ (List.mem_of_getElem? (i := 206) rfl)))), rfl⟩
theorem zw_211 : (.code zy_Writes_perform zb_Writes_perform 5 none : Cond) ∈ zq_W := List.mem_filter.mpr ⟨List.mem_append_right _ (List.mem_append_right _ (List.mem_append_right _ (List.mem_append_left _ (List.mem_of_getElem? (i := 207) rfl)))), rfl⟩
theorem zw_212 : (.fieldLink "PlainSteps$Work" 85 "PlainSteps$Work" "word" "I" : Cond) ∈ zq_W := List.mem_filter.mpr ⟨List.mem_append_right _ (List.mem_append_left _ (List.mem_of_getElem? (i := 215) rfl)), rfl⟩
theorem zw_213 : (.fieldLink "PlainSteps$Work" 23 "PlainSteps$Work" "program" "LPlainSteps$Program;" : Cond) ∈ zq_W := List.mem_filter.mpr ⟨List.mem_append_right _ (List.mem_append_left _ (List.mem_of_getElem? (i := 211) rfl)), rfl⟩
theorem zw_214 : (.methodLink "PlainSteps$Work" 88 zy_Program_is : Cond) ∈ zq_W := List.mem_filter.mpr ⟨List.mem_append_right _ (List.mem_append_right _ (List.mem_append_right _ (List.mem_append_left _ (List.mem_of_getElem? (i := 144) rfl)))), rfl⟩
theorem zw_215 : (.instanceMethod zy_Program_is : Cond) ∈ zq_W := List.mem_filter.mpr ⟨List.mem_append_right _ (List.mem_append_right _ (List.mem_append_right _ (List.mem_append_left _ (List.mem_of_getElem? (i := 145) rfl)))), rfl⟩
theorem zw_216 : (.selects "PlainSteps$Program" zy_Program_is zy_Program_is : Cond) ∈ zq_W := List.mem_filter.mpr ⟨List.mem_append_right _ (List.mem_append_right _ (List.mem_append_right _ (List.mem_append_left _ (List.mem_of_getElem? (i := 146) rfl)))), rfl⟩
theorem zw_217 : (.initialized "PlainSteps$Program" : Cond) ∈ zq_W := List.mem_filter.mpr ⟨List.mem_append_right _ (List.mem_append_left _ (List.mem_of_getElem? (i := 5) rfl)), rfl⟩
theorem zw_218 : (.code zy_Program_is zb_Program_is 3 (some .boolean) : Cond) ∈ zq_W := List.mem_filter.mpr ⟨List.mem_append_right _ (List.mem_append_right _ (List.mem_append_right _ (List.mem_append_left _ (List.mem_of_getElem? (i := 147) rfl)))), rfl⟩
theorem zw_219 : (.fieldLink "PlainSteps$Work" 92 "PlainSteps$Work" "parallel" "Z" : Cond) ∈ zq_W := List.mem_filter.mpr ⟨List.mem_append_right _ (List.mem_append_left _ (List.mem_of_getElem? (i := 216) rfl)), rfl⟩
theorem zw_220 : (.fieldLink "PlainSteps$Work" 76 "PlainSteps$Work" "restoring" "Z" : Cond) ∈ zq_W := List.mem_filter.mpr ⟨List.mem_append_right _ (List.mem_append_left _ (List.mem_of_getElem? (i := 217) rfl)), rfl⟩
theorem zw_221 : (.fieldLink "PlainSteps$Work" 95 "PlainSteps$Work" "wrotePlace" "Z" : Cond) ∈ zq_W := List.mem_filter.mpr ⟨List.mem_append_right _ (List.mem_append_left _ (List.mem_of_getElem? (i := 218) rfl)), rfl⟩
theorem zw_222 : (.fieldLink "PlainSteps$Work" 65 "PlainSteps$Work" "ended" "Z" : Cond) ∈ zq_W := List.mem_filter.mpr ⟨List.mem_append_right _ (List.mem_append_left _ (List.mem_of_getElem? (i := 220) rfl)), rfl⟩
theorem zw_223 : (.fieldLink "PlainSteps$Work" 98 "PlainSteps$Work" "halts" "Z" : Cond) ∈ zq_W := List.mem_filter.mpr ⟨List.mem_append_right _ (List.mem_append_left _ (List.mem_of_getElem? (i := 221) rfl)), rfl⟩
theorem zw_224 : (.fieldLink "PlainSteps$Work" 101 "PlainSteps$Work" "backPlace" "I" : Cond) ∈ zq_W := List.mem_filter.mpr ⟨List.mem_append_right _ (List.mem_append_left _ (List.mem_of_getElem? (i := 223) rfl)), rfl⟩
theorem zw_225 : (.fieldLink "PlainSteps$Work" 40 "PlainSteps$Work" "writes" "LPlainSteps$Writes;" : Cond) ∈ zq_W := List.mem_filter.mpr ⟨List.mem_append_right _ (List.mem_append_left _ (List.mem_of_getElem? (i := 213) rfl)), rfl⟩
theorem zw_226 : (.methodLink "PlainSteps$Work" 104 zy_Writes_clear : Cond) ∈ zq_W := List.mem_filter.mpr ⟨List.mem_append_right _ (List.mem_append_right _ (List.mem_append_right _ (List.mem_append_left _ (List.mem_of_getElem? (i := 148) rfl)))), rfl⟩
theorem zw_227 : (.instanceMethod zy_Writes_clear : Cond) ∈ zq_W := List.mem_filter.mpr ⟨List.mem_append_right _ (List.mem_append_right _ (List.mem_append_right _ (List.mem_append_left _ (List.mem_of_getElem? (i := 149) rfl)))), rfl⟩
theorem zw_228 : (.selects "PlainSteps$Writes" zy_Writes_clear zy_Writes_clear : Cond) ∈ zq_W := List.mem_filter.mpr ⟨List.mem_append_right _ (List.mem_append_right _ (List.mem_append_right _ (List.mem_append_left _ (List.mem_of_getElem? (i := 150) rfl)))), rfl⟩
theorem zw_229 : (.code zy_Writes_clear zb_Writes_clear 1 none : Cond) ∈ zq_W := List.mem_filter.mpr ⟨List.mem_append_right _ (List.mem_append_right _ (List.mem_append_right _ (List.mem_append_left _ (List.mem_of_getElem? (i := 151) rfl)))), rfl⟩
theorem zw_230 : (.constantLong "PlainSteps$Work" 202 (-9223372036854775808) : Cond) ∈ zq_W := List.mem_filter.mpr ⟨List.mem_append_right _ (List.mem_append_right _ (List.mem_append_right _ (List.mem_append_left _ (List.mem_of_getElem? (i := 186) rfl)))), rfl⟩
theorem zw_231 : (.methodLink "PlainSteps$Work" 198 zy_Work_isBelow : Cond) ∈ zq_W := List.mem_filter.mpr ⟨List.mem_append_right _ (List.mem_append_right _ (List.mem_append_right _ (List.mem_append_left _ (List.mem_of_getElem? (i := 183) rfl)))), rfl⟩
theorem zw_232 : (.static zy_Work_isBelow : Cond) ∈ zq_W := List.mem_filter.mpr ⟨List.mem_append_right _ (List.mem_append_right _ (List.mem_append_right _ (List.mem_append_left _ (List.mem_of_getElem? (i := 184) rfl)))), rfl⟩
theorem zw_233 : (.initialized "PlainSteps$Work" : Cond) ∈ zq_W := List.mem_filter.mpr ⟨List.mem_append_right _ (List.mem_append_left _ (List.mem_of_getElem? (i := 8) rfl)), rfl⟩
theorem zw_234 : (.code zy_Work_isBelow zb_Work_isBelow 4 (some .boolean) : Cond) ∈ zq_W := List.mem_filter.mpr ⟨List.mem_append_right _ (List.mem_append_right _ (List.mem_append_right _ (List.mem_append_left _ (List.mem_of_getElem? (i := 185) rfl)))), rfl⟩
theorem zw_235 : (.methodLink "PlainSteps$Work" 190 zy_Writes_noteReverse : Cond) ∈ zq_W := List.mem_filter.mpr ⟨List.mem_append_right _ (List.mem_append_right _ (List.mem_append_right _ (List.mem_append_left _ (List.mem_of_getElem? (i := 195) rfl)))), rfl⟩
theorem zw_236 : (.instanceMethod zy_Writes_noteReverse : Cond) ∈ zq_W := List.mem_filter.mpr ⟨List.mem_append_right _ (List.mem_append_right _ (List.mem_append_right _ (List.mem_append_left _ (List.mem_of_getElem? (i := 196) rfl)))), rfl⟩
theorem zw_237 : (.selects "PlainSteps$Writes" zy_Writes_noteReverse zy_Writes_noteReverse : Cond) ∈ zq_W := List.mem_filter.mpr ⟨List.mem_append_right _ (List.mem_append_right _ (List.mem_append_right _ (List.mem_append_left _ (List.mem_of_getElem? (i := 197) rfl)))), rfl⟩
theorem zw_238 : (.code zy_Writes_noteReverse zb_Writes_noteReverse 3 none : Cond) ∈ zq_W := List.mem_filter.mpr ⟨List.mem_append_right _ (List.mem_append_right _ (List.mem_append_right _ (List.mem_append_left _ (List.mem_of_getElem? (i := 198) rfl)))), rfl⟩
theorem zw_239 : (.methodLink "PlainSteps$Work" 187 zy_Writes_note : Cond) ∈ zq_W := List.mem_filter.mpr ⟨List.mem_append_right _ (List.mem_append_right _ (List.mem_append_right _ (List.mem_append_left _ (List.mem_of_getElem? (i := 191) rfl)))), rfl⟩
theorem zw_240 : (.methodLink "PlainSteps$Work" 193 zy_Writes_perform : Cond) ∈ zq_W := List.mem_filter.mpr ⟨List.mem_append_right _ (List.mem_append_right _ (List.mem_append_right _ (List.mem_append_left _ (List.mem_of_getElem? (i := 204) rfl)))), rfl⟩
theorem zw_241 : (.methodLink "PlainSteps$Work" 167 zy_Work_quotient : Cond) ∈ zq_W := List.mem_filter.mpr ⟨List.mem_append_right _ (List.mem_append_right _ (List.mem_append_right _ (List.mem_append_left _ (List.mem_of_getElem? (i := 180) rfl)))), rfl⟩
theorem zw_242 : (.static zy_Work_quotient : Cond) ∈ zq_W := List.mem_filter.mpr ⟨List.mem_append_right _ (List.mem_append_right _ (List.mem_append_right _ (List.mem_append_left _ (List.mem_of_getElem? (i := 181) rfl)))), rfl⟩
theorem zw_243 : (.code zy_Work_quotient zb_Work_quotient 6 (some .long) : Cond) ∈ zq_W := List.mem_filter.mpr ⟨List.mem_append_right _ (List.mem_append_right _ (List.mem_append_right _ (List.mem_append_left _ (List.mem_of_getElem? (i := 182) rfl)))), rfl⟩
theorem zw_244 : (.methodLink "PlainSteps$Work" 155 zy_Work_write : Cond) ∈ zq_W := List.mem_filter.mpr ⟨List.mem_append_right _ (List.mem_append_right _ (List.mem_append_right _ (List.mem_append_left _ (List.mem_of_getElem? (i := 187) rfl)))), rfl⟩
theorem zw_245 : (.instanceMethod zy_Work_write : Cond) ∈ zq_W := List.mem_filter.mpr ⟨List.mem_append_right _ (List.mem_append_right _ (List.mem_append_right _ (List.mem_append_left _ (List.mem_of_getElem? (i := 189) rfl)))), rfl⟩
theorem zw_246 : (.selects "PlainSteps$Work" zy_Work_write zy_Work_write : Cond) ∈ zq_W := List.mem_filter.mpr ⟨List.mem_append_left _ (List.mem_of_getElem? (i := 7) rfl), rfl⟩
theorem zw_247 : (.code zy_Work_write zb_Work_write 5 none : Cond) ∈ zq_W := List.mem_filter.mpr ⟨List.mem_append_right _ (List.mem_append_right _ (List.mem_append_right _ (List.mem_append_left _ (List.mem_of_getElem? (i := 190) rfl)))), rfl⟩
theorem zw_248 : (.fieldLink "PlainSteps$Work" 15 "PlainSteps$Work" "bytes" "LPlainSteps$Bytes;" : Cond) ∈ zq_W := List.mem_filter.mpr ⟨List.mem_append_right _ (List.mem_append_left _ (List.mem_of_getElem? (i := 209) rfl)), rfl⟩
theorem zw_249 : (.methodLink "PlainSteps$Work" 177 zy_Bytes_hasByte : Cond) ∈ zq_W := List.mem_filter.mpr ⟨List.mem_append_right _ (List.mem_append_right _ (List.mem_append_right _ (List.mem_append_left _ (List.mem_of_getElem? (i := 219) rfl)))), rfl⟩
theorem zw_250 : (.methodLink "PlainSteps$Work" 171 zy_Bytes_hasWord : Cond) ∈ zq_W := List.mem_filter.mpr ⟨List.mem_append_right _ (List.mem_append_right _ (List.mem_append_right _ (List.mem_append_left _ (List.mem_of_getElem? (i := 218) rfl)))), rfl⟩
theorem zw_251 : (.instanceMethod zy_Bytes_hasWord : Cond) ∈ zq_W := List.mem_filter.mpr ⟨List.mem_append_right _ (List.mem_append_right _ (List.mem_append_right _ (List.mem_append_left _ (List.mem_of_getElem? (i := 115) rfl)))), rfl⟩
theorem zw_252 : (.selects "PlainSteps$Bytes" zy_Bytes_hasWord zy_Bytes_hasWord : Cond) ∈ zq_W := List.mem_filter.mpr ⟨List.mem_append_right _ (List.mem_append_right _ (List.mem_append_right _ (List.mem_append_left _ (List.mem_of_getElem? (i := 116) rfl)))), rfl⟩
theorem zw_253 : (.code zy_Bytes_hasWord zb_Bytes_hasWord 3 (some .boolean) : Cond) ∈ zq_W := List.mem_filter.mpr ⟨List.mem_append_right _ (List.mem_append_right _ (List.mem_append_right _ (List.mem_append_left _ (List.mem_of_getElem? (i := 117) rfl)))), rfl⟩
theorem zw_254 : (.fieldLink "PlainSteps$Work" 31 "PlainSteps$Work" "counts" "[I" : Cond) ∈ zq_W := List.mem_filter.mpr ⟨List.mem_append_right _ (List.mem_append_left _ (List.mem_of_getElem? (i := 214) rfl)), rfl⟩
theorem zw_255 : (.methodLink "PlainSteps$Work" 183 zy_Bytes_byteOf : Cond) ∈ zq_W := List.mem_filter.mpr ⟨List.mem_append_right _ (List.mem_append_right _ (List.mem_append_right _ (List.mem_append_left _ (List.mem_of_getElem? (i := 221) rfl)))), rfl⟩
theorem zw_256 : (.methodLink "PlainSteps$Work" 180 zy_Bytes_wordOf : Cond) ∈ zq_W := List.mem_filter.mpr ⟨List.mem_append_right _ (List.mem_append_right _ (List.mem_append_right _ (List.mem_append_left _ (List.mem_of_getElem? (i := 220) rfl)))), rfl⟩
theorem zw_257 : (.fieldLink "PlainSteps$Work" 27 "PlainSteps$Work" "kept" "LPlainSteps$Kept;" : Cond) ∈ zq_W := List.mem_filter.mpr ⟨List.mem_append_right _ (List.mem_append_left _ (List.mem_of_getElem? (i := 212) rfl)), rfl⟩
theorem zw_258 : (.methodLink "PlainSteps$Work" 186 zy_Kept_goBack : Cond) ∈ zq_W := List.mem_filter.mpr ⟨List.mem_append_right _ (List.mem_append_right _ (List.mem_append_right _ (List.mem_append_left _ (List.mem_of_getElem? (i := 231) rfl)))), rfl⟩
theorem zw_259 : (.instanceMethod zy_Kept_goBack : Cond) ∈ zq_W := List.mem_filter.mpr ⟨List.mem_append_right _ (List.mem_append_right _ (List.mem_append_right _ (List.mem_append_left _ (List.mem_of_getElem? (i := 232) rfl)))), rfl⟩
theorem zw_260 : (.selects "PlainSteps$Kept" zy_Kept_goBack zy_Kept_goBack : Cond) ∈ zq_W := List.mem_filter.mpr ⟨List.mem_append_right _ (List.mem_append_right _ (List.mem_append_right _ (List.mem_append_left _ (List.mem_of_getElem? (i := 233) rfl)))), rfl⟩
theorem zw_261 : (.initialized "PlainSteps$Kept" : Cond) ∈ zq_W := List.mem_filter.mpr ⟨List.mem_append_right _ (List.mem_append_left _ (List.mem_of_getElem? (i := 6) rfl)), rfl⟩
theorem zw_262 : (.code zy_Kept_goBack zb_Kept_goBack 1 (some .int) : Cond) ∈ zq_W := List.mem_filter.mpr ⟨List.mem_append_right _ (List.mem_append_right _ (List.mem_append_right _ (List.mem_append_left _ (List.mem_of_getElem? (i := 234) rfl)))), rfl⟩
theorem zw_263 : (.constantLong "PlainSteps$Work" 196 (63) : Cond) ∈ zq_W := List.mem_filter.mpr ⟨List.mem_append_right _ (List.mem_append_right _ (List.mem_append_right _ (List.mem_append_left _ (List.mem_of_getElem? (i := 238) rfl)))), rfl⟩
theorem zw_264 : (.fieldLink "PlainSteps$Work" 19 "PlainSteps$Work" "operands" "LPlainSteps$Operands;" : Cond) ∈ zq_W := List.mem_filter.mpr ⟨List.mem_append_right _ (List.mem_append_left _ (List.mem_of_getElem? (i := 210) rfl)), rfl⟩
theorem zw_265 : (.methodLink "PlainSteps$Work" 128 zy_Operands_read : Cond) ∈ zq_W := List.mem_filter.mpr ⟨List.mem_append_right _ (List.mem_append_right _ (List.mem_append_right _ (List.mem_append_left _ (List.mem_of_getElem? (i := 156) rfl)))), rfl⟩
theorem zw_266 : (.instanceMethod zy_Operands_read : Cond) ∈ zq_W := List.mem_filter.mpr ⟨List.mem_append_right _ (List.mem_append_right _ (List.mem_append_right _ (List.mem_append_left _ (List.mem_of_getElem? (i := 157) rfl)))), rfl⟩
theorem zw_267 : (.selects "PlainSteps$Operands" zy_Operands_read zy_Operands_read : Cond) ∈ zq_W := List.mem_filter.mpr ⟨List.mem_append_right _ (List.mem_append_right _ (List.mem_append_right _ (List.mem_append_left _ (List.mem_of_getElem? (i := 158) rfl)))), rfl⟩
theorem zw_268 : (.code zy_Operands_read zb_Operands_read 3 (some .long) : Cond) ∈ zq_W := List.mem_filter.mpr ⟨List.mem_append_right _ (List.mem_append_right _ (List.mem_append_right _ (List.mem_append_left _ (List.mem_of_getElem? (i := 159) rfl)))), rfl⟩
theorem zw_269 : (.methodLink "PlainSteps$Work" 137 zy_Operands_isMarked : Cond) ∈ zq_W := List.mem_filter.mpr ⟨List.mem_append_right _ (List.mem_append_right _ (List.mem_append_right _ (List.mem_append_left _ (List.mem_of_getElem? (i := 168) rfl)))), rfl⟩
theorem zw_270 : (.instanceMethod zy_Operands_isMarked : Cond) ∈ zq_W := List.mem_filter.mpr ⟨List.mem_append_right _ (List.mem_append_right _ (List.mem_append_right _ (List.mem_append_left _ (List.mem_of_getElem? (i := 169) rfl)))), rfl⟩
theorem zw_271 : (.selects "PlainSteps$Operands" zy_Operands_isMarked zy_Operands_isMarked : Cond) ∈ zq_W := List.mem_filter.mpr ⟨List.mem_append_right _ (List.mem_append_right _ (List.mem_append_right _ (List.mem_append_left _ (List.mem_of_getElem? (i := 170) rfl)))), rfl⟩
theorem zw_272 : (.code zy_Operands_isMarked zb_Operands_isMarked 2 (some .boolean) : Cond) ∈ zq_W := List.mem_filter.mpr ⟨List.mem_append_right _ (List.mem_append_right _ (List.mem_append_right _ (List.mem_append_left _ (List.mem_of_getElem? (i := 171) rfl)))), rfl⟩
theorem zw_273 : (.constantLong "PlainSteps$Work" 153 (7) : Cond) ∈ zq_W := List.mem_filter.mpr ⟨List.mem_append_right _ (List.mem_append_right _ (List.mem_append_right _ (List.mem_append_left _ (List.mem_of_getElem? (i := 226) rfl)))), rfl⟩
theorem zw_274 : (.methodLink "PlainSteps$Work" 159 zy_Work_goBack : Cond) ∈ zq_W := List.mem_filter.mpr ⟨List.mem_append_right _ (List.mem_append_right _ (List.mem_append_right _ (List.mem_append_left _ (List.mem_of_getElem? (i := 227) rfl)))), rfl⟩
theorem zw_275 : (.instanceMethod zy_Work_goBack : Cond) ∈ zq_W := List.mem_filter.mpr ⟨List.mem_append_right _ (List.mem_append_right _ (List.mem_append_right _ (List.mem_append_left _ (List.mem_of_getElem? (i := 229) rfl)))), rfl⟩
theorem zw_276 : (.selects "PlainSteps$Work" zy_Work_goBack zy_Work_goBack : Cond) ∈ zq_W := List.mem_filter.mpr ⟨List.mem_append_left _ (List.mem_of_getElem? (i := 10) rfl), rfl⟩
theorem zw_277 : (.code zy_Work_goBack zb_Work_goBack 2 (some .int) : Cond) ∈ zq_W := List.mem_filter.mpr ⟨List.mem_append_right _ (List.mem_append_right _ (List.mem_append_right _ (List.mem_append_left _ (List.mem_of_getElem? (i := 230) rfl)))), rfl⟩
theorem zw_278 : (.methodLink "PlainSteps$Work" 141 zy_Work_divide : Cond) ∈ zq_W := List.mem_filter.mpr ⟨List.mem_append_right _ (List.mem_append_right _ (List.mem_append_right _ (List.mem_append_left _ (List.mem_of_getElem? (i := 176) rfl)))), rfl⟩
theorem zw_279 : (.instanceMethod zy_Work_divide : Cond) ∈ zq_W := List.mem_filter.mpr ⟨List.mem_append_right _ (List.mem_append_right _ (List.mem_append_right _ (List.mem_append_left _ (List.mem_of_getElem? (i := 178) rfl)))), rfl⟩
theorem zw_280 : (.selects "PlainSteps$Work" zy_Work_divide zy_Work_divide : Cond) ∈ zq_W := List.mem_filter.mpr ⟨List.mem_append_left _ (List.mem_of_getElem? (i := 6) rfl), rfl⟩
theorem zw_281 : (.code zy_Work_divide zb_Work_divide 10 (some .int) : Cond) ∈ zq_W := List.mem_filter.mpr ⟨List.mem_append_right _ (List.mem_append_right _ (List.mem_append_right _ (List.mem_append_left _ (List.mem_of_getElem? (i := 179) rfl)))), rfl⟩
theorem zw_282 : (.methodLink "PlainSteps$Work" 149 zy_Work_store : Cond) ∈ zq_W := List.mem_filter.mpr ⟨List.mem_append_right _ (List.mem_append_right _ (List.mem_append_right _ (List.mem_append_left _ (List.mem_of_getElem? (i := 222) rfl)))), rfl⟩
theorem zw_283 : (.instanceMethod zy_Work_store : Cond) ∈ zq_W := List.mem_filter.mpr ⟨List.mem_append_right _ (List.mem_append_right _ (List.mem_append_right _ (List.mem_append_left _ (List.mem_of_getElem? (i := 224) rfl)))), rfl⟩
theorem zw_284 : (.selects "PlainSteps$Work" zy_Work_store zy_Work_store : Cond) ∈ zq_W := List.mem_filter.mpr ⟨List.mem_append_left _ (List.mem_of_getElem? (i := 9) rfl), rfl⟩
theorem zw_285 : (.code zy_Work_store zb_Work_store 6 (some .int) : Cond) ∈ zq_W := List.mem_filter.mpr ⟨List.mem_append_right _ (List.mem_append_right _ (List.mem_append_right _ (List.mem_append_left _ (List.mem_of_getElem? (i := 225) rfl)))), rfl⟩
theorem zw_286 : (.methodLink "PlainSteps$Work" 163 zy_Work_result : Cond) ∈ zq_W := List.mem_filter.mpr ⟨List.mem_append_right _ (List.mem_append_right _ (List.mem_append_right _ (List.mem_append_left _ (List.mem_of_getElem? (i := 235) rfl)))), rfl⟩
theorem zw_287 : (.static zy_Work_result : Cond) ∈ zq_W := List.mem_filter.mpr ⟨List.mem_append_right _ (List.mem_append_right _ (List.mem_append_right _ (List.mem_append_left _ (List.mem_of_getElem? (i := 236) rfl)))), rfl⟩
theorem zw_288 : (.code zy_Work_result zb_Work_result 5 (some .long) : Cond) ∈ zq_W := List.mem_filter.mpr ⟨List.mem_append_right _ (List.mem_append_right _ (List.mem_append_right _ (List.mem_append_left _ (List.mem_of_getElem? (i := 237) rfl)))), rfl⟩
theorem zw_289 : (.methodLink "PlainSteps$Work" 145 zy_Work_load : Cond) ∈ zq_W := List.mem_filter.mpr ⟨List.mem_append_right _ (List.mem_append_right _ (List.mem_append_right _ (List.mem_append_left _ (List.mem_of_getElem? (i := 214) rfl)))), rfl⟩
theorem zw_290 : (.instanceMethod zy_Work_load : Cond) ∈ zq_W := List.mem_filter.mpr ⟨List.mem_append_right _ (List.mem_append_right _ (List.mem_append_right _ (List.mem_append_left _ (List.mem_of_getElem? (i := 216) rfl)))), rfl⟩
theorem zw_291 : (.selects "PlainSteps$Work" zy_Work_load zy_Work_load : Cond) ∈ zq_W := List.mem_filter.mpr ⟨List.mem_append_left _ (List.mem_of_getElem? (i := 8) rfl), rfl⟩
theorem zw_292 : (.code zy_Work_load zb_Work_load 7 (some .int) : Cond) ∈ zq_W := List.mem_filter.mpr ⟨List.mem_append_right _ (List.mem_append_right _ (List.mem_append_right _ (List.mem_append_left _ (List.mem_of_getElem? (i := 217) rfl)))), rfl⟩
theorem zw_293 : (.methodLink "PlainSteps$Work" 113 zy_Writes_performInOrder : Cond) ∈ zq_W := List.mem_filter.mpr ⟨List.mem_append_right _ (List.mem_append_right _ (List.mem_append_right _ (List.mem_append_right _ (List.mem_append_left _ (List.mem_of_getElem? (i := 4) rfl))))), rfl⟩
theorem zw_294 : (.instanceMethod zy_Writes_performInOrder : Cond) ∈ zq_W := List.mem_filter.mpr ⟨List.mem_append_right _ (List.mem_append_right _ (List.mem_append_right _ (List.mem_append_right _ (List.mem_append_left _ (List.mem_of_getElem? (i := 5) rfl))))), rfl⟩
theorem zw_295 : (.selects "PlainSteps$Writes" zy_Writes_performInOrder zy_Writes_performInOrder : Cond) ∈ zq_W := List.mem_filter.mpr ⟨List.mem_append_right _ (List.mem_append_right _ (List.mem_append_right _ (List.mem_append_right _ (List.mem_append_left _ (List.mem_of_getElem? (i := 6) rfl))))), rfl⟩
theorem zw_296 : (.code zy_Writes_performInOrder zb_Writes_performInOrder 2 none : Cond) ∈ zq_W := List.mem_filter.mpr ⟨List.mem_append_right _ (List.mem_append_right _ (List.mem_append_right _ (List.mem_append_right _ (List.mem_append_left _ (List.mem_of_getElem? (i := 7) rfl))))), rfl⟩
theorem zw_297 : (.fieldLink "PlainSteps$Work" 9 "PlainSteps$Work" "registers" "LPlainSteps$Registers;" : Cond) ∈ zq_W := List.mem_filter.mpr ⟨List.mem_append_right _ (List.mem_append_left _ (List.mem_of_getElem? (i := 208) rfl)), rfl⟩
theorem zw_298 : (.methodLink "PlainSteps$Work" 107 zy_Registers_put : Cond) ∈ zq_W := List.mem_filter.mpr ⟨List.mem_append_right _ (List.mem_append_right _ (List.mem_append_right _ (List.mem_append_right _ (List.mem_append_left _ (List.mem_of_getElem? (i := 3) rfl))))), rfl⟩
theorem zw_299 : (.methodLink "PlainSteps$Work" 116 zy_Writes_performBackwards : Cond) ∈ zq_W := List.mem_filter.mpr ⟨List.mem_append_right _ (List.mem_append_right _ (List.mem_append_right _ (List.mem_append_right _ (List.mem_append_left _ (List.mem_of_getElem? (i := 13) rfl))))), rfl⟩
theorem zw_300 : (.instanceMethod zy_Writes_performBackwards : Cond) ∈ zq_W := List.mem_filter.mpr ⟨List.mem_append_right _ (List.mem_append_right _ (List.mem_append_right _ (List.mem_append_right _ (List.mem_append_left _ (List.mem_of_getElem? (i := 14) rfl))))), rfl⟩
theorem zw_301 : (.selects "PlainSteps$Writes" zy_Writes_performBackwards zy_Writes_performBackwards : Cond) ∈ zq_W := List.mem_filter.mpr ⟨List.mem_append_right _ (List.mem_append_right _ (List.mem_append_right _ (List.mem_append_right _ (List.mem_append_left _ (List.mem_of_getElem? (i := 15) rfl))))), rfl⟩
theorem zw_302 : (.code zy_Writes_performBackwards zb_Writes_performBackwards 2 none : Cond) ∈ zq_W := List.mem_filter.mpr ⟨List.mem_append_right _ (List.mem_append_right _ (List.mem_append_right _ (List.mem_append_right _ (List.mem_append_left _ (List.mem_of_getElem? (i := 16) rfl))))), rfl⟩
theorem zw_303 : (.methodLink "PlainSteps$Work" 44 zy_Work_prepare : Cond) ∈ zq_W := List.mem_filter.mpr ⟨List.mem_append_right _ (List.mem_append_right _ (List.mem_append_right _ (List.mem_append_left _ (List.mem_of_getElem? (i := 140) rfl)))), rfl⟩
theorem zw_304 : (.instanceMethod zy_Work_prepare : Cond) ∈ zq_W := List.mem_filter.mpr ⟨List.mem_append_right _ (List.mem_append_right _ (List.mem_append_right _ (List.mem_append_left _ (List.mem_of_getElem? (i := 142) rfl)))), rfl⟩
theorem zw_305 : (.selects "PlainSteps$Work" zy_Work_prepare zy_Work_prepare : Cond) ∈ zq_W := List.mem_filter.mpr ⟨List.mem_append_left _ (List.mem_of_getElem? (i := 3) rfl), rfl⟩
theorem zw_306 : (.code zy_Work_prepare zb_Work_prepare 3 none : Cond) ∈ zq_W := List.mem_filter.mpr ⟨List.mem_append_right _ (List.mem_append_right _ (List.mem_append_right _ (List.mem_append_left _ (List.mem_of_getElem? (i := 143) rfl)))), rfl⟩
theorem zw_307 : (.methodLink "PlainSteps$Work" 69 zy_Work_doTransfer : Cond) ∈ zq_W := List.mem_filter.mpr ⟨List.mem_append_right _ (List.mem_append_right _ (List.mem_append_right _ (List.mem_append_left _ (List.mem_of_getElem? (i := 152) rfl)))), rfl⟩
theorem zw_308 : (.instanceMethod zy_Work_doTransfer : Cond) ∈ zq_W := List.mem_filter.mpr ⟨List.mem_append_right _ (List.mem_append_right _ (List.mem_append_right _ (List.mem_append_left _ (List.mem_of_getElem? (i := 154) rfl)))), rfl⟩
theorem zw_309 : (.selects "PlainSteps$Work" zy_Work_doTransfer zy_Work_doTransfer : Cond) ∈ zq_W := List.mem_filter.mpr ⟨List.mem_append_left _ (List.mem_of_getElem? (i := 4) rfl), rfl⟩
theorem zw_310 : (.code zy_Work_doTransfer zb_Work_doTransfer 10 (some .int) : Cond) ∈ zq_W := List.mem_filter.mpr ⟨List.mem_append_right _ (List.mem_append_right _ (List.mem_append_right _ (List.mem_append_left _ (List.mem_of_getElem? (i := 155) rfl)))), rfl⟩
theorem zw_311 : (.methodLink "PlainSteps$Work" 79 zy_Work_takeBack : Cond) ∈ zq_W := List.mem_filter.mpr ⟨List.mem_append_right _ (List.mem_append_right _ (List.mem_append_right _ (List.mem_append_right _ (List.mem_append_left _ (List.mem_of_getElem? (i := 9) rfl))))), rfl⟩
theorem zw_312 : (.instanceMethod zy_Work_takeBack : Cond) ∈ zq_W := List.mem_filter.mpr ⟨List.mem_append_right _ (List.mem_append_right _ (List.mem_append_right _ (List.mem_append_right _ (List.mem_append_left _ (List.mem_of_getElem? (i := 11) rfl))))), rfl⟩
theorem zw_313 : (.selects "PlainSteps$Work" zy_Work_takeBack zy_Work_takeBack : Cond) ∈ zq_W := List.mem_filter.mpr ⟨List.mem_append_left _ (List.mem_of_getElem? (i := 12) rfl), rfl⟩
theorem zw_314 : (.code zy_Work_takeBack zb_Work_takeBack 1 none : Cond) ∈ zq_W := List.mem_filter.mpr ⟨List.mem_append_right _ (List.mem_append_right _ (List.mem_append_right _ (List.mem_append_right _ (List.mem_append_left _ (List.mem_of_getElem? (i := 12) rfl))))), rfl⟩
theorem zw_315 : (.methodLink "PlainSteps$Work" 82 zy_Kept_restore : Cond) ∈ zq_W := List.mem_filter.mpr ⟨List.mem_append_right _ (List.mem_append_right _ (List.mem_append_right _ (List.mem_append_right _ (List.mem_append_left _ (List.mem_of_getElem? (i := 17) rfl))))), rfl⟩
theorem zw_316 : (.instanceMethod zy_Kept_restore : Cond) ∈ zq_W := List.mem_filter.mpr ⟨List.mem_append_right _ (List.mem_append_right _ (List.mem_append_right _ (List.mem_append_right _ (List.mem_append_left _ (List.mem_of_getElem? (i := 18) rfl))))), rfl⟩
theorem zw_317 : (.selects "PlainSteps$Kept" zy_Kept_restore zy_Kept_restore : Cond) ∈ zq_W := List.mem_filter.mpr ⟨List.mem_append_right _ (List.mem_append_right _ (List.mem_append_right _ (List.mem_append_right _ (List.mem_append_left _ (List.mem_of_getElem? (i := 19) rfl))))), rfl⟩
theorem zw_318 : (.code zy_Kept_restore zb_Kept_restore 3 none : Cond) ∈ zq_W := List.mem_filter.mpr ⟨List.mem_append_right _ (List.mem_append_right _ (List.mem_append_right _ (List.mem_append_right _ (List.mem_append_left _ (List.mem_of_getElem? (i := 20) rfl))))), rfl⟩
theorem zw_319 : (.methodLink "PlainSteps$Work" 73 zy_Work_writeWhatWaits : Cond) ∈ zq_W := List.mem_filter.mpr ⟨List.mem_append_right _ (List.mem_append_right _ (List.mem_append_right _ (List.mem_append_left _ (List.mem_of_getElem? (i := 239) rfl)))), rfl⟩
theorem zw_320 : (.instanceMethod zy_Work_writeWhatWaits : Cond) ∈ zq_W := List.mem_filter.mpr ⟨List.mem_append_right _ (List.mem_append_right _ (List.mem_append_right _ (List.mem_append_right _ (List.mem_append_left _ (List.mem_of_getElem? (i := 1) rfl))))), rfl⟩
theorem zw_321 : (.selects "PlainSteps$Work" zy_Work_writeWhatWaits zy_Work_writeWhatWaits : Cond) ∈ zq_W := List.mem_filter.mpr ⟨List.mem_append_left _ (List.mem_of_getElem? (i := 11) rfl), rfl⟩
theorem zw_322 : (.code zy_Work_writeWhatWaits zb_Work_writeWhatWaits 1 none : Cond) ∈ zq_W := List.mem_filter.mpr ⟨List.mem_append_right _ (List.mem_append_right _ (List.mem_append_right _ (List.mem_append_right _ (List.mem_append_left _ (List.mem_of_getElem? (i := 2) rfl))))), rfl⟩
theorem zw_323 : (.fieldLink "PlainSteps$Machine" 9 "PlainSteps$Machine" "waitingPlace" "I" : Cond) ∈ zq_W := List.mem_filter.mpr ⟨List.mem_append_right _ (List.mem_append_right _ (List.mem_append_left _ (List.mem_of_getElem? (i := 26) rfl))), rfl⟩
theorem zw_324 : (.methodLink "PlainSteps$Machine" 106 zy_Machine_loseWaiting : Cond) ∈ zq_W := List.mem_filter.mpr ⟨List.mem_append_right _ (List.mem_append_right _ (List.mem_append_right _ (List.mem_append_left _ (List.mem_of_getElem? (i := 90) rfl)))), rfl⟩
theorem zw_325 : (.instanceMethod zy_Machine_loseWaiting : Cond) ∈ zq_W := List.mem_filter.mpr ⟨List.mem_append_right _ (List.mem_append_right _ (List.mem_append_right _ (List.mem_append_left _ (List.mem_of_getElem? (i := 91) rfl)))), rfl⟩
theorem zw_326 : (.selects "PlainSteps$Machine" zy_Machine_loseWaiting zy_Machine_loseWaiting : Cond) ∈ zq_W := List.mem_filter.mpr ⟨List.mem_append_right _ (List.mem_append_right _ (List.mem_append_right _ (List.mem_append_left _ (List.mem_of_getElem? (i := 92) rfl)))), rfl⟩
theorem zw_327 : (.initialized "PlainSteps$Machine" : Cond) ∈ zq_W := List.mem_filter.mpr ⟨List.mem_append_right _ (List.mem_append_left _ (List.mem_of_getElem? (i := 10) rfl)), rfl⟩
theorem zw_328 : (.code zy_Machine_loseWaiting zb_Machine_loseWaiting 1 none : Cond) ∈ zq_W := List.mem_filter.mpr ⟨List.mem_append_right _ (List.mem_append_right _ (List.mem_append_right _ (List.mem_append_left _ (List.mem_of_getElem? (i := 93) rfl)))), rfl⟩
theorem zw_329 : (.fieldLink "PlainSteps$Machine" 30 "PlainSteps$Machine" "kept" "LPlainSteps$Kept;" : Cond) ∈ zq_W := List.mem_filter.mpr ⟨List.mem_append_right _ (List.mem_append_right _ (List.mem_append_left _ (List.mem_of_getElem? (i := 22) rfl))), rfl⟩
theorem zw_330 : (.methodLink "PlainSteps$Machine" 109 zy_Kept_isFull : Cond) ∈ zq_W := List.mem_filter.mpr ⟨List.mem_append_right _ (List.mem_append_right _ (List.mem_append_right _ (List.mem_append_left _ (List.mem_of_getElem? (i := 94) rfl)))), rfl⟩
theorem zw_331 : (.instanceMethod zy_Kept_isFull : Cond) ∈ zq_W := List.mem_filter.mpr ⟨List.mem_append_right _ (List.mem_append_right _ (List.mem_append_right _ (List.mem_append_left _ (List.mem_of_getElem? (i := 95) rfl)))), rfl⟩
theorem zw_332 : (.selects "PlainSteps$Kept" zy_Kept_isFull zy_Kept_isFull : Cond) ∈ zq_W := List.mem_filter.mpr ⟨List.mem_append_right _ (List.mem_append_right _ (List.mem_append_right _ (List.mem_append_left _ (List.mem_of_getElem? (i := 96) rfl)))), rfl⟩
theorem zw_333 : (.code zy_Kept_isFull zb_Kept_isFull 1 (some .boolean) : Cond) ∈ zq_W := List.mem_filter.mpr ⟨List.mem_append_right _ (List.mem_append_right _ (List.mem_append_right _ (List.mem_append_left _ (List.mem_of_getElem? (i := 97) rfl)))), rfl⟩
theorem zw_334 : (.fieldLink "PlainSteps$Machine" 42 "PlainSteps$Machine" "counts" "[I" : Cond) ∈ zq_W := List.mem_filter.mpr ⟨List.mem_append_right _ (List.mem_append_right _ (List.mem_append_left _ (List.mem_of_getElem? (i := 25) rfl))), rfl⟩
theorem zw_335 : (.fieldLink "PlainSteps$Machine" 18 "PlainSteps$Machine" "registers" "LPlainSteps$Registers;" : Cond) ∈ zq_W := List.mem_filter.mpr ⟨List.mem_append_right _ (List.mem_append_right _ (List.mem_append_left _ (List.mem_of_getElem? (i := 19) rfl))), rfl⟩
theorem zw_336 : (.methodLink "PlainSteps$Machine" 61 zy_Registers_placeNow : Cond) ∈ zq_W := List.mem_filter.mpr ⟨List.mem_append_right _ (List.mem_append_right _ (List.mem_append_right _ (List.mem_append_left _ (List.mem_of_getElem? (i := 98) rfl)))), rfl⟩
theorem zw_337 : (.instanceMethod zy_Registers_placeNow : Cond) ∈ zq_W := List.mem_filter.mpr ⟨List.mem_append_right _ (List.mem_append_right _ (List.mem_append_right _ (List.mem_append_left _ (List.mem_of_getElem? (i := 99) rfl)))), rfl⟩
theorem zw_338 : (.selects "PlainSteps$Registers" zy_Registers_placeNow zy_Registers_placeNow : Cond) ∈ zq_W := List.mem_filter.mpr ⟨List.mem_append_right _ (List.mem_append_right _ (List.mem_append_right _ (List.mem_append_left _ (List.mem_of_getElem? (i := 100) rfl)))), rfl⟩
theorem zw_339 : (.code zy_Registers_placeNow zb_Registers_placeNow 1 (some .int) : Cond) ∈ zq_W := List.mem_filter.mpr ⟨List.mem_append_right _ (List.mem_append_right _ (List.mem_append_right _ (List.mem_append_left _ (List.mem_of_getElem? (i := 101) rfl)))), rfl⟩
theorem zw_340 : (.fieldLink "PlainSteps$Machine" 34 "PlainSteps$Machine" "lines" "LPlainSteps$Lines;" : Cond) ∈ zq_W := List.mem_filter.mpr ⟨List.mem_append_right _ (List.mem_append_right _ (List.mem_append_left _ (List.mem_of_getElem? (i := 23) rfl))), rfl⟩
theorem zw_341 : (.methodLink "PlainSteps$Machine" 113 zy_Lines_rankOf : Cond) ∈ zq_W := List.mem_filter.mpr ⟨List.mem_append_right _ (List.mem_append_right _ (List.mem_append_right _ (List.mem_append_left _ (List.mem_of_getElem? (i := 102) rfl)))), rfl⟩
theorem zw_342 : (.instanceMethod zy_Lines_rankOf : Cond) ∈ zq_W := List.mem_filter.mpr ⟨List.mem_append_right _ (List.mem_append_right _ (List.mem_append_right _ (List.mem_append_left _ (List.mem_of_getElem? (i := 103) rfl)))), rfl⟩
theorem zw_343 : (.selects "PlainSteps$Lines" zy_Lines_rankOf zy_Lines_rankOf : Cond) ∈ zq_W := List.mem_filter.mpr ⟨List.mem_append_right _ (List.mem_append_right _ (List.mem_append_right _ (List.mem_append_left _ (List.mem_of_getElem? (i := 104) rfl)))), rfl⟩
theorem zw_344 : (.initialized "PlainSteps$Lines" : Cond) ∈ zq_W := List.mem_filter.mpr ⟨List.mem_append_right _ (List.mem_append_left _ (List.mem_of_getElem? (i := 7) rfl)), rfl⟩
theorem zw_345 : (.code zy_Lines_rankOf zb_Lines_rankOf 2 (some .int) : Cond) ∈ zq_W := List.mem_filter.mpr ⟨List.mem_append_right _ (List.mem_append_right _ (List.mem_append_right _ (List.mem_append_left _ (List.mem_of_getElem? (i := 105) rfl)))), rfl⟩
theorem zw_346 : (.methodLink "PlainSteps$Machine" 116 zy_Kept_keep : Cond) ∈ zq_W := List.mem_filter.mpr ⟨List.mem_append_right _ (List.mem_append_right _ (List.mem_append_right _ (List.mem_append_left _ (List.mem_of_getElem? (i := 106) rfl)))), rfl⟩
theorem zw_347 : (.instanceMethod zy_Kept_keep : Cond) ∈ zq_W := List.mem_filter.mpr ⟨List.mem_append_right _ (List.mem_append_right _ (List.mem_append_right _ (List.mem_append_left _ (List.mem_of_getElem? (i := 107) rfl)))), rfl⟩
theorem zw_348 : (.selects "PlainSteps$Kept" zy_Kept_keep zy_Kept_keep : Cond) ∈ zq_W := List.mem_filter.mpr ⟨List.mem_append_right _ (List.mem_append_right _ (List.mem_append_right _ (List.mem_append_left _ (List.mem_of_getElem? (i := 108) rfl)))), rfl⟩
theorem zw_349 : (.code zy_Kept_keep zb_Kept_keep 3 none : Cond) ∈ zq_W := List.mem_filter.mpr ⟨List.mem_append_right _ (List.mem_append_right _ (List.mem_append_right _ (List.mem_append_left _ (List.mem_of_getElem? (i := 109) rfl)))), rfl⟩
theorem zw_350 : (.methodLink "PlainSteps$Machine" 119 zy_Registers_put : Cond) ∈ zq_W := List.mem_filter.mpr ⟨List.mem_append_right _ (List.mem_append_right _ (List.mem_append_right _ (List.mem_append_left _ (List.mem_of_getElem? (i := 110) rfl)))), rfl⟩
theorem zw_351 : (.fieldLink "PlainSteps$Machine" 15 "PlainSteps$Machine" "halt" "I" : Cond) ∈ zq_W := List.mem_filter.mpr ⟨List.mem_append_right _ (List.mem_append_right _ (List.mem_append_left _ (List.mem_of_getElem? (i := 27) rfl))), rfl⟩
theorem zw_352 : (.fieldLink "PlainSteps$Machine" 126 "PlainSteps$Machine" "faultKind" "I" : Cond) ∈ zq_W := List.mem_filter.mpr ⟨List.mem_append_right _ (List.mem_append_right _ (List.mem_append_left _ (List.mem_of_getElem? (i := 29) rfl))), rfl⟩
theorem zw_353 : (.fieldLink "PlainSteps$Machine" 129 "PlainSteps$Machine" "faultPlace" "I" : Cond) ∈ zq_W := List.mem_filter.mpr ⟨List.mem_append_right _ (List.mem_append_right _ (List.mem_append_left _ (List.mem_of_getElem? (i := 31) rfl))), rfl⟩
theorem zw_354 : (.methodLink "PlainSteps$Machine" 85 zy_Registers_movePlace : Cond) ∈ zq_W := List.mem_filter.mpr ⟨List.mem_append_right _ (List.mem_append_right _ (List.mem_append_right _ (List.mem_append_left _ (List.mem_of_getElem? (i := 123) rfl)))), rfl⟩
theorem zw_355 : (.instanceMethod zy_Registers_movePlace : Cond) ∈ zq_W := List.mem_filter.mpr ⟨List.mem_append_right _ (List.mem_append_right _ (List.mem_append_right _ (List.mem_append_left _ (List.mem_of_getElem? (i := 124) rfl)))), rfl⟩
theorem zw_356 : (.selects "PlainSteps$Registers" zy_Registers_movePlace zy_Registers_movePlace : Cond) ∈ zq_W := List.mem_filter.mpr ⟨List.mem_append_right _ (List.mem_append_right _ (List.mem_append_right _ (List.mem_append_left _ (List.mem_of_getElem? (i := 125) rfl)))), rfl⟩
theorem zw_357 : (.code zy_Registers_movePlace zb_Registers_movePlace 2 none : Cond) ∈ zq_W := List.mem_filter.mpr ⟨List.mem_append_right _ (List.mem_append_right _ (List.mem_append_right _ (List.mem_append_left _ (List.mem_of_getElem? (i := 126) rfl)))), rfl⟩
theorem zw_358 : (.fieldLink "PlainSteps$Machine" 38 "PlainSteps$Machine" "work" "LPlainSteps$Work;" : Cond) ∈ zq_W := List.mem_filter.mpr ⟨List.mem_append_right _ (List.mem_append_right _ (List.mem_append_left _ (List.mem_of_getElem? (i := 24) rfl))), rfl⟩
theorem zw_359 : (.methodLink "PlainSteps$Machine" 51 zy_Lines_mostUrgent : Cond) ∈ zq_W := List.mem_filter.mpr ⟨List.mem_append_right _ (List.mem_append_right _ (List.mem_append_right _ (List.mem_append_left _ (List.mem_of_getElem? (i := 82) rfl)))), rfl⟩
theorem zw_360 : (.instanceMethod zy_Lines_mostUrgent : Cond) ∈ zq_W := List.mem_filter.mpr ⟨List.mem_append_right _ (List.mem_append_right _ (List.mem_append_right _ (List.mem_append_left _ (List.mem_of_getElem? (i := 83) rfl)))), rfl⟩
theorem zw_361 : (.selects "PlainSteps$Lines" zy_Lines_mostUrgent zy_Lines_mostUrgent : Cond) ∈ zq_W := List.mem_filter.mpr ⟨List.mem_append_right _ (List.mem_append_right _ (List.mem_append_right _ (List.mem_append_left _ (List.mem_of_getElem? (i := 84) rfl)))), rfl⟩
theorem zw_362 : (.code zy_Lines_mostUrgent zb_Lines_mostUrgent 5 (some .int) : Cond) ∈ zq_W := List.mem_filter.mpr ⟨List.mem_append_right _ (List.mem_append_right _ (List.mem_append_right _ (List.mem_append_left _ (List.mem_of_getElem? (i := 85) rfl)))), rfl⟩
theorem zw_363 : (.fieldLink "PlainSteps$Machine" 22 "PlainSteps$Machine" "bytes" "LPlainSteps$Bytes;" : Cond) ∈ zq_W := List.mem_filter.mpr ⟨List.mem_append_right _ (List.mem_append_right _ (List.mem_append_left _ (List.mem_of_getElem? (i := 20) rfl))), rfl⟩
theorem zw_364 : (.methodLink "PlainSteps$Machine" 67 zy_Bytes_hasWord : Cond) ∈ zq_W := List.mem_filter.mpr ⟨List.mem_append_right _ (List.mem_append_right _ (List.mem_append_right _ (List.mem_append_left _ (List.mem_of_getElem? (i := 114) rfl)))), rfl⟩
theorem zw_365 : (.methodLink "PlainSteps$Machine" 77 zy_Bytes_wordOf : Cond) ∈ zq_W := List.mem_filter.mpr ⟨List.mem_append_right _ (List.mem_append_right _ (List.mem_append_right _ (List.mem_append_left _ (List.mem_of_getElem? (i := 128) rfl)))), rfl⟩
theorem zw_366 : (.fieldLink "PlainSteps$Machine" 26 "PlainSteps$Machine" "program" "LPlainSteps$Program;" : Cond) ∈ zq_W := List.mem_filter.mpr ⟨List.mem_append_right _ (List.mem_append_right _ (List.mem_append_left _ (List.mem_of_getElem? (i := 21) rfl))), rfl⟩
theorem zw_367 : (.methodLink "PlainSteps$Machine" 80 zy_Program_find : Cond) ∈ zq_W := List.mem_filter.mpr ⟨List.mem_append_right _ (List.mem_append_right _ (List.mem_append_right _ (List.mem_append_left _ (List.mem_of_getElem? (i := 132) rfl)))), rfl⟩
theorem zw_368 : (.instanceMethod zy_Program_find : Cond) ∈ zq_W := List.mem_filter.mpr ⟨List.mem_append_right _ (List.mem_append_right _ (List.mem_append_right _ (List.mem_append_left _ (List.mem_of_getElem? (i := 133) rfl)))), rfl⟩
theorem zw_369 : (.selects "PlainSteps$Program" zy_Program_find zy_Program_find : Cond) ∈ zq_W := List.mem_filter.mpr ⟨List.mem_append_right _ (List.mem_append_right _ (List.mem_append_right _ (List.mem_append_left _ (List.mem_of_getElem? (i := 134) rfl)))), rfl⟩
theorem zw_370 : (.code zy_Program_find zb_Program_find 3 (some .int) : Cond) ∈ zq_W := List.mem_filter.mpr ⟨List.mem_append_right _ (List.mem_append_right _ (List.mem_append_right _ (List.mem_append_left _ (List.mem_of_getElem? (i := 135) rfl)))), rfl⟩
theorem zw_371 : (.methodLink "PlainSteps$Machine" 88 zy_Work_carryOut : Cond) ∈ zq_W := List.mem_filter.mpr ⟨List.mem_append_right _ (List.mem_append_right _ (List.mem_append_right _ (List.mem_append_left _ (List.mem_of_getElem? (i := 136) rfl)))), rfl⟩
theorem zw_372 : (.instanceMethod zy_Work_carryOut : Cond) ∈ zq_W := List.mem_filter.mpr ⟨List.mem_append_right _ (List.mem_append_right _ (List.mem_append_right _ (List.mem_append_left _ (List.mem_of_getElem? (i := 137) rfl)))), rfl⟩
theorem zw_373 : (.selects "PlainSteps$Work" zy_Work_carryOut zy_Work_carryOut : Cond) ∈ zq_W := List.mem_filter.mpr ⟨List.mem_append_right _ (List.mem_append_right _ (List.mem_append_right _ (List.mem_append_left _ (List.mem_of_getElem? (i := 138) rfl)))), rfl⟩
theorem zw_374 : (.code zy_Work_carryOut zb_Work_carryOut 7 (some .int) : Cond) ∈ zq_W := List.mem_filter.mpr ⟨List.mem_append_right _ (List.mem_append_right _ (List.mem_append_right _ (List.mem_append_left _ (List.mem_of_getElem? (i := 139) rfl)))), rfl⟩
theorem zw_375 : (.methodLink "PlainSteps$Machine" 73 zy_Machine_failWith : Cond) ∈ zq_W := List.mem_filter.mpr ⟨List.mem_append_right _ (List.mem_append_right _ (List.mem_append_right _ (List.mem_append_left _ (List.mem_of_getElem? (i := 119) rfl)))), rfl⟩
theorem zw_376 : (.instanceMethod zy_Machine_failWith : Cond) ∈ zq_W := List.mem_filter.mpr ⟨List.mem_append_right _ (List.mem_append_right _ (List.mem_append_right _ (List.mem_append_left _ (List.mem_of_getElem? (i := 121) rfl)))), rfl⟩
theorem zw_377 : (.selects "PlainSteps$Machine" zy_Machine_failWith zy_Machine_failWith : Cond) ∈ zq_W := List.mem_filter.mpr ⟨List.mem_append_left _ (List.mem_of_getElem? (i := 2) rfl), rfl⟩
theorem zw_378 : (.code zy_Machine_failWith zb_Machine_failWith 3 none : Cond) ∈ zq_W := List.mem_filter.mpr ⟨List.mem_append_right _ (List.mem_append_right _ (List.mem_append_right _ (List.mem_append_left _ (List.mem_of_getElem? (i := 122) rfl)))), rfl⟩
theorem zw_379 : (.methodLink "PlainSteps$Machine" 57 zy_Machine_interruptBy : Cond) ∈ zq_W := List.mem_filter.mpr ⟨List.mem_append_right _ (List.mem_append_right _ (List.mem_append_right _ (List.mem_append_left _ (List.mem_of_getElem? (i := 86) rfl)))), rfl⟩
theorem zw_380 : (.instanceMethod zy_Machine_interruptBy : Cond) ∈ zq_W := List.mem_filter.mpr ⟨List.mem_append_right _ (List.mem_append_right _ (List.mem_append_right _ (List.mem_append_left _ (List.mem_of_getElem? (i := 88) rfl)))), rfl⟩
theorem zw_381 : (.selects "PlainSteps$Machine" zy_Machine_interruptBy zy_Machine_interruptBy : Cond) ∈ zq_W := List.mem_filter.mpr ⟨List.mem_append_left _ (List.mem_of_getElem? (i := 1) rfl), rfl⟩
theorem zw_382 : (.code zy_Machine_interruptBy zb_Machine_interruptBy 2 none : Cond) ∈ zq_W := List.mem_filter.mpr ⟨List.mem_append_right _ (List.mem_append_right _ (List.mem_append_right _ (List.mem_append_left _ (List.mem_of_getElem? (i := 89) rfl)))), rfl⟩
theorem zw_383 : (.methodLink "PlainSteps$Machine" 98 zy_Program_is : Cond) ∈ zq_W := List.mem_filter.mpr ⟨List.mem_append_right _ (List.mem_append_right _ (List.mem_append_right _ (List.mem_append_right _ (List.mem_append_left _ (List.mem_of_getElem? (i := 21) rfl))))), rfl⟩
theorem zw_384 : (.methodLink "PlainSteps$Machine" 102 zy_Machine_settlePlace : Cond) ∈ zq_W := List.mem_filter.mpr ⟨List.mem_append_right _ (List.mem_append_right _ (List.mem_append_right _ (List.mem_append_right _ (List.mem_append_left _ (List.mem_of_getElem? (i := 22) rfl))))), rfl⟩
theorem zw_385 : (.instanceMethod zy_Machine_settlePlace : Cond) ∈ zq_W := List.mem_filter.mpr ⟨List.mem_append_right _ (List.mem_append_right _ (List.mem_append_right _ (List.mem_append_right _ (List.mem_append_left _ (List.mem_of_getElem? (i := 24) rfl))))), rfl⟩
theorem zw_386 : (.selects "PlainSteps$Machine" zy_Machine_settlePlace zy_Machine_settlePlace : Cond) ∈ zq_W := List.mem_filter.mpr ⟨List.mem_append_left _ (List.mem_of_getElem? (i := 13) rfl), rfl⟩
theorem zw_387 : (.code zy_Machine_settlePlace zb_Machine_settlePlace 4 none : Cond) ∈ zq_W := List.mem_filter.mpr ⟨List.mem_append_right _ (List.mem_append_right _ (List.mem_append_right _ (List.mem_append_right _ (List.mem_append_left _ (List.mem_of_getElem? (i := 25) rfl))))), rfl⟩
theorem zw_388 : (.fieldLink "PlainStepsModel" 107 "PlainStepsModel" "thrown" "I" : Cond) ∈ zq_W := List.mem_filter.mpr ⟨List.mem_append_right _ (List.mem_append_right _ (List.mem_append_right _ (List.mem_append_right _ (List.mem_append_left _ (List.mem_of_getElem? (i := 101) rfl))))), rfl⟩
theorem zw_389 : (.fieldLink "PlainStepsModel" 13 "PlainStepsModel" "width" "[I" : Cond) ∈ zq_W := List.mem_filter.mpr ⟨List.mem_append_right _ (List.mem_append_right _ (List.mem_append_right _ (List.mem_append_right _ (List.mem_append_left _ (List.mem_of_getElem? (i := 103) rfl))))), rfl⟩
theorem zw_390 : (.constantLong "PlainStepsModel" 110 (64) : Cond) ∈ zq_W := List.mem_filter.mpr ⟨List.mem_append_right _ (List.mem_append_right _ (List.mem_append_right _ (List.mem_append_right _ (List.mem_append_right _ (List.mem_of_getElem? (i := 26) rfl))))), rfl⟩
theorem zw_391 : (.methodLink "PlainStepsModel" 112 zy_M_in : Cond) ∈ zq_W := List.mem_filter.mpr ⟨List.mem_append_right _ (List.mem_append_right _ (List.mem_append_right _ (List.mem_append_right _ (List.mem_append_right _ (List.mem_of_getElem? (i := 27) rfl))))), rfl⟩
theorem zw_392 : (.static zy_M_in : Cond) ∈ zq_W := List.mem_filter.mpr ⟨List.mem_append_right _ (List.mem_append_right _ (List.mem_append_right _ (List.mem_append_right _ (List.mem_append_right _ (List.mem_of_getElem? (i := 28) rfl))))), rfl⟩
theorem zw_393 : (.initialized "PlainStepsModel" : Cond) ∈ zq_W := List.mem_filter.mpr ⟨List.mem_append_right _ (List.mem_append_left _ (List.mem_of_getElem? (i := 11) rfl)), rfl⟩
theorem zw_394 : (.code zy_M_in zb_M_in 6 (some .boolean) : Cond) ∈ zq_W := List.mem_filter.mpr ⟨List.mem_append_right _ (List.mem_append_right _ (List.mem_append_right _ (List.mem_append_right _ (List.mem_append_right _ (List.mem_of_getElem? (i := 29) rfl))))), rfl⟩
theorem zw_395 : (.fieldLink "PlainStepsModel" 7 "PlainStepsModel" "registers" "I" : Cond) ∈ zq_W := List.mem_filter.mpr ⟨List.mem_append_right _ (List.mem_append_right _ (List.mem_append_right _ (List.mem_append_right _ (List.mem_append_left _ (List.mem_of_getElem? (i := 102) rfl))))), rfl⟩
theorem zw_396 : (.methodLink "PlainStepsModel" 116 zy_M_goes : Cond) ∈ zq_W := List.mem_filter.mpr ⟨List.mem_append_right _ (List.mem_append_right _ (List.mem_append_right _ (List.mem_append_right _ (List.mem_append_right _ (List.mem_of_getElem? (i := 30) rfl))))), rfl⟩
theorem zw_397 : (.instanceMethod zy_M_goes : Cond) ∈ zq_W := List.mem_filter.mpr ⟨List.mem_append_right _ (List.mem_append_right _ (List.mem_append_right _ (List.mem_append_right _ (List.mem_append_right _ (List.mem_of_getElem? (i := 32) rfl))))), rfl⟩
theorem zw_398 : (.selects "PlainStepsModel" zy_M_goes zy_M_goes : Cond) ∈ zq_W := List.mem_filter.mpr ⟨List.mem_append_left _ (List.mem_of_getElem? (i := 14) rfl), rfl⟩
theorem zw_399 : (.code zy_M_goes zb_M_goes 3 (some .boolean) : Cond) ∈ zq_W := List.mem_filter.mpr ⟨List.mem_append_right _ (List.mem_append_right _ (List.mem_append_right _ (List.mem_append_right _ (List.mem_append_right _ (List.mem_of_getElem? (i := 33) rfl))))), rfl⟩
theorem zw_400 : (.fieldLink "PlainStepsModel" 17 "PlainStepsModel" "value" "[J" : Cond) ∈ zq_W := List.mem_filter.mpr ⟨List.mem_append_right _ (List.mem_append_right _ (List.mem_append_right _ (List.mem_append_right _ (List.mem_append_left _ (List.mem_of_getElem? (i := 104) rfl))))), rfl⟩
theorem zw_401 : (.fieldLink "PlainStepsModel" 27 "PlainStepsModel" "marked" "[Z" : Cond) ∈ zq_W := List.mem_filter.mpr ⟨List.mem_append_right _ (List.mem_append_right _ (List.mem_append_right _ (List.mem_append_right _ (List.mem_append_left _ (List.mem_of_getElem? (i := 107) rfl))))), rfl⟩
theorem zw_402 : (.fieldLink "PlainStepsModel" 120 "PlainStepsModel" "constants" "I" : Cond) ∈ zq_W := List.mem_filter.mpr ⟨List.mem_append_right _ (List.mem_append_right _ (List.mem_append_right _ (List.mem_append_right _ (List.mem_append_left _ (List.mem_of_getElem? (i := 112) rfl))))), rfl⟩
theorem zw_403 : (.fieldLink "PlainStepsModel" 44 "PlainStepsModel" "constant" "[J" : Cond) ∈ zq_W := List.mem_filter.mpr ⟨List.mem_append_right _ (List.mem_append_right _ (List.mem_append_right _ (List.mem_append_right _ (List.mem_append_left _ (List.mem_of_getElem? (i := 116) rfl))))), rfl⟩
theorem zw_404 : (.constantLong "PlainStepsModel" 123 (15) : Cond) ∈ zq_W := List.mem_filter.mpr ⟨List.mem_append_right _ (List.mem_append_right _ (List.mem_append_right _ (List.mem_append_right _ (List.mem_append_right _ (List.mem_of_getElem? (i := 42) rfl))))), rfl⟩
theorem zw_405 : (.fieldLink "PlainStepsModel" 125 "PlainStepsModel" "fields" "I" : Cond) ∈ zq_W := List.mem_filter.mpr ⟨List.mem_append_right _ (List.mem_append_right _ (List.mem_append_right _ (List.mem_append_right _ (List.mem_append_left _ (List.mem_of_getElem? (i := 113) rfl))))), rfl⟩
theorem zw_406 : (.fieldLink "PlainStepsModel" 47 "PlainStepsModel" "from" "[I" : Cond) ∈ zq_W := List.mem_filter.mpr ⟨List.mem_append_right _ (List.mem_append_right _ (List.mem_append_right _ (List.mem_append_right _ (List.mem_append_left _ (List.mem_of_getElem? (i := 117) rfl))))), rfl⟩
theorem zw_407 : (.fieldLink "PlainStepsModel" 50 "PlainStepsModel" "to" "[I" : Cond) ∈ zq_W := List.mem_filter.mpr ⟨List.mem_append_right _ (List.mem_append_right _ (List.mem_append_right _ (List.mem_append_right _ (List.mem_append_left _ (List.mem_of_getElem? (i := 118) rfl))))), rfl⟩
theorem zw_408 : (.fieldLink "PlainStepsModel" 53 "PlainStepsModel" "signed" "[Z" : Cond) ∈ zq_W := List.mem_filter.mpr ⟨List.mem_append_right _ (List.mem_append_right _ (List.mem_append_right _ (List.mem_append_right _ (List.mem_append_left _ (List.mem_of_getElem? (i := 119) rfl))))), rfl⟩
theorem zw_409 : (.constantLong "PlainStepsModel" 128 (32) : Cond) ∈ zq_W := List.mem_filter.mpr ⟨List.mem_append_right _ (List.mem_append_right _ (List.mem_append_right _ (List.mem_append_right _ (List.mem_append_right _ (List.mem_of_getElem? (i := 52) rfl))))), rfl⟩
theorem zw_410 : (.constantLong "PlainStepsModel" 130 (22) : Cond) ∈ zq_W := List.mem_filter.mpr ⟨List.mem_append_right _ (List.mem_append_right _ (List.mem_append_right _ (List.mem_append_right _ (List.mem_append_right _ (List.mem_of_getElem? (i := 47) rfl))))), rfl⟩
theorem zw_411 : (.methodLink "PlainStepsModel" 132 zy_M_isOperand : Cond) ∈ zq_W := List.mem_filter.mpr ⟨List.mem_append_right _ (List.mem_append_right _ (List.mem_append_right _ (List.mem_append_right _ (List.mem_append_right _ (List.mem_of_getElem? (i := 48) rfl))))), rfl⟩
theorem zw_412 : (.instanceMethod zy_M_isOperand : Cond) ∈ zq_W := List.mem_filter.mpr ⟨List.mem_append_right _ (List.mem_append_right _ (List.mem_append_right _ (List.mem_append_right _ (List.mem_append_right _ (List.mem_of_getElem? (i := 50) rfl))))), rfl⟩
theorem zw_413 : (.selects "PlainStepsModel" zy_M_isOperand zy_M_isOperand : Cond) ∈ zq_W := List.mem_filter.mpr ⟨List.mem_append_left _ (List.mem_of_getElem? (i := 15) rfl), rfl⟩
theorem zw_414 : (.code zy_M_isOperand zb_M_isOperand 2 (some .boolean) : Cond) ∈ zq_W := List.mem_filter.mpr ⟨List.mem_append_right _ (List.mem_append_right _ (List.mem_append_right _ (List.mem_append_right _ (List.mem_append_right _ (List.mem_of_getElem? (i := 51) rfl))))), rfl⟩
theorem zw_415 : (.fieldLink "PlainStepsModel" 136 "PlainStepsModel" "transfers" "I" : Cond) ∈ zq_W := List.mem_filter.mpr ⟨List.mem_append_right _ (List.mem_append_right _ (List.mem_append_right _ (List.mem_append_right _ (List.mem_append_left _ (List.mem_of_getElem? (i := 114) rfl))))), rfl⟩
theorem zw_416 : (.fieldLink "PlainStepsModel" 56 "PlainStepsModel" "op" "[I" : Cond) ∈ zq_W := List.mem_filter.mpr ⟨List.mem_append_right _ (List.mem_append_right _ (List.mem_append_right _ (List.mem_append_right _ (List.mem_append_left _ (List.mem_of_getElem? (i := 120) rfl))))), rfl⟩
theorem zw_417 : (.fieldLink "PlainStepsModel" 59 "PlainStepsModel" "first" "[I" : Cond) ∈ zq_W := List.mem_filter.mpr ⟨List.mem_append_right _ (List.mem_append_right _ (List.mem_append_right _ (List.mem_append_right _ (List.mem_append_left _ (List.mem_of_getElem? (i := 121) rfl))))), rfl⟩
theorem zw_418 : (.fieldLink "PlainStepsModel" 62 "PlainStepsModel" "second" "[I" : Cond) ∈ zq_W := List.mem_filter.mpr ⟨List.mem_append_right _ (List.mem_append_right _ (List.mem_append_right _ (List.mem_append_right _ (List.mem_append_left _ (List.mem_of_getElem? (i := 122) rfl))))), rfl⟩
theorem zw_419 : (.fieldLink "PlainStepsModel" 65 "PlainStepsModel" "target" "[I" : Cond) ∈ zq_W := List.mem_filter.mpr ⟨List.mem_append_right _ (List.mem_append_right _ (List.mem_append_right _ (List.mem_append_right _ (List.mem_append_left _ (List.mem_of_getElem? (i := 123) rfl))))), rfl⟩
theorem zw_420 : (.constantLong "PlainStepsModel" 139 (65535) : Cond) ∈ zq_W := List.mem_filter.mpr ⟨List.mem_append_right _ (List.mem_append_right _ (List.mem_append_right _ (List.mem_append_right _ (List.mem_append_right _ (List.mem_of_getElem? (i := 57) rfl))))), rfl⟩
theorem zw_421 : (.constantLong "PlainStepsModel" 141 (7) : Cond) ∈ zq_W := List.mem_filter.mpr ⟨List.mem_append_right _ (List.mem_append_right _ (List.mem_append_right _ (List.mem_append_right _ (List.mem_append_right _ (List.mem_of_getElem? (i := 58) rfl))))), rfl⟩
theorem zw_422 : (.fieldLink "PlainStepsModel" 143 "PlainStepsModel" "instructions" "I" : Cond) ∈ zq_W := List.mem_filter.mpr ⟨List.mem_append_right _ (List.mem_append_right _ (List.mem_append_right _ (List.mem_append_right _ (List.mem_append_left _ (List.mem_of_getElem? (i := 115) rfl))))), rfl⟩
theorem zw_423 : (.fieldLink "PlainStepsModel" 68 "PlainStepsModel" "mask" "[I" : Cond) ∈ zq_W := List.mem_filter.mpr ⟨List.mem_append_right _ (List.mem_append_right _ (List.mem_append_right _ (List.mem_append_right _ (List.mem_append_left _ (List.mem_of_getElem? (i := 124) rfl))))), rfl⟩
theorem zw_424 : (.fieldLink "PlainStepsModel" 71 "PlainStepsModel" "pattern" "[I" : Cond) ∈ zq_W := List.mem_filter.mpr ⟨List.mem_append_right _ (List.mem_append_right _ (List.mem_append_right _ (List.mem_append_right _ (List.mem_append_left _ (List.mem_of_getElem? (i := 125) rfl))))), rfl⟩
theorem zw_425 : (.fieldLink "PlainStepsModel" 74 "PlainStepsModel" "how" "[I" : Cond) ∈ zq_W := List.mem_filter.mpr ⟨List.mem_append_right _ (List.mem_append_right _ (List.mem_append_right _ (List.mem_append_right _ (List.mem_append_left _ (List.mem_of_getElem? (i := 126) rfl))))), rfl⟩
theorem zw_426 : (.fieldLink "PlainStepsModel" 77 "PlainStepsModel" "begin" "[I" : Cond) ∈ zq_W := List.mem_filter.mpr ⟨List.mem_append_right _ (List.mem_append_right _ (List.mem_append_right _ (List.mem_append_right _ (List.mem_append_left _ (List.mem_of_getElem? (i := 127) rfl))))), rfl⟩
theorem zw_427 : (.constantLong "PlainStepsModel" 146 (4095) : Cond) ∈ zq_W := List.mem_filter.mpr ⟨List.mem_append_right _ (List.mem_append_right _ (List.mem_append_right _ (List.mem_append_right _ (List.mem_append_right _ (List.mem_of_getElem? (i := 63) rfl))))), rfl⟩
theorem zw_428 : (.constantLong "PlainStepsModel" 148 (255) : Cond) ∈ zq_W := List.mem_filter.mpr ⟨List.mem_append_right _ (List.mem_append_right _ (List.mem_append_right _ (List.mem_append_right _ (List.mem_append_right _ (List.mem_of_getElem? (i := 64) rfl))))), rfl⟩
theorem zw_429 : (.fieldLink "PlainStepsModel" 37 "PlainStepsModel" "memory" "[B" : Cond) ∈ zq_W := List.mem_filter.mpr ⟨List.mem_append_right _ (List.mem_append_right _ (List.mem_append_right _ (List.mem_append_right _ (List.mem_append_left _ (List.mem_of_getElem? (i := 110) rfl))))), rfl⟩
theorem zw_430 : (.fieldLink "PlainStepsModel" 150 "PlainStepsModel" "kept" "I" : Cond) ∈ zq_W := List.mem_filter.mpr ⟨List.mem_append_right _ (List.mem_append_right _ (List.mem_append_right _ (List.mem_append_right _ (List.mem_append_left _ (List.mem_of_getElem? (i := 131) rfl))))), rfl⟩
theorem zw_431 : (.fieldLink "PlainStepsModel" 86 "PlainStepsModel" "keptPlace" "[I" : Cond) ∈ zq_W := List.mem_filter.mpr ⟨List.mem_append_right _ (List.mem_append_right _ (List.mem_append_right _ (List.mem_append_right _ (List.mem_append_left _ (List.mem_of_getElem? (i := 134) rfl))))), rfl⟩
theorem zw_432 : (.fieldLink "PlainStepsModel" 89 "PlainStepsModel" "keptLevel" "[I" : Cond) ∈ zq_W := List.mem_filter.mpr ⟨List.mem_append_right _ (List.mem_append_right _ (List.mem_append_right _ (List.mem_append_right _ (List.mem_append_left _ (List.mem_of_getElem? (i := 135) rfl))))), rfl⟩
theorem zw_433 : (.fieldLink "PlainStepsModel" 156 "PlainStepsModel" "level" "I" : Cond) ∈ zq_W := List.mem_filter.mpr ⟨List.mem_append_right _ (List.mem_append_right _ (List.mem_append_right _ (List.mem_append_right _ (List.mem_append_left _ (List.mem_of_getElem? (i := 130) rfl))))), rfl⟩
theorem zw_434 : (.fieldLink "PlainStepsModel" 153 "PlainStepsModel" "halted" "I" : Cond) ∈ zq_W := List.mem_filter.mpr ⟨List.mem_append_right _ (List.mem_append_right _ (List.mem_append_right _ (List.mem_append_right _ (List.mem_append_left _ (List.mem_of_getElem? (i := 149) rfl))))), rfl⟩
theorem zw_435 : (.fieldLink "PlainStepsModel" 104 "PlainStepsModel" "count" "[I" : Cond) ∈ zq_W := List.mem_filter.mpr ⟨List.mem_append_right _ (List.mem_append_right _ (List.mem_append_right _ (List.mem_append_right _ (List.mem_append_left _ (List.mem_of_getElem? (i := 152) rfl))))), rfl⟩
theorem zw_436 : (.fieldLink "PlainStepsModel" 159 "PlainStepsModel" "latest" "I" : Cond) ∈ zq_W := List.mem_filter.mpr ⟨List.mem_append_right _ (List.mem_append_right _ (List.mem_append_right _ (List.mem_append_right _ (List.mem_append_left _ (List.mem_of_getElem? (i := 150) rfl))))), rfl⟩
theorem zw_437 : (.fieldLink "PlainStepsModel" 162 "PlainStepsModel" "stands" "I" : Cond) ∈ zq_W := List.mem_filter.mpr ⟨List.mem_append_right _ (List.mem_append_right _ (List.mem_append_right _ (List.mem_append_right _ (List.mem_append_left _ (List.mem_of_getElem? (i := 137) rfl))))), rfl⟩
theorem zw_438 : (.fieldLink "PlainStepsModel" 165 "PlainStepsModel" "latestPlace" "I" : Cond) ∈ zq_W := List.mem_filter.mpr ⟨List.mem_append_right _ (List.mem_append_right _ (List.mem_append_right _ (List.mem_append_right _ (List.mem_append_left _ (List.mem_of_getElem? (i := 151) rfl))))), rfl⟩
theorem zw_439 : (.fieldLink "PlainStepsModel" 168 "PlainStepsModel" "waits" "Z" : Cond) ∈ zq_W := List.mem_filter.mpr ⟨List.mem_append_right _ (List.mem_append_right _ (List.mem_append_right _ (List.mem_append_right _ (List.mem_append_left _ (List.mem_of_getElem? (i := 142) rfl))))), rfl⟩
theorem zw_440 : (.methodLink "PlainStepsModel" 172 zy_M_keep : Cond) ∈ zq_W := List.mem_filter.mpr ⟨List.mem_append_right _ (List.mem_append_right _ (List.mem_append_right _ (List.mem_append_right _ (List.mem_append_right _ (List.mem_of_getElem? (i := 90) rfl))))), rfl⟩
theorem zw_441 : (.instanceMethod zy_M_keep : Cond) ∈ zq_W := List.mem_filter.mpr ⟨List.mem_append_right _ (List.mem_append_right _ (List.mem_append_right _ (List.mem_append_right _ (List.mem_append_right _ (List.mem_of_getElem? (i := 92) rfl))))), rfl⟩
theorem zw_442 : (.selects "PlainStepsModel" zy_M_keep zy_M_keep : Cond) ∈ zq_W := List.mem_filter.mpr ⟨List.mem_append_left _ (List.mem_of_getElem? (i := 20) rfl), rfl⟩
theorem zw_443 : (.code zy_M_keep zb_M_keep 4 (some .boolean) : Cond) ∈ zq_W := List.mem_filter.mpr ⟨List.mem_append_right _ (List.mem_append_right _ (List.mem_append_right _ (List.mem_append_right _ (List.mem_append_right _ (List.mem_of_getElem? (i := 93) rfl))))), rfl⟩
theorem zw_444 : (.fieldLink "PlainStepsModel" 80 "PlainStepsModel" "on" "[Z" : Cond) ∈ zq_W := List.mem_filter.mpr ⟨List.mem_append_right _ (List.mem_append_right _ (List.mem_append_right _ (List.mem_append_right _ (List.mem_append_left _ (List.mem_of_getElem? (i := 128) rfl))))), rfl⟩
theorem zw_445 : (.fieldLink "PlainStepsModel" 83 "PlainStepsModel" "rank" "[I" : Cond) ∈ zq_W := List.mem_filter.mpr ⟨List.mem_append_right _ (List.mem_append_right _ (List.mem_append_right _ (List.mem_append_right _ (List.mem_append_left _ (List.mem_of_getElem? (i := 129) rfl))))), rfl⟩
theorem zw_446 : (.fieldLink "PlainStepsModel" 179 "PlainStepsModel" "word" "I" : Cond) ∈ zq_W := List.mem_filter.mpr ⟨List.mem_append_right _ (List.mem_append_right _ (List.mem_append_right _ (List.mem_append_right _ (List.mem_append_left _ (List.mem_of_getElem? (i := 136) rfl))))), rfl⟩
theorem zw_447 : (.methodLink "PlainStepsModel" 176 zy_M_isParallel : Cond) ∈ zq_W := List.mem_filter.mpr ⟨List.mem_append_right _ (List.mem_append_right _ (List.mem_append_right _ (List.mem_append_right _ (List.mem_append_right _ (List.mem_of_getElem? (i := 115) rfl))))), rfl⟩
theorem zw_448 : (.instanceMethod zy_M_isParallel : Cond) ∈ zq_W := List.mem_filter.mpr ⟨List.mem_append_right _ (List.mem_append_right _ (List.mem_append_right _ (List.mem_append_right _ (List.mem_append_right _ (List.mem_of_getElem? (i := 117) rfl))))), rfl⟩
theorem zw_449 : (.selects "PlainStepsModel" zy_M_isParallel zy_M_isParallel : Cond) ∈ zq_W := List.mem_filter.mpr ⟨List.mem_append_left _ (List.mem_of_getElem? (i := 26) rfl), rfl⟩
theorem zw_450 : (.code zy_M_isParallel zb_M_isParallel 2 (some .boolean) : Cond) ∈ zq_W := List.mem_filter.mpr ⟨List.mem_append_right _ (List.mem_append_right _ (List.mem_append_right _ (List.mem_append_right _ (List.mem_append_right _ (List.mem_of_getElem? (i := 118) rfl))))), rfl⟩
theorem zw_451 : (.fieldLink "PlainStepsModel" 21 "PlainStepsModel" "before" "[J" : Cond) ∈ zq_W := List.mem_filter.mpr ⟨List.mem_append_right _ (List.mem_append_right _ (List.mem_append_right _ (List.mem_append_right _ (List.mem_append_left _ (List.mem_of_getElem? (i := 105) rfl))))), rfl⟩
theorem zw_452 : (.constantLong "PlainStepsModel" 182 (-1) : Cond) ∈ zq_W := List.mem_filter.mpr ⟨List.mem_append_right _ (List.mem_append_right _ (List.mem_append_right _ (List.mem_append_right _ (List.mem_append_right _ (List.mem_of_getElem? (i := 119) rfl))))), rfl⟩
theorem zw_453 : (.fieldLink "PlainStepsModel" 31 "PlainStepsModel" "markedBefore" "[Z" : Cond) ∈ zq_W := List.mem_filter.mpr ⟨List.mem_append_right _ (List.mem_append_right _ (List.mem_append_right _ (List.mem_append_right _ (List.mem_append_left _ (List.mem_of_getElem? (i := 108) rfl))))), rfl⟩
theorem zw_454 : (.fieldLink "PlainStepsModel" 184 "PlainStepsModel" "wrote" "Z" : Cond) ∈ zq_W := List.mem_filter.mpr ⟨List.mem_append_right _ (List.mem_append_right _ (List.mem_append_right _ (List.mem_append_right _ (List.mem_append_left _ (List.mem_of_getElem? (i := 141) rfl))))), rfl⟩
theorem zw_455 : (.fieldLink "PlainStepsModel" 92 "PlainStepsModel" "writeTo" "[I" : Cond) ∈ zq_W := List.mem_filter.mpr ⟨List.mem_append_right _ (List.mem_append_right _ (List.mem_append_right _ (List.mem_append_right _ (List.mem_append_left _ (List.mem_of_getElem? (i := 145) rfl))))), rfl⟩
theorem zw_456 : (.fieldLink "PlainStepsModel" 187 "PlainStepsModel" "writes" "I" : Cond) ∈ zq_W := List.mem_filter.mpr ⟨List.mem_append_right _ (List.mem_append_right _ (List.mem_append_right _ (List.mem_append_right _ (List.mem_append_left _ (List.mem_of_getElem? (i := 144) rfl))))), rfl⟩
theorem zw_457 : (.fieldLink "PlainStepsModel" 95 "PlainStepsModel" "writeAt" "[I" : Cond) ∈ zq_W := List.mem_filter.mpr ⟨List.mem_append_right _ (List.mem_append_right _ (List.mem_append_right _ (List.mem_append_right _ (List.mem_append_left _ (List.mem_of_getElem? (i := 146) rfl))))), rfl⟩
theorem zw_458 : (.fieldLink "PlainStepsModel" 98 "PlainStepsModel" "writeValue" "[J" : Cond) ∈ zq_W := List.mem_filter.mpr ⟨List.mem_append_right _ (List.mem_append_right _ (List.mem_append_right _ (List.mem_append_right _ (List.mem_append_left _ (List.mem_of_getElem? (i := 147) rfl))))), rfl⟩
theorem zw_459 : (.fieldLink "PlainStepsModel" 101 "PlainStepsModel" "writeMark" "[Z" : Cond) ∈ zq_W := List.mem_filter.mpr ⟨List.mem_append_right _ (List.mem_append_right _ (List.mem_append_right _ (List.mem_append_right _ (List.mem_append_left _ (List.mem_of_getElem? (i := 148) rfl))))), rfl⟩
theorem zw_460 : (.methodLink "PlainStepsModel" 190 zy_M_cut : Cond) ∈ zq_W := List.mem_filter.mpr ⟨List.mem_append_right _ (List.mem_append_right _ (List.mem_append_right _ (List.mem_append_right _ (List.mem_append_right _ (List.mem_of_getElem? (i := 167) rfl))))), rfl⟩
theorem zw_461 : (.instanceMethod zy_M_cut : Cond) ∈ zq_W := List.mem_filter.mpr ⟨List.mem_append_right _ (List.mem_append_right _ (List.mem_append_right _ (List.mem_append_right _ (List.mem_append_right _ (List.mem_of_getElem? (i := 169) rfl))))), rfl⟩
theorem zw_462 : (.selects "PlainStepsModel" zy_M_cut zy_M_cut : Cond) ∈ zq_W := List.mem_filter.mpr ⟨List.mem_append_left _ (List.mem_of_getElem? (i := 36) rfl), rfl⟩
theorem zw_463 : (.code zy_M_cut zb_M_cut 4 (some .long) : Cond) ∈ zq_W := List.mem_filter.mpr ⟨List.mem_append_right _ (List.mem_append_right _ (List.mem_append_right _ (List.mem_append_right _ (List.mem_append_right _ (List.mem_of_getElem? (i := 170) rfl))))), rfl⟩
theorem zw_464 : (.methodLink "PlainStepsModel" 198 zy_M_setRegister : Cond) ∈ zq_W := List.mem_filter.mpr ⟨List.mem_append_right _ (List.mem_append_right _ (List.mem_append_right _ (List.mem_append_right _ (List.mem_append_right _ (List.mem_of_getElem? (i := 171) rfl))))), rfl⟩
theorem zw_465 : (.instanceMethod zy_M_setRegister : Cond) ∈ zq_W := List.mem_filter.mpr ⟨List.mem_append_right _ (List.mem_append_right _ (List.mem_append_right _ (List.mem_append_right _ (List.mem_append_right _ (List.mem_of_getElem? (i := 173) rfl))))), rfl⟩
theorem zw_466 : (.selects "PlainStepsModel" zy_M_setRegister zy_M_setRegister : Cond) ∈ zq_W := List.mem_filter.mpr ⟨List.mem_append_left _ (List.mem_of_getElem? (i := 37) rfl), rfl⟩
theorem zw_467 : (.code zy_M_setRegister zb_M_setRegister 5 none : Cond) ∈ zq_W := List.mem_filter.mpr ⟨List.mem_append_right _ (List.mem_append_right _ (List.mem_append_right _ (List.mem_append_right _ (List.mem_append_right _ (List.mem_of_getElem? (i := 174) rfl))))), rfl⟩
theorem zw_468 : (.methodLink "PlainStepsModel" 194 zy_M_later : Cond) ∈ zq_W := List.mem_filter.mpr ⟨List.mem_append_right _ (List.mem_append_right _ (List.mem_append_right _ (List.mem_append_right _ (List.mem_append_right _ (List.mem_of_getElem? (i := 128) rfl))))), rfl⟩
theorem zw_469 : (.instanceMethod zy_M_later : Cond) ∈ zq_W := List.mem_filter.mpr ⟨List.mem_append_right _ (List.mem_append_right _ (List.mem_append_right _ (List.mem_append_right _ (List.mem_append_right _ (List.mem_of_getElem? (i := 130) rfl))))), rfl⟩
theorem zw_470 : (.selects "PlainStepsModel" zy_M_later zy_M_later : Cond) ∈ zq_W := List.mem_filter.mpr ⟨List.mem_append_left _ (List.mem_of_getElem? (i := 29) rfl), rfl⟩
theorem zw_471 : (.code zy_M_later zb_M_later 6 none : Cond) ∈ zq_W := List.mem_filter.mpr ⟨List.mem_append_right _ (List.mem_append_right _ (List.mem_append_right _ (List.mem_append_right _ (List.mem_append_right _ (List.mem_of_getElem? (i := 131) rfl))))), rfl⟩
theorem zw_472 : (.methodLink "PlainStepsModel" 202 zy_M_setMemory : Cond) ∈ zq_W := List.mem_filter.mpr ⟨List.mem_append_right _ (List.mem_append_right _ (List.mem_append_right _ (List.mem_append_right _ (List.mem_append_right _ (List.mem_of_getElem? (i := 132) rfl))))), rfl⟩
theorem zw_473 : (.instanceMethod zy_M_setMemory : Cond) ∈ zq_W := List.mem_filter.mpr ⟨List.mem_append_right _ (List.mem_append_right _ (List.mem_append_right _ (List.mem_append_right _ (List.mem_append_right _ (List.mem_of_getElem? (i := 134) rfl))))), rfl⟩
theorem zw_474 : (.selects "PlainStepsModel" zy_M_setMemory zy_M_setMemory : Cond) ∈ zq_W := List.mem_filter.mpr ⟨List.mem_append_left _ (List.mem_of_getElem? (i := 30) rfl), rfl⟩
theorem zw_475 : (.code zy_M_setMemory zb_M_setMemory 5 none : Cond) ∈ zq_W := List.mem_filter.mpr ⟨List.mem_append_right _ (List.mem_append_right _ (List.mem_append_right _ (List.mem_append_right _ (List.mem_append_right _ (List.mem_of_getElem? (i := 135) rfl))))), rfl⟩
theorem zw_476 : (.constantLong "PlainStepsModel" 206 (-9223372036854775808) : Cond) ∈ zq_W := List.mem_filter.mpr ⟨List.mem_append_right _ (List.mem_append_right _ (List.mem_append_right _ (List.mem_append_right _ (List.mem_append_right _ (List.mem_of_getElem? (i := 161) rfl))))), rfl⟩
theorem zw_477 : (.methodLink "PlainStepsModel" 208 zy_M_isLess : Cond) ∈ zq_W := List.mem_filter.mpr ⟨List.mem_append_right _ (List.mem_append_right _ (List.mem_append_right _ (List.mem_append_right _ (List.mem_append_right _ (List.mem_of_getElem? (i := 158) rfl))))), rfl⟩
theorem zw_478 : (.static zy_M_isLess : Cond) ∈ zq_W := List.mem_filter.mpr ⟨List.mem_append_right _ (List.mem_append_right _ (List.mem_append_right _ (List.mem_append_right _ (List.mem_append_right _ (List.mem_of_getElem? (i := 159) rfl))))), rfl⟩
theorem zw_479 : (.code zy_M_isLess zb_M_isLess 4 (some .boolean) : Cond) ∈ zq_W := List.mem_filter.mpr ⟨List.mem_append_right _ (List.mem_append_right _ (List.mem_append_right _ (List.mem_append_right _ (List.mem_append_right _ (List.mem_of_getElem? (i := 160) rfl))))), rfl⟩
theorem zw_480 : (.methodLink "PlainStepsModel" 212 zy_M_quotient : Cond) ∈ zq_W := List.mem_filter.mpr ⟨List.mem_append_right _ (List.mem_append_right _ (List.mem_append_right _ (List.mem_append_right _ (List.mem_append_right _ (List.mem_of_getElem? (i := 155) rfl))))), rfl⟩
theorem zw_481 : (.static zy_M_quotient : Cond) ∈ zq_W := List.mem_filter.mpr ⟨List.mem_append_right _ (List.mem_append_right _ (List.mem_append_right _ (List.mem_append_right _ (List.mem_append_right _ (List.mem_of_getElem? (i := 156) rfl))))), rfl⟩
theorem zw_482 : (.code zy_M_quotient zb_M_quotient 8 (some .long) : Cond) ∈ zq_W := List.mem_filter.mpr ⟨List.mem_append_right _ (List.mem_append_right _ (List.mem_append_right _ (List.mem_append_right _ (List.mem_append_right _ (List.mem_of_getElem? (i := 157) rfl))))), rfl⟩
theorem zw_483 : (.constantLong "PlainStepsModel" 216 (63) : Cond) ∈ zq_W := List.mem_filter.mpr ⟨List.mem_append_right _ (List.mem_append_right _ (List.mem_append_right _ (List.mem_append_right _ (List.mem_append_right _ (List.mem_of_getElem? (i := 162) rfl))))), rfl⟩
theorem zw_484 : (.methodLink "PlainStepsModel" 218 zy_M_isMarked : Cond) ∈ zq_W := List.mem_filter.mpr ⟨List.mem_append_right _ (List.mem_append_right _ (List.mem_append_right _ (List.mem_append_right _ (List.mem_append_right _ (List.mem_of_getElem? (i := 148) rfl))))), rfl⟩
theorem zw_485 : (.instanceMethod zy_M_isMarked : Cond) ∈ zq_W := List.mem_filter.mpr ⟨List.mem_append_right _ (List.mem_append_right _ (List.mem_append_right _ (List.mem_append_right _ (List.mem_append_right _ (List.mem_of_getElem? (i := 150) rfl))))), rfl⟩
theorem zw_486 : (.selects "PlainStepsModel" zy_M_isMarked zy_M_isMarked : Cond) ∈ zq_W := List.mem_filter.mpr ⟨List.mem_append_left _ (List.mem_of_getElem? (i := 34) rfl), rfl⟩
theorem zw_487 : (.code zy_M_isMarked zb_M_isMarked 3 (some .boolean) : Cond) ∈ zq_W := List.mem_filter.mpr ⟨List.mem_append_right _ (List.mem_append_right _ (List.mem_append_right _ (List.mem_append_right _ (List.mem_append_right _ (List.mem_of_getElem? (i := 151) rfl))))), rfl⟩
theorem zw_488 : (.fieldLink "PlainStepsModel" 222 "PlainStepsModel" "fault" "I" : Cond) ∈ zq_W := List.mem_filter.mpr ⟨List.mem_append_right _ (List.mem_append_right _ (List.mem_append_right _ (List.mem_append_right _ (List.mem_append_left _ (List.mem_of_getElem? (i := 138) rfl))))), rfl⟩
theorem zw_489 : (.methodLink "PlainStepsModel" 232 zy_M_isThere : Cond) ∈ zq_W := List.mem_filter.mpr ⟨List.mem_append_right _ (List.mem_append_right _ (List.mem_append_right _ (List.mem_append_right _ (List.mem_append_right _ (List.mem_of_getElem? (i := 124) rfl))))), rfl⟩
theorem zw_490 : (.instanceMethod zy_M_isThere : Cond) ∈ zq_W := List.mem_filter.mpr ⟨List.mem_append_right _ (List.mem_append_right _ (List.mem_append_right _ (List.mem_append_right _ (List.mem_append_right _ (List.mem_of_getElem? (i := 126) rfl))))), rfl⟩
theorem zw_491 : (.selects "PlainStepsModel" zy_M_isThere zy_M_isThere : Cond) ∈ zq_W := List.mem_filter.mpr ⟨List.mem_append_left _ (List.mem_of_getElem? (i := 28) rfl), rfl⟩
theorem zw_492 : (.code zy_M_isThere zb_M_isThere 4 (some .boolean) : Cond) ∈ zq_W := List.mem_filter.mpr ⟨List.mem_append_right _ (List.mem_append_right _ (List.mem_append_right _ (List.mem_append_right _ (List.mem_append_right _ (List.mem_of_getElem? (i := 127) rfl))))), rfl⟩
theorem zw_493 : (.methodLink "PlainStepsModel" 229 zy_M_result : Cond) ∈ zq_W := List.mem_filter.mpr ⟨List.mem_append_right _ (List.mem_append_right _ (List.mem_append_right _ (List.mem_append_right _ (List.mem_append_right _ (List.mem_of_getElem? (i := 163) rfl))))), rfl⟩
theorem zw_494 : (.instanceMethod zy_M_result : Cond) ∈ zq_W := List.mem_filter.mpr ⟨List.mem_append_right _ (List.mem_append_right _ (List.mem_append_right _ (List.mem_append_right _ (List.mem_append_right _ (List.mem_of_getElem? (i := 165) rfl))))), rfl⟩
theorem zw_495 : (.selects "PlainStepsModel" zy_M_result zy_M_result : Cond) ∈ zq_W := List.mem_filter.mpr ⟨List.mem_append_left _ (List.mem_of_getElem? (i := 35) rfl), rfl⟩
theorem zw_496 : (.code zy_M_result zb_M_result 8 none : Cond) ∈ zq_W := List.mem_filter.mpr ⟨List.mem_append_right _ (List.mem_append_right _ (List.mem_append_right _ (List.mem_append_right _ (List.mem_append_right _ (List.mem_of_getElem? (i := 166) rfl))))), rfl⟩
theorem zw_497 : (.methodLink "PlainStepsModel" 225 zy_M_simple : Cond) ∈ zq_W := List.mem_filter.mpr ⟨List.mem_append_right _ (List.mem_append_right _ (List.mem_append_right _ (List.mem_append_right _ (List.mem_append_right _ (List.mem_of_getElem? (i := 152) rfl))))), rfl⟩
theorem zw_498 : (.static zy_M_simple : Cond) ∈ zq_W := List.mem_filter.mpr ⟨List.mem_append_right _ (List.mem_append_right _ (List.mem_append_right _ (List.mem_append_right _ (List.mem_append_right _ (List.mem_of_getElem? (i := 153) rfl))))), rfl⟩
theorem zw_499 : (.code zy_M_simple zb_M_simple 5 (some .long) : Cond) ∈ zq_W := List.mem_filter.mpr ⟨List.mem_append_right _ (List.mem_append_right _ (List.mem_append_right _ (List.mem_append_right _ (List.mem_append_right _ (List.mem_of_getElem? (i := 154) rfl))))), rfl⟩
theorem zw_500 : (.methodLink "PlainStepsModel" 236 zy_M_operand : Cond) ∈ zq_W := List.mem_filter.mpr ⟨List.mem_append_right _ (List.mem_append_right _ (List.mem_append_right _ (List.mem_append_right _ (List.mem_append_right _ (List.mem_of_getElem? (i := 111) rfl))))), rfl⟩
theorem zw_501 : (.instanceMethod zy_M_operand : Cond) ∈ zq_W := List.mem_filter.mpr ⟨List.mem_append_right _ (List.mem_append_right _ (List.mem_append_right _ (List.mem_append_right _ (List.mem_append_right _ (List.mem_of_getElem? (i := 113) rfl))))), rfl⟩
theorem zw_502 : (.selects "PlainStepsModel" zy_M_operand zy_M_operand : Cond) ∈ zq_W := List.mem_filter.mpr ⟨List.mem_append_left _ (List.mem_of_getElem? (i := 25) rfl), rfl⟩
theorem zw_503 : (.code zy_M_operand zb_M_operand 7 (some .long) : Cond) ∈ zq_W := List.mem_filter.mpr ⟨List.mem_append_right _ (List.mem_append_right _ (List.mem_append_right _ (List.mem_append_right _ (List.mem_append_right _ (List.mem_of_getElem? (i := 114) rfl))))), rfl⟩
theorem zw_504 : (.methodLink "PlainStepsModel" 240 zy_M_store : Cond) ∈ zq_W := List.mem_filter.mpr ⟨List.mem_append_right _ (List.mem_append_right _ (List.mem_append_right _ (List.mem_append_right _ (List.mem_append_right _ (List.mem_of_getElem? (i := 120) rfl))))), rfl⟩
theorem zw_505 : (.instanceMethod zy_M_store : Cond) ∈ zq_W := List.mem_filter.mpr ⟨List.mem_append_right _ (List.mem_append_right _ (List.mem_append_right _ (List.mem_append_right _ (List.mem_append_right _ (List.mem_of_getElem? (i := 122) rfl))))), rfl⟩
theorem zw_506 : (.selects "PlainStepsModel" zy_M_store zy_M_store : Cond) ∈ zq_W := List.mem_filter.mpr ⟨List.mem_append_left _ (List.mem_of_getElem? (i := 27) rfl), rfl⟩
theorem zw_507 : (.code zy_M_store zb_M_store 7 none : Cond) ∈ zq_W := List.mem_filter.mpr ⟨List.mem_append_right _ (List.mem_append_right _ (List.mem_append_right _ (List.mem_append_right _ (List.mem_append_right _ (List.mem_of_getElem? (i := 123) rfl))))), rfl⟩
theorem zw_508 : (.fieldLink "PlainStepsModel" 244 "PlainStepsModel" "ends" "Z" : Cond) ∈ zq_W := List.mem_filter.mpr ⟨List.mem_append_right _ (List.mem_append_right _ (List.mem_append_right _ (List.mem_append_right _ (List.mem_append_left _ (List.mem_of_getElem? (i := 139) rfl))))), rfl⟩
theorem zw_509 : (.methodLink "PlainStepsModel" 247 zy_M_markOnly : Cond) ∈ zq_W := List.mem_filter.mpr ⟨List.mem_append_right _ (List.mem_append_right _ (List.mem_append_right _ (List.mem_append_right _ (List.mem_append_right _ (List.mem_of_getElem? (i := 136) rfl))))), rfl⟩
theorem zw_510 : (.instanceMethod zy_M_markOnly : Cond) ∈ zq_W := List.mem_filter.mpr ⟨List.mem_append_right _ (List.mem_append_right _ (List.mem_append_right _ (List.mem_append_right _ (List.mem_append_right _ (List.mem_of_getElem? (i := 138) rfl))))), rfl⟩
theorem zw_511 : (.selects "PlainStepsModel" zy_M_markOnly zy_M_markOnly : Cond) ∈ zq_W := List.mem_filter.mpr ⟨List.mem_append_left _ (List.mem_of_getElem? (i := 31) rfl), rfl⟩
theorem zw_512 : (.code zy_M_markOnly zb_M_markOnly 3 none : Cond) ∈ zq_W := List.mem_filter.mpr ⟨List.mem_append_right _ (List.mem_append_right _ (List.mem_append_right _ (List.mem_append_right _ (List.mem_append_right _ (List.mem_of_getElem? (i := 139) rfl))))), rfl⟩
theorem zw_513 : (.fieldLink "PlainStepsModel" 251 "PlainStepsModel" "halts" "Z" : Cond) ∈ zq_W := List.mem_filter.mpr ⟨List.mem_append_right _ (List.mem_append_right _ (List.mem_append_right _ (List.mem_append_right _ (List.mem_append_left _ (List.mem_of_getElem? (i := 140) rfl))))), rfl⟩
theorem zw_514 : (.methodLink "PlainStepsModel" 254 zy_M_back : Cond) ∈ zq_W := List.mem_filter.mpr ⟨List.mem_append_right _ (List.mem_append_right _ (List.mem_append_right _ (List.mem_append_right _ (List.mem_append_right _ (List.mem_of_getElem? (i := 140) rfl))))), rfl⟩
theorem zw_515 : (.instanceMethod zy_M_back : Cond) ∈ zq_W := List.mem_filter.mpr ⟨List.mem_append_right _ (List.mem_append_right _ (List.mem_append_right _ (List.mem_append_right _ (List.mem_append_right _ (List.mem_of_getElem? (i := 142) rfl))))), rfl⟩
theorem zw_516 : (.selects "PlainStepsModel" zy_M_back zy_M_back : Cond) ∈ zq_W := List.mem_filter.mpr ⟨List.mem_append_left _ (List.mem_of_getElem? (i := 32) rfl), rfl⟩
theorem zw_517 : (.code zy_M_back zb_M_back 1 none : Cond) ∈ zq_W := List.mem_filter.mpr ⟨List.mem_append_right _ (List.mem_append_right _ (List.mem_append_right _ (List.mem_append_right _ (List.mem_append_right _ (List.mem_of_getElem? (i := 143) rfl))))), rfl⟩
theorem zw_518 : (.methodLink "PlainStepsModel" 257 zy_M_compute : Cond) ∈ zq_W := List.mem_filter.mpr ⟨List.mem_append_right _ (List.mem_append_right _ (List.mem_append_right _ (List.mem_append_right _ (List.mem_append_right _ (List.mem_of_getElem? (i := 144) rfl))))), rfl⟩
theorem zw_519 : (.instanceMethod zy_M_compute : Cond) ∈ zq_W := List.mem_filter.mpr ⟨List.mem_append_right _ (List.mem_append_right _ (List.mem_append_right _ (List.mem_append_right _ (List.mem_append_right _ (List.mem_of_getElem? (i := 146) rfl))))), rfl⟩
theorem zw_520 : (.selects "PlainStepsModel" zy_M_compute zy_M_compute : Cond) ∈ zq_W := List.mem_filter.mpr ⟨List.mem_append_left _ (List.mem_of_getElem? (i := 33) rfl), rfl⟩
theorem zw_521 : (.code zy_M_compute zb_M_compute 10 none : Cond) ∈ zq_W := List.mem_filter.mpr ⟨List.mem_append_right _ (List.mem_append_right _ (List.mem_append_right _ (List.mem_append_right _ (List.mem_append_right _ (List.mem_of_getElem? (i := 147) rfl))))), rfl⟩
theorem zw_522 : (.fieldLink "PlainStepsModel" 24 "PlainStepsModel" "saved" "[J" : Cond) ∈ zq_W := List.mem_filter.mpr ⟨List.mem_append_right _ (List.mem_append_right _ (List.mem_append_right _ (List.mem_append_right _ (List.mem_append_left _ (List.mem_of_getElem? (i := 106) rfl))))), rfl⟩
theorem zw_523 : (.fieldLink "PlainStepsModel" 34 "PlainStepsModel" "markedSaved" "[Z" : Cond) ∈ zq_W := List.mem_filter.mpr ⟨List.mem_append_right _ (List.mem_append_right _ (List.mem_append_right _ (List.mem_append_right _ (List.mem_append_left _ (List.mem_of_getElem? (i := 109) rfl))))), rfl⟩
theorem zw_524 : (.fieldLink "PlainStepsModel" 261 "PlainStepsModel" "levelSaved" "I" : Cond) ∈ zq_W := List.mem_filter.mpr ⟨List.mem_append_right _ (List.mem_append_right _ (List.mem_append_right _ (List.mem_append_right _ (List.mem_append_left _ (List.mem_of_getElem? (i := 132) rfl))))), rfl⟩
theorem zw_525 : (.fieldLink "PlainStepsModel" 264 "PlainStepsModel" "keptSaved" "I" : Cond) ∈ zq_W := List.mem_filter.mpr ⟨List.mem_append_right _ (List.mem_append_right _ (List.mem_append_right _ (List.mem_append_right _ (List.mem_append_left _ (List.mem_of_getElem? (i := 133) rfl))))), rfl⟩
theorem zw_526 : (.fieldLink "PlainStepsModel" 41 "PlainStepsModel" "memorySaved" "[B" : Cond) ∈ zq_W := List.mem_filter.mpr ⟨List.mem_append_right _ (List.mem_append_right _ (List.mem_append_right _ (List.mem_append_right _ (List.mem_append_left _ (List.mem_of_getElem? (i := 111) rfl))))), rfl⟩
theorem zw_527 : (.methodLink "PlainStepsModel" 267 zy_M_doTransfer : Cond) ∈ zq_W := List.mem_filter.mpr ⟨List.mem_append_right _ (List.mem_append_right _ (List.mem_append_right _ (List.mem_append_right _ (List.mem_append_right _ (List.mem_of_getElem? (i := 107) rfl))))), rfl⟩
theorem zw_528 : (.instanceMethod zy_M_doTransfer : Cond) ∈ zq_W := List.mem_filter.mpr ⟨List.mem_append_right _ (List.mem_append_right _ (List.mem_append_right _ (List.mem_append_right _ (List.mem_append_right _ (List.mem_of_getElem? (i := 109) rfl))))), rfl⟩
theorem zw_529 : (.selects "PlainStepsModel" zy_M_doTransfer zy_M_doTransfer : Cond) ∈ zq_W := List.mem_filter.mpr ⟨List.mem_append_left _ (List.mem_of_getElem? (i := 24) rfl), rfl⟩
theorem zw_530 : (.code zy_M_doTransfer zb_M_doTransfer 7 none : Cond) ∈ zq_W := List.mem_filter.mpr ⟨List.mem_append_right _ (List.mem_append_right _ (List.mem_append_right _ (List.mem_append_right _ (List.mem_append_right _ (List.mem_of_getElem? (i := 110) rfl))))), rfl⟩
theorem zw_531 : (.methodLink "PlainStepsModel" 270 zy_M_writeAll : Cond) ∈ zq_W := List.mem_filter.mpr ⟨List.mem_append_right _ (List.mem_append_right _ (List.mem_append_right _ (List.mem_append_right _ (List.mem_append_right _ (List.mem_of_getElem? (i := 175) rfl))))), rfl⟩
theorem zw_532 : (.instanceMethod zy_M_writeAll : Cond) ∈ zq_W := List.mem_filter.mpr ⟨List.mem_append_right _ (List.mem_append_right _ (List.mem_append_right _ (List.mem_append_right _ (List.mem_append_right _ (List.mem_of_getElem? (i := 177) rfl))))), rfl⟩
theorem zw_533 : (.selects "PlainStepsModel" zy_M_writeAll zy_M_writeAll : Cond) ∈ zq_W := List.mem_filter.mpr ⟨List.mem_append_left _ (List.mem_of_getElem? (i := 38) rfl), rfl⟩
theorem zw_534 : (.code zy_M_writeAll zb_M_writeAll 3 none : Cond) ∈ zq_W := List.mem_filter.mpr ⟨List.mem_append_right _ (List.mem_append_right _ (List.mem_append_right _ (List.mem_append_right _ (List.mem_append_right _ (List.mem_of_getElem? (i := 178) rfl))))), rfl⟩
theorem zw_535 : (.fieldLink "PlainStepsModel" 274 "PlainStepsModel" "waitsPlace" "J" : Cond) ∈ zq_W := List.mem_filter.mpr ⟨List.mem_append_right _ (List.mem_append_right _ (List.mem_append_right _ (List.mem_append_right _ (List.mem_append_left _ (List.mem_of_getElem? (i := 143) rfl))))), rfl⟩
theorem zw_536 : (.constant "PlainStepsModel" 273 (65535) : Cond) ∈ zq_W := List.mem_filter.mpr ⟨List.mem_append_right _ (List.mem_append_right _ (List.mem_append_right _ (List.mem_append_right _ (List.mem_append_right _ (List.mem_of_getElem? (i := 102) rfl))))), rfl⟩
theorem zw_537 : (.methodLink "PlainStepsModel" 278 zy_M_takeFault : Cond) ∈ zq_W := List.mem_filter.mpr ⟨List.mem_append_right _ (List.mem_append_right _ (List.mem_append_right _ (List.mem_append_right _ (List.mem_append_right _ (List.mem_of_getElem? (i := 86) rfl))))), rfl⟩
theorem zw_538 : (.instanceMethod zy_M_takeFault : Cond) ∈ zq_W := List.mem_filter.mpr ⟨List.mem_append_right _ (List.mem_append_right _ (List.mem_append_right _ (List.mem_append_right _ (List.mem_append_right _ (List.mem_of_getElem? (i := 88) rfl))))), rfl⟩
theorem zw_539 : (.selects "PlainStepsModel" zy_M_takeFault zy_M_takeFault : Cond) ∈ zq_W := List.mem_filter.mpr ⟨List.mem_append_left _ (List.mem_of_getElem? (i := 19) rfl), rfl⟩
theorem zw_540 : (.code zy_M_takeFault zb_M_takeFault 2 none : Cond) ∈ zq_W := List.mem_filter.mpr ⟨List.mem_append_right _ (List.mem_append_right _ (List.mem_append_right _ (List.mem_append_right _ (List.mem_append_right _ (List.mem_of_getElem? (i := 89) rfl))))), rfl⟩
theorem zw_541 : (.methodLink "PlainStepsModel" 282 zy_M_find : Cond) ∈ zq_W := List.mem_filter.mpr ⟨List.mem_append_right _ (List.mem_append_right _ (List.mem_append_right _ (List.mem_append_right _ (List.mem_append_right _ (List.mem_of_getElem? (i := 94) rfl))))), rfl⟩
theorem zw_542 : (.instanceMethod zy_M_find : Cond) ∈ zq_W := List.mem_filter.mpr ⟨List.mem_append_right _ (List.mem_append_right _ (List.mem_append_right _ (List.mem_append_right _ (List.mem_append_right _ (List.mem_of_getElem? (i := 96) rfl))))), rfl⟩
theorem zw_543 : (.selects "PlainStepsModel" zy_M_find zy_M_find : Cond) ∈ zq_W := List.mem_filter.mpr ⟨List.mem_append_left _ (List.mem_of_getElem? (i := 21) rfl), rfl⟩
theorem zw_544 : (.code zy_M_find zb_M_find 2 (some .int) : Cond) ∈ zq_W := List.mem_filter.mpr ⟨List.mem_append_right _ (List.mem_append_right _ (List.mem_append_right _ (List.mem_append_right _ (List.mem_append_right _ (List.mem_of_getElem? (i := 97) rfl))))), rfl⟩
theorem zw_545 : (.methodLink "PlainStepsModel" 286 zy_M_save : Cond) ∈ zq_W := List.mem_filter.mpr ⟨List.mem_append_right _ (List.mem_append_right _ (List.mem_append_right _ (List.mem_append_right _ (List.mem_append_right _ (List.mem_of_getElem? (i := 98) rfl))))), rfl⟩
theorem zw_546 : (.instanceMethod zy_M_save : Cond) ∈ zq_W := List.mem_filter.mpr ⟨List.mem_append_right _ (List.mem_append_right _ (List.mem_append_right _ (List.mem_append_right _ (List.mem_append_right _ (List.mem_of_getElem? (i := 100) rfl))))), rfl⟩
theorem zw_547 : (.selects "PlainStepsModel" zy_M_save zy_M_save : Cond) ∈ zq_W := List.mem_filter.mpr ⟨List.mem_append_left _ (List.mem_of_getElem? (i := 22) rfl), rfl⟩
theorem zw_548 : (.code zy_M_save zb_M_save 2 none : Cond) ∈ zq_W := List.mem_filter.mpr ⟨List.mem_append_right _ (List.mem_append_right _ (List.mem_append_right _ (List.mem_append_right _ (List.mem_append_right _ (List.mem_of_getElem? (i := 101) rfl))))), rfl⟩
theorem zw_549 : (.methodLink "PlainStepsModel" 289 zy_M_doAll : Cond) ∈ zq_W := List.mem_filter.mpr ⟨List.mem_append_right _ (List.mem_append_right _ (List.mem_append_right _ (List.mem_append_right _ (List.mem_append_right _ (List.mem_of_getElem? (i := 103) rfl))))), rfl⟩
theorem zw_550 : (.instanceMethod zy_M_doAll : Cond) ∈ zq_W := List.mem_filter.mpr ⟨List.mem_append_right _ (List.mem_append_right _ (List.mem_append_right _ (List.mem_append_right _ (List.mem_append_right _ (List.mem_of_getElem? (i := 105) rfl))))), rfl⟩
theorem zw_551 : (.selects "PlainStepsModel" zy_M_doAll zy_M_doAll : Cond) ∈ zq_W := List.mem_filter.mpr ⟨List.mem_append_left _ (List.mem_of_getElem? (i := 23) rfl), rfl⟩
theorem zw_552 : (.code zy_M_doAll zb_M_doAll 3 none : Cond) ∈ zq_W := List.mem_filter.mpr ⟨List.mem_append_right _ (List.mem_append_right _ (List.mem_append_right _ (List.mem_append_right _ (List.mem_append_right _ (List.mem_of_getElem? (i := 106) rfl))))), rfl⟩
theorem zw_553 : (.methodLink "PlainStepsModel" 295 zy_M_comePlace : Cond) ∈ zq_W := List.mem_filter.mpr ⟨List.mem_append_right _ (List.mem_append_right _ (List.mem_append_right _ (List.mem_append_right _ (List.mem_append_right _ (List.mem_of_getElem? (i := 183) rfl))))), rfl⟩
theorem zw_554 : (.instanceMethod zy_M_comePlace : Cond) ∈ zq_W := List.mem_filter.mpr ⟨List.mem_append_right _ (List.mem_append_right _ (List.mem_append_right _ (List.mem_append_right _ (List.mem_append_right _ (List.mem_of_getElem? (i := 185) rfl))))), rfl⟩
theorem zw_555 : (.selects "PlainStepsModel" zy_M_comePlace zy_M_comePlace : Cond) ∈ zq_W := List.mem_filter.mpr ⟨List.mem_append_left _ (List.mem_of_getElem? (i := 40) rfl), rfl⟩
theorem zw_556 : (.code zy_M_comePlace zb_M_comePlace 5 none : Cond) ∈ zq_W := List.mem_filter.mpr ⟨List.mem_append_right _ (List.mem_append_right _ (List.mem_append_right _ (List.mem_append_right _ (List.mem_append_right _ (List.mem_of_getElem? (i := 186) rfl))))), rfl⟩
theorem zw_557 : (.methodLink "PlainStepsModel" 292 zy_M_restore : Cond) ∈ zq_W := List.mem_filter.mpr ⟨List.mem_append_right _ (List.mem_append_right _ (List.mem_append_right _ (List.mem_append_right _ (List.mem_append_right _ (List.mem_of_getElem? (i := 179) rfl))))), rfl⟩
theorem zw_558 : (.instanceMethod zy_M_restore : Cond) ∈ zq_W := List.mem_filter.mpr ⟨List.mem_append_right _ (List.mem_append_right _ (List.mem_append_right _ (List.mem_append_right _ (List.mem_append_right _ (List.mem_of_getElem? (i := 181) rfl))))), rfl⟩
theorem zw_559 : (.selects "PlainStepsModel" zy_M_restore zy_M_restore : Cond) ∈ zq_W := List.mem_filter.mpr ⟨List.mem_append_left _ (List.mem_of_getElem? (i := 39) rfl), rfl⟩
theorem zw_560 : (.code zy_M_restore zb_M_restore 2 none : Cond) ∈ zq_W := List.mem_filter.mpr ⟨List.mem_append_right _ (List.mem_append_right _ (List.mem_append_right _ (List.mem_append_right _ (List.mem_append_right _ (List.mem_of_getElem? (i := 182) rfl))))), rfl⟩
theorem zw_561 : (.methodLink "PlainStepsModel" 298 zy_M_waitingLine : Cond) ∈ zq_W := List.mem_filter.mpr ⟨List.mem_append_right _ (List.mem_append_right _ (List.mem_append_right _ (List.mem_append_right _ (List.mem_append_right _ (List.mem_of_getElem? (i := 78) rfl))))), rfl⟩
theorem zw_562 : (.instanceMethod zy_M_waitingLine : Cond) ∈ zq_W := List.mem_filter.mpr ⟨List.mem_append_right _ (List.mem_append_right _ (List.mem_append_right _ (List.mem_append_right _ (List.mem_append_right _ (List.mem_of_getElem? (i := 80) rfl))))), rfl⟩
theorem zw_563 : (.selects "PlainStepsModel" zy_M_waitingLine zy_M_waitingLine : Cond) ∈ zq_W := List.mem_filter.mpr ⟨List.mem_append_left _ (List.mem_of_getElem? (i := 17) rfl), rfl⟩
theorem zw_564 : (.code zy_M_waitingLine zb_M_waitingLine 3 (some .int) : Cond) ∈ zq_W := List.mem_filter.mpr ⟨List.mem_append_right _ (List.mem_append_right _ (List.mem_append_right _ (List.mem_append_right _ (List.mem_append_right _ (List.mem_of_getElem? (i := 81) rfl))))), rfl⟩
theorem zw_565 : (.methodLink "PlainStepsModel" 301 zy_M_doInstruction : Cond) ∈ zq_W := List.mem_filter.mpr ⟨List.mem_append_right _ (List.mem_append_right _ (List.mem_append_right _ (List.mem_append_right _ (List.mem_append_right _ (List.mem_of_getElem? (i := 82) rfl))))), rfl⟩
theorem zw_566 : (.instanceMethod zy_M_doInstruction : Cond) ∈ zq_W := List.mem_filter.mpr ⟨List.mem_append_right _ (List.mem_append_right _ (List.mem_append_right _ (List.mem_append_right _ (List.mem_append_right _ (List.mem_of_getElem? (i := 84) rfl))))), rfl⟩
theorem zw_567 : (.selects "PlainStepsModel" zy_M_doInstruction zy_M_doInstruction : Cond) ∈ zq_W := List.mem_filter.mpr ⟨List.mem_append_left _ (List.mem_of_getElem? (i := 18) rfl), rfl⟩
theorem zw_568 : (.code zy_M_doInstruction zb_M_doInstruction 3 none : Cond) ∈ zq_W := List.mem_filter.mpr ⟨List.mem_append_right _ (List.mem_append_right _ (List.mem_append_right _ (List.mem_append_right _ (List.mem_append_right _ (List.mem_of_getElem? (i := 85) rfl))))), rfl⟩
theorem zw_569 : (.constantLong "PlainStepsModel" 304 (5000) : Cond) ∈ zq_W := List.mem_filter.mpr ⟨List.mem_append_right _ (List.mem_append_right _ (List.mem_append_right _ (List.mem_append_right _ (List.mem_append_right _ (List.mem_of_getElem? (i := 73) rfl))))), rfl⟩
theorem zw_570 : (.methodLink "PlainStepsModel" 306 zy_M_stepOnce : Cond) ∈ zq_W := List.mem_filter.mpr ⟨List.mem_append_right _ (List.mem_append_right _ (List.mem_append_right _ (List.mem_append_right _ (List.mem_append_right _ (List.mem_of_getElem? (i := 74) rfl))))), rfl⟩
theorem zw_571 : (.instanceMethod zy_M_stepOnce : Cond) ∈ zq_W := List.mem_filter.mpr ⟨List.mem_append_right _ (List.mem_append_right _ (List.mem_append_right _ (List.mem_append_right _ (List.mem_append_right _ (List.mem_of_getElem? (i := 76) rfl))))), rfl⟩
theorem zw_572 : (.selects "PlainStepsModel" zy_M_stepOnce zy_M_stepOnce : Cond) ∈ zq_W := List.mem_filter.mpr ⟨List.mem_append_left _ (List.mem_of_getElem? (i := 16) rfl), rfl⟩
theorem zw_573 : (.code zy_M_stepOnce zb_M_stepOnce 2 none : Cond) ∈ zq_W := List.mem_filter.mpr ⟨List.mem_append_right _ (List.mem_append_right _ (List.mem_append_right _ (List.mem_append_right _ (List.mem_append_right _ (List.mem_of_getElem? (i := 77) rfl))))), rfl⟩
theorem zw_574 : (.methodLink "PlainStepsModel" 309 zy_M_isRegister : Cond) ∈ zq_W := List.mem_filter.mpr ⟨List.mem_append_right _ (List.mem_append_right _ (List.mem_append_right _ (List.mem_append_right _ (List.mem_append_right _ (List.mem_of_getElem? (i := 191) rfl))))), rfl⟩
theorem zw_575 : (.instanceMethod zy_M_isRegister : Cond) ∈ zq_W := List.mem_filter.mpr ⟨List.mem_append_right _ (List.mem_append_right _ (List.mem_append_right _ (List.mem_append_right _ (List.mem_append_right _ (List.mem_of_getElem? (i := 193) rfl))))), rfl⟩
theorem zw_576 : (.selects "PlainStepsModel" zy_M_isRegister zy_M_isRegister : Cond) ∈ zq_W := List.mem_filter.mpr ⟨List.mem_append_left _ (List.mem_of_getElem? (i := 41) rfl), rfl⟩
theorem zw_577 : (.code zy_M_isRegister zb_M_isRegister 2 (some .boolean) : Cond) ∈ zq_W := List.mem_filter.mpr ⟨List.mem_append_right _ (List.mem_append_right _ (List.mem_append_right _ (List.mem_append_right _ (List.mem_append_right _ (List.mem_of_getElem? (i := 194) rfl))))), rfl⟩
theorem zw_578 : (.constantLong "PlainStepsModel" 312 (14) : Cond) ∈ zq_W := List.mem_filter.mpr ⟨List.mem_append_right _ (List.mem_append_right _ (List.mem_append_right _ (List.mem_append_right _ (List.mem_append_right _ (List.mem_of_getElem? (i := 211) rfl))))), rfl⟩
theorem zw_579 : (.constantLong "PlainStepsModel" 314 (8) : Cond) ∈ zq_W := List.mem_filter.mpr ⟨List.mem_append_right _ (List.mem_append_right _ (List.mem_append_right _ (List.mem_append_right _ (List.mem_append_right _ (List.mem_of_getElem? (i := 224) rfl))))), rfl⟩
theorem zw_580 : (.methodLink "PlainSteps$Registers" 3 objectInit : Cond) ∈ zq_W := List.mem_filter.mpr ⟨List.mem_append_right _ (List.mem_append_left _ (List.mem_of_getElem? (i := 32) rfl)), rfl⟩
theorem zw_581 : (.instanceMethod objectInit : Cond) ∈ zq_W := List.mem_filter.mpr ⟨List.mem_append_right _ (List.mem_append_left _ (List.mem_of_getElem? (i := 25) rfl)), rfl⟩
theorem zw_582 : (.code objectInit ⟨#[0xb1]⟩ 1 none : Cond) ∈ zq_W := List.mem_filter.mpr ⟨List.mem_append_right _ (List.mem_append_left _ (List.mem_of_getElem? (i := 26) rfl)), rfl⟩
theorem zw_583 : (.arrayClass .long : Cond) ∈ zq_W := List.mem_filter.mpr ⟨List.mem_append_right _ (List.mem_append_left _ (List.mem_of_getElem? (i := 48) rfl)), rfl⟩
theorem zw_584 : (.arrayClass .boolean : Cond) ∈ zq_W := List.mem_filter.mpr ⟨List.mem_append_right _ (List.mem_append_left _ (List.mem_of_getElem? (i := 49) rfl)), rfl⟩
theorem zw_585 : (.constantLong "PlainSteps$Registers" 22 (65535) : Cond) ∈ zq_W := List.mem_filter.mpr ⟨List.mem_append_right _ (List.mem_append_left _ (List.mem_of_getElem? (i := 33) rfl)), rfl⟩
theorem zw_586 : (.methodLink "PlainSteps$Bytes" 3 objectInit : Cond) ∈ zq_W := List.mem_filter.mpr ⟨List.mem_append_right _ (List.mem_append_left _ (List.mem_of_getElem? (i := 55) rfl)), rfl⟩
theorem zw_587 : (.arrayClass .byte : Cond) ∈ zq_W := List.mem_filter.mpr ⟨List.mem_append_right _ (List.mem_append_left _ (List.mem_of_getElem? (i := 60) rfl)), rfl⟩
theorem zw_588 : (.methodLink "PlainSteps$Operands" 3 objectInit : Cond) ∈ zq_W := List.mem_filter.mpr ⟨List.mem_append_right _ (List.mem_append_left _ (List.mem_of_getElem? (i := 66) rfl)), rfl⟩
theorem zw_589 : (.arrayClass .int : Cond) ∈ zq_W := List.mem_filter.mpr ⟨List.mem_append_right _ (List.mem_append_left _ (List.mem_of_getElem? (i := 91) rfl)), rfl⟩
theorem zw_590 : (.methodLink "PlainSteps$Program" 3 objectInit : Cond) ∈ zq_W := List.mem_filter.mpr ⟨List.mem_append_right _ (List.mem_append_left _ (List.mem_of_getElem? (i := 97) rfl)), rfl⟩
theorem zw_591 : (.methodLink "PlainSteps$Kept" 3 objectInit : Cond) ∈ zq_W := List.mem_filter.mpr ⟨List.mem_append_right _ (List.mem_append_left _ (List.mem_of_getElem? (i := 145) rfl)), rfl⟩
theorem zw_592 : (.methodLink "PlainSteps$Lines" 3 objectInit : Cond) ∈ zq_W := List.mem_filter.mpr ⟨List.mem_append_right _ (List.mem_append_left _ (List.mem_of_getElem? (i := 169) rfl)), rfl⟩
theorem zw_593 : (.methodLink "PlainSteps$Writes" 3 objectInit : Cond) ∈ zq_W := List.mem_filter.mpr ⟨List.mem_append_right _ (List.mem_append_left _ (List.mem_of_getElem? (i := 188) rfl)), rfl⟩
theorem zw_594 : (.methodLink "PlainSteps$Work" 3 objectInit : Cond) ∈ zq_W := List.mem_filter.mpr ⟨List.mem_append_right _ (List.mem_append_left _ (List.mem_of_getElem? (i := 182) rfl)), rfl⟩
theorem zw_595 : (.classLink "PlainSteps$Work" 35 "PlainSteps$Writes" : Cond) ∈ zq_W := List.mem_filter.mpr ⟨List.mem_append_right _ (List.mem_append_left _ (List.mem_of_getElem? (i := 183) rfl)), rfl⟩
theorem zw_596 : (.instantiable "PlainSteps$Writes" 6 : Cond) ∈ zq_W := List.mem_filter.mpr ⟨List.mem_append_right _ (List.mem_append_left _ (List.mem_of_getElem? (i := 184) rfl)), rfl⟩
theorem zw_597 : (.code zy_Writes_init zb_Writes_init 3 none : Cond) ∈ zq_W := List.mem_filter.mpr ⟨List.mem_append_right _ (List.mem_append_left _ (List.mem_of_getElem? (i := 187) rfl)), rfl⟩
theorem zw_598 : (.methodLink "PlainSteps$Work" 37 zy_Writes_init : Cond) ∈ zq_W := List.mem_filter.mpr ⟨List.mem_append_right _ (List.mem_append_left _ (List.mem_of_getElem? (i := 185) rfl)), rfl⟩
theorem zw_599 : (.instanceMethod zy_Writes_init : Cond) ∈ zq_W := List.mem_filter.mpr ⟨List.mem_append_right _ (List.mem_append_left _ (List.mem_of_getElem? (i := 186) rfl)), rfl⟩
theorem zw_600 : (.methodLink "PlainSteps$Machine" 3 objectInit : Cond) ∈ zq_W := List.mem_filter.mpr ⟨List.mem_append_right _ (List.mem_append_right _ (List.mem_append_left _ (List.mem_of_getElem? (i := 18) rfl))), rfl⟩
theorem zw_601 : (.methodLink "PlainSteps" 1 objectInit : Cond) ∈ zq_W := List.mem_filter.mpr ⟨List.mem_append_right _ (List.mem_append_left _ (List.mem_of_getElem? (i := 24) rfl)), rfl⟩
theorem zw_602 : (.classLink "PlainSteps" 7 "PlainSteps$Registers" : Cond) ∈ zq_W := List.mem_filter.mpr ⟨List.mem_append_right _ (List.mem_append_left _ (List.mem_of_getElem? (i := 27) rfl)), rfl⟩
theorem zw_603 : (.instantiable "PlainSteps$Registers" 4 : Cond) ∈ zq_W := List.mem_filter.mpr ⟨List.mem_append_right _ (List.mem_append_left _ (List.mem_of_getElem? (i := 28) rfl)), rfl⟩
theorem zw_604 : (.code zy_Registers_init zb_Registers_init 1 none : Cond) ∈ zq_W := List.mem_filter.mpr ⟨List.mem_append_right _ (List.mem_append_left _ (List.mem_of_getElem? (i := 31) rfl)), rfl⟩
theorem zw_605 : (.methodLink "PlainSteps" 9 zy_Registers_init : Cond) ∈ zq_W := List.mem_filter.mpr ⟨List.mem_append_right _ (List.mem_append_left _ (List.mem_of_getElem? (i := 29) rfl)), rfl⟩
theorem zw_606 : (.instanceMethod zy_Registers_init : Cond) ∈ zq_W := List.mem_filter.mpr ⟨List.mem_append_right _ (List.mem_append_left _ (List.mem_of_getElem? (i := 30) rfl)), rfl⟩
theorem zw_607 : (.fieldLink "PlainSteps" 10 "PlainSteps" "registers" "LPlainSteps$Registers;" : Cond) ∈ zq_W := List.mem_filter.mpr ⟨List.mem_append_right _ (List.mem_append_right _ (List.mem_append_left _ (List.mem_of_getElem? (i := 56) rfl))), rfl⟩
theorem zw_608 : (.classLink "PlainSteps" 16 "PlainSteps$Bytes" : Cond) ∈ zq_W := List.mem_filter.mpr ⟨List.mem_append_right _ (List.mem_append_left _ (List.mem_of_getElem? (i := 50) rfl)), rfl⟩
theorem zw_609 : (.instantiable "PlainSteps$Bytes" 1 : Cond) ∈ zq_W := List.mem_filter.mpr ⟨List.mem_append_right _ (List.mem_append_left _ (List.mem_of_getElem? (i := 51) rfl)), rfl⟩
theorem zw_610 : (.code zy_Bytes_init zb_Bytes_init 1 none : Cond) ∈ zq_W := List.mem_filter.mpr ⟨List.mem_append_right _ (List.mem_append_left _ (List.mem_of_getElem? (i := 54) rfl)), rfl⟩
theorem zw_611 : (.instanceMethod zy_Bytes_init : Cond) ∈ zq_W := List.mem_filter.mpr ⟨List.mem_append_right _ (List.mem_append_left _ (List.mem_of_getElem? (i := 53) rfl)), rfl⟩
theorem zw_612 : (.fieldLink "PlainSteps" 19 "PlainSteps" "bytes" "LPlainSteps$Bytes;" : Cond) ∈ zq_W := List.mem_filter.mpr ⟨List.mem_append_right _ (List.mem_append_right _ (List.mem_append_left _ (List.mem_of_getElem? (i := 57) rfl))), rfl⟩
theorem zw_613 : (.classLink "PlainSteps" 23 "PlainSteps$Operands" : Cond) ∈ zq_W := List.mem_filter.mpr ⟨List.mem_append_right _ (List.mem_append_left _ (List.mem_of_getElem? (i := 61) rfl)), rfl⟩
theorem zw_614 : (.instantiable "PlainSteps$Operands" 7 : Cond) ∈ zq_W := List.mem_filter.mpr ⟨List.mem_append_right _ (List.mem_append_left _ (List.mem_of_getElem? (i := 62) rfl)), rfl⟩
theorem zw_615 : (.code zy_Operands_init zb_Operands_init 2 none : Cond) ∈ zq_W := List.mem_filter.mpr ⟨List.mem_append_right _ (List.mem_append_left _ (List.mem_of_getElem? (i := 65) rfl)), rfl⟩
theorem zw_616 : (.methodLink "PlainSteps" 25 zy_Operands_init : Cond) ∈ zq_W := List.mem_filter.mpr ⟨List.mem_append_right _ (List.mem_append_left _ (List.mem_of_getElem? (i := 63) rfl)), rfl⟩
theorem zw_617 : (.instanceMethod zy_Operands_init : Cond) ∈ zq_W := List.mem_filter.mpr ⟨List.mem_append_right _ (List.mem_append_left _ (List.mem_of_getElem? (i := 64) rfl)), rfl⟩
theorem zw_618 : (.fieldLink "PlainSteps" 28 "PlainSteps" "operands" "LPlainSteps$Operands;" : Cond) ∈ zq_W := List.mem_filter.mpr ⟨List.mem_append_right _ (List.mem_append_right _ (List.mem_append_left _ (List.mem_of_getElem? (i := 58) rfl))), rfl⟩
theorem zw_619 : (.classLink "PlainSteps" 32 "PlainSteps$Program" : Cond) ∈ zq_W := List.mem_filter.mpr ⟨List.mem_append_right _ (List.mem_append_left _ (List.mem_of_getElem? (i := 92) rfl)), rfl⟩
theorem zw_620 : (.instantiable "PlainSteps$Program" 11 : Cond) ∈ zq_W := List.mem_filter.mpr ⟨List.mem_append_right _ (List.mem_append_left _ (List.mem_of_getElem? (i := 93) rfl)), rfl⟩
theorem zw_621 : (.code zy_Program_init zb_Program_init 1 none : Cond) ∈ zq_W := List.mem_filter.mpr ⟨List.mem_append_right _ (List.mem_append_left _ (List.mem_of_getElem? (i := 96) rfl)), rfl⟩
theorem zw_622 : (.instanceMethod zy_Program_init : Cond) ∈ zq_W := List.mem_filter.mpr ⟨List.mem_append_right _ (List.mem_append_left _ (List.mem_of_getElem? (i := 95) rfl)), rfl⟩
theorem zw_623 : (.fieldLink "PlainSteps" 35 "PlainSteps" "program" "LPlainSteps$Program;" : Cond) ∈ zq_W := List.mem_filter.mpr ⟨List.mem_append_right _ (List.mem_append_right _ (List.mem_append_left _ (List.mem_of_getElem? (i := 59) rfl))), rfl⟩
theorem zw_624 : (.classLink "PlainSteps" 39 "PlainSteps$Kept" : Cond) ∈ zq_W := List.mem_filter.mpr ⟨List.mem_append_right _ (List.mem_append_left _ (List.mem_of_getElem? (i := 140) rfl)), rfl⟩
theorem zw_625 : (.instantiable "PlainSteps$Kept" 4 : Cond) ∈ zq_W := List.mem_filter.mpr ⟨List.mem_append_right _ (List.mem_append_left _ (List.mem_of_getElem? (i := 141) rfl)), rfl⟩
theorem zw_626 : (.code zy_Kept_init zb_Kept_init 1 none : Cond) ∈ zq_W := List.mem_filter.mpr ⟨List.mem_append_right _ (List.mem_append_left _ (List.mem_of_getElem? (i := 144) rfl)), rfl⟩
theorem zw_627 : (.instanceMethod zy_Kept_init : Cond) ∈ zq_W := List.mem_filter.mpr ⟨List.mem_append_right _ (List.mem_append_left _ (List.mem_of_getElem? (i := 143) rfl)), rfl⟩
theorem zw_628 : (.fieldLink "PlainSteps" 42 "PlainSteps" "kept" "LPlainSteps$Kept;" : Cond) ∈ zq_W := List.mem_filter.mpr ⟨List.mem_append_right _ (List.mem_append_right _ (List.mem_append_left _ (List.mem_of_getElem? (i := 60) rfl))), rfl⟩
theorem zw_629 : (.classLink "PlainSteps" 46 "PlainSteps$Lines" : Cond) ∈ zq_W := List.mem_filter.mpr ⟨List.mem_append_right _ (List.mem_append_left _ (List.mem_of_getElem? (i := 164) rfl)), rfl⟩
theorem zw_630 : (.instantiable "PlainSteps$Lines" 2 : Cond) ∈ zq_W := List.mem_filter.mpr ⟨List.mem_append_right _ (List.mem_append_left _ (List.mem_of_getElem? (i := 165) rfl)), rfl⟩
theorem zw_631 : (.code zy_Lines_init zb_Lines_init 2 none : Cond) ∈ zq_W := List.mem_filter.mpr ⟨List.mem_append_right _ (List.mem_append_left _ (List.mem_of_getElem? (i := 168) rfl)), rfl⟩
theorem zw_632 : (.methodLink "PlainSteps" 48 zy_Lines_init : Cond) ∈ zq_W := List.mem_filter.mpr ⟨List.mem_append_right _ (List.mem_append_left _ (List.mem_of_getElem? (i := 166) rfl)), rfl⟩
theorem zw_633 : (.instanceMethod zy_Lines_init : Cond) ∈ zq_W := List.mem_filter.mpr ⟨List.mem_append_right _ (List.mem_append_left _ (List.mem_of_getElem? (i := 167) rfl)), rfl⟩
theorem zw_634 : (.fieldLink "PlainSteps" 49 "PlainSteps" "lines" "LPlainSteps$Lines;" : Cond) ∈ zq_W := List.mem_filter.mpr ⟨List.mem_append_right _ (List.mem_append_right _ (List.mem_append_left _ (List.mem_of_getElem? (i := 61) rfl))), rfl⟩
theorem zw_635 : (.fieldLink "PlainSteps" 53 "PlainSteps" "counts" "[I" : Cond) ∈ zq_W := List.mem_filter.mpr ⟨List.mem_append_right _ (List.mem_append_right _ (List.mem_append_left _ (List.mem_of_getElem? (i := 63) rfl))), rfl⟩
theorem zw_636 : (.classLink "PlainSteps" 57 "PlainSteps$Work" : Cond) ∈ zq_W := List.mem_filter.mpr ⟨List.mem_append_right _ (List.mem_append_left _ (List.mem_of_getElem? (i := 177) rfl)), rfl⟩
theorem zw_637 : (.instantiable "PlainSteps$Work" 14 : Cond) ∈ zq_W := List.mem_filter.mpr ⟨List.mem_append_right _ (List.mem_append_left _ (List.mem_of_getElem? (i := 178) rfl)), rfl⟩
theorem zw_638 : (.code zy_Work_init zb_Work_init 7 none : Cond) ∈ zq_W := List.mem_filter.mpr ⟨List.mem_append_right _ (List.mem_append_left _ (List.mem_of_getElem? (i := 181) rfl)), rfl⟩
theorem zw_639 : (.methodLink "PlainSteps" 59 zy_Work_init : Cond) ∈ zq_W := List.mem_filter.mpr ⟨List.mem_append_right _ (List.mem_append_left _ (List.mem_of_getElem? (i := 179) rfl)), rfl⟩
theorem zw_640 : (.instanceMethod zy_Work_init : Cond) ∈ zq_W := List.mem_filter.mpr ⟨List.mem_append_right _ (List.mem_append_left _ (List.mem_of_getElem? (i := 180) rfl)), rfl⟩
theorem zw_641 : (.classLink "PlainSteps" 62 "PlainSteps$Machine" : Cond) ∈ zq_W := List.mem_filter.mpr ⟨List.mem_append_right _ (List.mem_append_right _ (List.mem_append_left _ (List.mem_of_getElem? (i := 13) rfl))), rfl⟩
theorem zw_642 : (.instantiable "PlainSteps$Machine" 11 : Cond) ∈ zq_W := List.mem_filter.mpr ⟨List.mem_append_right _ (List.mem_append_right _ (List.mem_append_left _ (List.mem_of_getElem? (i := 14) rfl))), rfl⟩
theorem zw_643 : (.code zy_Machine_init zb_Machine_init 8 none : Cond) ∈ zq_W := List.mem_filter.mpr ⟨List.mem_append_right _ (List.mem_append_right _ (List.mem_append_left _ (List.mem_of_getElem? (i := 17) rfl))), rfl⟩
theorem zw_644 : (.methodLink "PlainSteps" 64 zy_Machine_init : Cond) ∈ zq_W := List.mem_filter.mpr ⟨List.mem_append_right _ (List.mem_append_right _ (List.mem_append_left _ (List.mem_of_getElem? (i := 15) rfl))), rfl⟩
theorem zw_645 : (.instanceMethod zy_Machine_init : Cond) ∈ zq_W := List.mem_filter.mpr ⟨List.mem_append_right _ (List.mem_append_right _ (List.mem_append_left _ (List.mem_of_getElem? (i := 16) rfl))), rfl⟩
theorem zw_646 : (.fieldLink "PlainSteps" 67 "PlainSteps" "machine" "LPlainSteps$Machine;" : Cond) ∈ zq_W := List.mem_filter.mpr ⟨List.mem_append_right _ (List.mem_append_right _ (List.mem_append_left _ (List.mem_of_getElem? (i := 62) rfl))), rfl⟩
theorem zw_647 : (.methodLink "PlainStepsModel" 1 objectInit : Cond) ∈ zq_W := List.mem_filter.mpr ⟨List.mem_append_right _ (List.mem_append_right _ (List.mem_append_right _ (List.mem_append_right _ (List.mem_append_left _ (List.mem_of_getElem? (i := 100) rfl))))), rfl⟩
theorem zi_Registers : ∀ w ∈ u_ws zR_Registers zF_Registers 4, w ∈ zq_W := by
  show ∀ w ∈ ([u_lay zR_Registers zF_Registers 0, u_lay zR_Registers zF_Registers 1, u_lay zR_Registers zF_Registers 2, u_lay zR_Registers zF_Registers 3] : List Cond), w ∈ zq_W
  exact List.forall_mem_cons.mpr ⟨zw_0, List.forall_mem_cons.mpr ⟨zw_1, List.forall_mem_cons.mpr ⟨zw_2, List.forall_mem_cons.mpr ⟨zw_3, fun _ h => absurd h List.not_mem_nil⟩⟩⟩⟩
theorem zi_Bytes : ∀ w ∈ u_ws zR_Bytes zF_Bytes 1, w ∈ zq_W := by
  show ∀ w ∈ ([u_lay zR_Bytes zF_Bytes 0] : List Cond), w ∈ zq_W
  exact List.forall_mem_cons.mpr ⟨zw_4, fun _ h => absurd h List.not_mem_nil⟩
theorem zi_Operands : ∀ w ∈ u_ws zR_Operands zF_Operands 7, w ∈ zq_W := by
  show ∀ w ∈ ([u_lay zR_Operands zF_Operands 0, u_lay zR_Operands zF_Operands 1, u_lay zR_Operands zF_Operands 2, u_lay zR_Operands zF_Operands 3, u_lay zR_Operands zF_Operands 4, u_lay zR_Operands zF_Operands 5, u_lay zR_Operands zF_Operands 6] : List Cond), w ∈ zq_W
  exact List.forall_mem_cons.mpr ⟨zw_5, List.forall_mem_cons.mpr ⟨zw_6, List.forall_mem_cons.mpr ⟨zw_7, List.forall_mem_cons.mpr ⟨zw_8, List.forall_mem_cons.mpr ⟨zw_9, List.forall_mem_cons.mpr ⟨zw_10, List.forall_mem_cons.mpr ⟨zw_11, fun _ h => absurd h List.not_mem_nil⟩⟩⟩⟩⟩⟩⟩
theorem zi_Program : ∀ w ∈ u_ws zR_Program zF_Program 11, w ∈ zq_W := by
  show ∀ w ∈ ([u_lay zR_Program zF_Program 0, u_lay zR_Program zF_Program 1, u_lay zR_Program zF_Program 2, u_lay zR_Program zF_Program 3, u_lay zR_Program zF_Program 4, u_lay zR_Program zF_Program 5, u_lay zR_Program zF_Program 6, u_lay zR_Program zF_Program 7, u_lay zR_Program zF_Program 8, u_lay zR_Program zF_Program 9, u_lay zR_Program zF_Program 10] : List Cond), w ∈ zq_W
  exact List.forall_mem_cons.mpr ⟨zw_12, List.forall_mem_cons.mpr ⟨zw_13, List.forall_mem_cons.mpr ⟨zw_14, List.forall_mem_cons.mpr ⟨zw_15, List.forall_mem_cons.mpr ⟨zw_16, List.forall_mem_cons.mpr ⟨zw_17, List.forall_mem_cons.mpr ⟨zw_18, List.forall_mem_cons.mpr ⟨zw_19, List.forall_mem_cons.mpr ⟨zw_20, List.forall_mem_cons.mpr ⟨zw_21, List.forall_mem_cons.mpr ⟨zw_22, fun _ h => absurd h List.not_mem_nil⟩⟩⟩⟩⟩⟩⟩⟩⟩⟩⟩
theorem zi_Kept : ∀ w ∈ u_ws zR_Kept zF_Kept 4, w ∈ zq_W := by
  show ∀ w ∈ ([u_lay zR_Kept zF_Kept 0, u_lay zR_Kept zF_Kept 1, u_lay zR_Kept zF_Kept 2, u_lay zR_Kept zF_Kept 3] : List Cond), w ∈ zq_W
  exact List.forall_mem_cons.mpr ⟨zw_23, List.forall_mem_cons.mpr ⟨zw_24, List.forall_mem_cons.mpr ⟨zw_25, List.forall_mem_cons.mpr ⟨zw_26, fun _ h => absurd h List.not_mem_nil⟩⟩⟩⟩
theorem zi_Lines : ∀ w ∈ u_ws zR_Lines zF_Lines 2, w ∈ zq_W := by
  show ∀ w ∈ ([u_lay zR_Lines zF_Lines 0, u_lay zR_Lines zF_Lines 1] : List Cond), w ∈ zq_W
  exact List.forall_mem_cons.mpr ⟨zw_27, List.forall_mem_cons.mpr ⟨zw_28, fun _ h => absurd h List.not_mem_nil⟩⟩
theorem zi_Writes : ∀ w ∈ u_ws zR_Writes zF_Writes 6, w ∈ zq_W := by
  show ∀ w ∈ ([u_lay zR_Writes zF_Writes 0, u_lay zR_Writes zF_Writes 1, u_lay zR_Writes zF_Writes 2, u_lay zR_Writes zF_Writes 3, u_lay zR_Writes zF_Writes 4, u_lay zR_Writes zF_Writes 5] : List Cond), w ∈ zq_W
  exact List.forall_mem_cons.mpr ⟨zw_29, List.forall_mem_cons.mpr ⟨zw_30, List.forall_mem_cons.mpr ⟨zw_31, List.forall_mem_cons.mpr ⟨zw_32, List.forall_mem_cons.mpr ⟨zw_33, List.forall_mem_cons.mpr ⟨zw_34, fun _ h => absurd h List.not_mem_nil⟩⟩⟩⟩⟩⟩
theorem zi_Work : ∀ w ∈ u_ws zR_Work zF_Work 14, w ∈ zq_W := by
  show ∀ w ∈ ([u_lay zR_Work zF_Work 0, u_lay zR_Work zF_Work 1, u_lay zR_Work zF_Work 2, u_lay zR_Work zF_Work 3, u_lay zR_Work zF_Work 4, u_lay zR_Work zF_Work 5, u_lay zR_Work zF_Work 6, u_lay zR_Work zF_Work 7, u_lay zR_Work zF_Work 8, u_lay zR_Work zF_Work 9, u_lay zR_Work zF_Work 10, u_lay zR_Work zF_Work 11, u_lay zR_Work zF_Work 12, u_lay zR_Work zF_Work 13] : List Cond), w ∈ zq_W
  exact List.forall_mem_cons.mpr ⟨zw_35, List.forall_mem_cons.mpr ⟨zw_36, List.forall_mem_cons.mpr ⟨zw_37, List.forall_mem_cons.mpr ⟨zw_38, List.forall_mem_cons.mpr ⟨zw_39, List.forall_mem_cons.mpr ⟨zw_40, List.forall_mem_cons.mpr ⟨zw_41, List.forall_mem_cons.mpr ⟨zw_42, List.forall_mem_cons.mpr ⟨zw_43, List.forall_mem_cons.mpr ⟨zw_44, List.forall_mem_cons.mpr ⟨zw_45, List.forall_mem_cons.mpr ⟨zw_46, List.forall_mem_cons.mpr ⟨zw_47, List.forall_mem_cons.mpr ⟨zw_48, fun _ h => absurd h List.not_mem_nil⟩⟩⟩⟩⟩⟩⟩⟩⟩⟩⟩⟩⟩⟩
theorem zi_Machine : ∀ w ∈ u_ws zR_Machine zF_Machine 11, w ∈ zq_W := by
  show ∀ w ∈ ([u_lay zR_Machine zF_Machine 0, u_lay zR_Machine zF_Machine 1, u_lay zR_Machine zF_Machine 2, u_lay zR_Machine zF_Machine 3, u_lay zR_Machine zF_Machine 4, u_lay zR_Machine zF_Machine 5, u_lay zR_Machine zF_Machine 6, u_lay zR_Machine zF_Machine 7, u_lay zR_Machine zF_Machine 8, u_lay zR_Machine zF_Machine 9, u_lay zR_Machine zF_Machine 10] : List Cond), w ∈ zq_W
  exact List.forall_mem_cons.mpr ⟨zw_49, List.forall_mem_cons.mpr ⟨zw_50, List.forall_mem_cons.mpr ⟨zw_51, List.forall_mem_cons.mpr ⟨zw_52, List.forall_mem_cons.mpr ⟨zw_53, List.forall_mem_cons.mpr ⟨zw_54, List.forall_mem_cons.mpr ⟨zw_55, List.forall_mem_cons.mpr ⟨zw_56, List.forall_mem_cons.mpr ⟨zw_57, List.forall_mem_cons.mpr ⟨zw_58, List.forall_mem_cons.mpr ⟨zw_59, fun _ h => absurd h List.not_mem_nil⟩⟩⟩⟩⟩⟩⟩⟩⟩⟩⟩
theorem zi_PS : ∀ w ∈ u_ws zR_PS zF_PS 8, w ∈ zq_W := by
  show ∀ w ∈ ([u_lay zR_PS zF_PS 0, u_lay zR_PS zF_PS 1, u_lay zR_PS zF_PS 2, u_lay zR_PS zF_PS 3, u_lay zR_PS zF_PS 4, u_lay zR_PS zF_PS 5, u_lay zR_PS zF_PS 6, u_lay zR_PS zF_PS 7] : List Cond), w ∈ zq_W
  exact List.forall_mem_cons.mpr ⟨zw_60, List.forall_mem_cons.mpr ⟨zw_61, List.forall_mem_cons.mpr ⟨zw_62, List.forall_mem_cons.mpr ⟨zw_63, List.forall_mem_cons.mpr ⟨zw_64, List.forall_mem_cons.mpr ⟨zw_65, List.forall_mem_cons.mpr ⟨zw_66, List.forall_mem_cons.mpr ⟨zw_67, fun _ h => absurd h List.not_mem_nil⟩⟩⟩⟩⟩⟩⟩⟩
theorem zi_M : ∀ w ∈ u_ws zR_M zF_M 52, w ∈ zq_W := by
  show ∀ w ∈ ([u_lay zR_M zF_M 0, u_lay zR_M zF_M 1, u_lay zR_M zF_M 2, u_lay zR_M zF_M 3, u_lay zR_M zF_M 4, u_lay zR_M zF_M 5, u_lay zR_M zF_M 6, u_lay zR_M zF_M 7, u_lay zR_M zF_M 8, u_lay zR_M zF_M 9, u_lay zR_M zF_M 10, u_lay zR_M zF_M 11, u_lay zR_M zF_M 12, u_lay zR_M zF_M 13, u_lay zR_M zF_M 14, u_lay zR_M zF_M 15, u_lay zR_M zF_M 16, u_lay zR_M zF_M 17, u_lay zR_M zF_M 18, u_lay zR_M zF_M 19, u_lay zR_M zF_M 20, u_lay zR_M zF_M 21, u_lay zR_M zF_M 22, u_lay zR_M zF_M 23, u_lay zR_M zF_M 24, u_lay zR_M zF_M 25, u_lay zR_M zF_M 26, u_lay zR_M zF_M 27, u_lay zR_M zF_M 28, u_lay zR_M zF_M 29, u_lay zR_M zF_M 30, u_lay zR_M zF_M 31, u_lay zR_M zF_M 32, u_lay zR_M zF_M 33, u_lay zR_M zF_M 34, u_lay zR_M zF_M 35, u_lay zR_M zF_M 36, u_lay zR_M zF_M 37, u_lay zR_M zF_M 38, u_lay zR_M zF_M 39, u_lay zR_M zF_M 40, u_lay zR_M zF_M 41, u_lay zR_M zF_M 42, u_lay zR_M zF_M 43, u_lay zR_M zF_M 44, u_lay zR_M zF_M 45, u_lay zR_M zF_M 46, u_lay zR_M zF_M 47, u_lay zR_M zF_M 48, u_lay zR_M zF_M 49, u_lay zR_M zF_M 50, u_lay zR_M zF_M 51] : List Cond), w ∈ zq_W
  exact List.forall_mem_cons.mpr ⟨zw_68, List.forall_mem_cons.mpr ⟨zw_69, List.forall_mem_cons.mpr ⟨zw_70, List.forall_mem_cons.mpr ⟨zw_71, List.forall_mem_cons.mpr ⟨zw_72, List.forall_mem_cons.mpr ⟨zw_73, List.forall_mem_cons.mpr ⟨zw_74, List.forall_mem_cons.mpr ⟨zw_75, List.forall_mem_cons.mpr ⟨zw_76, List.forall_mem_cons.mpr ⟨zw_77, List.forall_mem_cons.mpr ⟨zw_78, List.forall_mem_cons.mpr ⟨zw_79, List.forall_mem_cons.mpr ⟨zw_80, List.forall_mem_cons.mpr ⟨zw_81, List.forall_mem_cons.mpr ⟨zw_82, List.forall_mem_cons.mpr ⟨zw_83, List.forall_mem_cons.mpr ⟨zw_84, List.forall_mem_cons.mpr ⟨zw_85, List.forall_mem_cons.mpr ⟨zw_86, List.forall_mem_cons.mpr ⟨zw_87, List.forall_mem_cons.mpr ⟨zw_88, List.forall_mem_cons.mpr ⟨zw_89, List.forall_mem_cons.mpr ⟨zw_90, List.forall_mem_cons.mpr ⟨zw_91, List.forall_mem_cons.mpr ⟨zw_92, List.forall_mem_cons.mpr ⟨zw_93, List.forall_mem_cons.mpr ⟨zw_94, List.forall_mem_cons.mpr ⟨zw_95, List.forall_mem_cons.mpr ⟨zw_96, List.forall_mem_cons.mpr ⟨zw_97, List.forall_mem_cons.mpr ⟨zw_98, List.forall_mem_cons.mpr ⟨zw_99, List.forall_mem_cons.mpr ⟨zw_100, List.forall_mem_cons.mpr ⟨zw_101, List.forall_mem_cons.mpr ⟨zw_102, List.forall_mem_cons.mpr ⟨zw_103, List.forall_mem_cons.mpr ⟨zw_104, List.forall_mem_cons.mpr ⟨zw_105, List.forall_mem_cons.mpr ⟨zw_106, List.forall_mem_cons.mpr ⟨zw_107, List.forall_mem_cons.mpr ⟨zw_108, List.forall_mem_cons.mpr ⟨zw_109, List.forall_mem_cons.mpr ⟨zw_110, List.forall_mem_cons.mpr ⟨zw_111, List.forall_mem_cons.mpr ⟨zw_112, List.forall_mem_cons.mpr ⟨zw_113, List.forall_mem_cons.mpr ⟨zw_114, List.forall_mem_cons.mpr ⟨zw_115, List.forall_mem_cons.mpr ⟨zw_116, List.forall_mem_cons.mpr ⟨zw_117, List.forall_mem_cons.mpr ⟨zw_118, List.forall_mem_cons.mpr ⟨zw_119, fun _ h => absurd h List.not_mem_nil⟩⟩⟩⟩⟩⟩⟩⟩⟩⟩⟩⟩⟩⟩⟩⟩⟩⟩⟩⟩⟩⟩⟩⟩⟩⟩⟩⟩⟩⟩⟩⟩⟩⟩⟩⟩⟩⟩⟩⟩⟩⟩⟩⟩⟩⟩⟩⟩⟩⟩⟩⟩
def zq_nws : List Cond := [(Jvm.Cond.fieldLinkNest "PlainSteps" (78 : Nat) "PlainSteps$Registers" "count" "I" "PlainSteps"), (Jvm.Cond.methodLinkNest "PlainSteps" (18 : Nat) ({ cls := "PlainSteps$Bytes", name := "<init>", desc := "()V" } : Jvm.MethodName) "PlainSteps"), (Jvm.Cond.fieldLinkNest "PlainSteps" (91 : Nat) "PlainSteps$Operands" "constantCount" "I" "PlainSteps"), (Jvm.Cond.fieldLinkNest "PlainSteps" (102 : Nat) "PlainSteps$Operands" "fieldCount" "I" "PlainSteps"), (Jvm.Cond.methodLinkNest "PlainSteps" (34 : Nat) ({ cls := "PlainSteps$Program", name := "<init>", desc := "()V" } : Jvm.MethodName) "PlainSteps"), (Jvm.Cond.fieldLinkNest "PlainSteps$Work" (119 : Nat) "PlainSteps$Program" "ops" "[I" "PlainSteps"), (Jvm.Cond.fieldLinkNest "PlainSteps$Work" (125 : Nat) "PlainSteps$Program" "firsts" "[I" "PlainSteps"), (Jvm.Cond.fieldLinkNest "PlainSteps$Work" (134 : Nat) "PlainSteps$Program" "seconds" "[I" "PlainSteps"), (Jvm.Cond.fieldLinkNest "PlainSteps$Work" (122 : Nat) "PlainSteps$Program" "targets" "[I" "PlainSteps"), (Jvm.Cond.fieldLinkNest "PlainSteps" (122 : Nat) "PlainSteps$Program" "transferCount" "I" "PlainSteps"), (Jvm.Cond.fieldLinkNest "PlainSteps$Work" (57 : Nat) "PlainSteps$Program" "starts" "[I" "PlainSteps"), (Jvm.Cond.fieldLinkNest "PlainSteps$Work" (62 : Nat) "PlainSteps$Program" "ends" "[I" "PlainSteps"), (Jvm.Cond.fieldLinkNest "PlainSteps" (138 : Nat) "PlainSteps$Program" "instructionCount" "I" "PlainSteps"), (Jvm.Cond.methodLinkNest "PlainSteps" (41 : Nat) ({ cls := "PlainSteps$Kept", name := "<init>", desc := "()V" } : Jvm.MethodName) "PlainSteps"), (Jvm.Cond.fieldLinkNest "PlainSteps$Work" (48 : Nat) "PlainSteps$Kept" "count" "I" "PlainSteps"), (Jvm.Cond.fieldLinkNest "PlainSteps" (218 : Nat) "PlainSteps$Kept" "count" "I" "PlainSteps"), (Jvm.Cond.fieldLinkNest "PlainSteps$Work" (54 : Nat) "PlainSteps$Kept" "level" "I" "PlainSteps"), (Jvm.Cond.fieldLinkNest "PlainSteps$Machine" (46 : Nat) "PlainSteps$Kept" "level" "I" "PlainSteps"), (Jvm.Cond.fieldLinkNest "PlainSteps" (215 : Nat) "PlainSteps$Kept" "level" "I" "PlainSteps"), (Jvm.Cond.fieldLinkNest "PlainSteps$Machine" (123 : Nat) "PlainSteps$Work" "wrotePlace" "Z" "PlainSteps"), (Jvm.Cond.fieldLinkNest "PlainSteps$Machine" (94 : Nat) "PlainSteps$Work" "halts" "Z" "PlainSteps"), (Jvm.Cond.fieldLinkNest "PlainSteps" (167 : Nat) "PlainSteps$Machine" "halt" "I" "PlainSteps"), (Jvm.Cond.fieldLinkNest "PlainSteps" (207 : Nat) "PlainSteps$Machine" "faultKind" "I" "PlainSteps"), (Jvm.Cond.fieldLinkNest "PlainSteps" (210 : Nat) "PlainSteps$Machine" "faultPlace" "I" "PlainSteps")]
theorem zx_0 : (.fieldLinkNest "PlainSteps" 78 "PlainSteps$Registers" "count" "I" "PlainSteps" : Cond) ∈ zq_nws := List.mem_of_getElem? (i := 0) rfl
theorem zx_1 : (.methodLinkNest "PlainSteps" 18 zy_Bytes_init "PlainSteps" : Cond) ∈ zq_nws := List.mem_of_getElem? (i := 1) rfl
theorem zx_2 : (.fieldLinkNest "PlainSteps" 91 "PlainSteps$Operands" "constantCount" "I" "PlainSteps" : Cond) ∈ zq_nws := List.mem_of_getElem? (i := 2) rfl
theorem zx_3 : (.fieldLinkNest "PlainSteps" 102 "PlainSteps$Operands" "fieldCount" "I" "PlainSteps" : Cond) ∈ zq_nws := List.mem_of_getElem? (i := 3) rfl
theorem zx_4 : (.methodLinkNest "PlainSteps" 34 zy_Program_init "PlainSteps" : Cond) ∈ zq_nws := List.mem_of_getElem? (i := 4) rfl
theorem zx_5 : (.fieldLinkNest "PlainSteps$Work" 119 "PlainSteps$Program" "ops" "[I" "PlainSteps" : Cond) ∈ zq_nws := List.mem_of_getElem? (i := 5) rfl
theorem zx_6 : (.fieldLinkNest "PlainSteps$Work" 125 "PlainSteps$Program" "firsts" "[I" "PlainSteps" : Cond) ∈ zq_nws := List.mem_of_getElem? (i := 6) rfl
theorem zx_7 : (.fieldLinkNest "PlainSteps$Work" 134 "PlainSteps$Program" "seconds" "[I" "PlainSteps" : Cond) ∈ zq_nws := List.mem_of_getElem? (i := 7) rfl
theorem zx_8 : (.fieldLinkNest "PlainSteps$Work" 122 "PlainSteps$Program" "targets" "[I" "PlainSteps" : Cond) ∈ zq_nws := List.mem_of_getElem? (i := 8) rfl
theorem zx_9 : (.fieldLinkNest "PlainSteps" 122 "PlainSteps$Program" "transferCount" "I" "PlainSteps" : Cond) ∈ zq_nws := List.mem_of_getElem? (i := 9) rfl
theorem zx_10 : (.fieldLinkNest "PlainSteps$Work" 57 "PlainSteps$Program" "starts" "[I" "PlainSteps" : Cond) ∈ zq_nws := List.mem_of_getElem? (i := 10) rfl
theorem zx_11 : (.fieldLinkNest "PlainSteps$Work" 62 "PlainSteps$Program" "ends" "[I" "PlainSteps" : Cond) ∈ zq_nws := List.mem_of_getElem? (i := 11) rfl
theorem zx_12 : (.fieldLinkNest "PlainSteps" 138 "PlainSteps$Program" "instructionCount" "I" "PlainSteps" : Cond) ∈ zq_nws := List.mem_of_getElem? (i := 12) rfl
theorem zx_13 : (.methodLinkNest "PlainSteps" 41 zy_Kept_init "PlainSteps" : Cond) ∈ zq_nws := List.mem_of_getElem? (i := 13) rfl
theorem zx_14 : (.fieldLinkNest "PlainSteps$Work" 48 "PlainSteps$Kept" "count" "I" "PlainSteps" : Cond) ∈ zq_nws := List.mem_of_getElem? (i := 14) rfl
theorem zx_15 : (.fieldLinkNest "PlainSteps" 218 "PlainSteps$Kept" "count" "I" "PlainSteps" : Cond) ∈ zq_nws := List.mem_of_getElem? (i := 15) rfl
theorem zx_16 : (.fieldLinkNest "PlainSteps$Work" 54 "PlainSteps$Kept" "level" "I" "PlainSteps" : Cond) ∈ zq_nws := List.mem_of_getElem? (i := 16) rfl
theorem zx_17 : (.fieldLinkNest "PlainSteps$Machine" 46 "PlainSteps$Kept" "level" "I" "PlainSteps" : Cond) ∈ zq_nws := List.mem_of_getElem? (i := 17) rfl
theorem zx_18 : (.fieldLinkNest "PlainSteps" 215 "PlainSteps$Kept" "level" "I" "PlainSteps" : Cond) ∈ zq_nws := List.mem_of_getElem? (i := 18) rfl
theorem zx_19 : (.fieldLinkNest "PlainSteps$Machine" 123 "PlainSteps$Work" "wrotePlace" "Z" "PlainSteps" : Cond) ∈ zq_nws := List.mem_of_getElem? (i := 19) rfl
theorem zx_20 : (.fieldLinkNest "PlainSteps$Machine" 94 "PlainSteps$Work" "halts" "Z" "PlainSteps" : Cond) ∈ zq_nws := List.mem_of_getElem? (i := 20) rfl
theorem zx_21 : (.fieldLinkNest "PlainSteps" 167 "PlainSteps$Machine" "halt" "I" "PlainSteps" : Cond) ∈ zq_nws := List.mem_of_getElem? (i := 21) rfl
theorem zx_22 : (.fieldLinkNest "PlainSteps" 207 "PlainSteps$Machine" "faultKind" "I" "PlainSteps" : Cond) ∈ zq_nws := List.mem_of_getElem? (i := 22) rfl
theorem zx_23 : (.fieldLinkNest "PlainSteps" 210 "PlainSteps$Machine" "faultPlace" "I" "PlainSteps" : Cond) ∈ zq_nws := List.mem_of_getElem? (i := 23) rfl
def zq_strs : List (String × Nat × String) := [("PlainSteps", 73, "a register has 1 to 64 bits"), ("PlainSteps", 84, "there are 24 registers"), ("PlainSteps", 94, "there are 16 constants"), ("PlainSteps", 100, "a field has bits of 0 to 15"), ("PlainSteps", 105, "there are 16 fields"), ("PlainSteps", 111, "no such op"), ("PlainSteps", 117, "no such operand"), ("PlainSteps", 120, "no such register"), ("PlainSteps", 125, "there are 200 transfers"), ("PlainSteps", 132, "mask and value have 16 bits"), ("PlainSteps", 134, "the value has bits that the mask has not"), ("PlainSteps", 136, "no such way"), ("PlainSteps", 141, "there are 40 instructions"), ("PlainSteps", 153, "no such byte"), ("PlainSteps", 156, "a byte is 0 to 255"), ("PlainSteps", 165, "1 to 5000 steps"), ("PlainSteps", 172, "the machine has halted"), ("PlainSteps", 193, "no such line"), ("PlainSteps", 199, "a rank is 0 to 14"), ("PlainSteps", 205, "0 for the kind, 1 for the place"), ("PlainSteps", 213, "no such counter")]
theorem zh_Registers_init : zy_Registers_init.cls ≠ "java/lang/invoke/MethodHandle" ∧ zy_Registers_init.cls ≠ "java/lang/invoke/VarHandle" ∧ (parseMethodDescriptor zy_Registers_init.desc).map (fun d => d.parameters.length) = some 0 := by decide +kernel
theorem zh_Registers_add : zy_Registers_add.cls = "PlainSteps$Registers" ∧ zy_Registers_add.cls ≠ "java/lang/invoke/MethodHandle" ∧ zy_Registers_add.cls ≠ "java/lang/invoke/VarHandle" ∧ (parseMethodDescriptor zy_Registers_add.desc).map (fun d => d.parameters.length) = some 1 := by decide +kernel
theorem zh_Registers_has : zy_Registers_has.cls = "PlainSteps$Registers" ∧ zy_Registers_has.cls ≠ "java/lang/invoke/MethodHandle" ∧ zy_Registers_has.cls ≠ "java/lang/invoke/VarHandle" ∧ (parseMethodDescriptor zy_Registers_has.desc).map (fun d => d.parameters.length) = some 1 := by decide +kernel
theorem zh_Registers_valueOf : zy_Registers_valueOf.cls = "PlainSteps$Registers" ∧ zy_Registers_valueOf.cls ≠ "java/lang/invoke/MethodHandle" ∧ zy_Registers_valueOf.cls ≠ "java/lang/invoke/VarHandle" ∧ (parseMethodDescriptor zy_Registers_valueOf.desc).map (fun d => d.parameters.length) = some 1 := by decide +kernel
theorem zh_Registers_isMarked : zy_Registers_isMarked.cls = "PlainSteps$Registers" ∧ zy_Registers_isMarked.cls ≠ "java/lang/invoke/MethodHandle" ∧ zy_Registers_isMarked.cls ≠ "java/lang/invoke/VarHandle" ∧ (parseMethodDescriptor zy_Registers_isMarked.desc).map (fun d => d.parameters.length) = some 1 := by decide +kernel
theorem zh_Registers_put : zy_Registers_put.cls = "PlainSteps$Registers" ∧ zy_Registers_put.cls ≠ "java/lang/invoke/MethodHandle" ∧ zy_Registers_put.cls ≠ "java/lang/invoke/VarHandle" ∧ (parseMethodDescriptor zy_Registers_put.desc).map (fun d => d.parameters.length) = some 3 := by decide +kernel
theorem zh_Registers_placeNow : zy_Registers_placeNow.cls = "PlainSteps$Registers" ∧ zy_Registers_placeNow.cls ≠ "java/lang/invoke/MethodHandle" ∧ zy_Registers_placeNow.cls ≠ "java/lang/invoke/VarHandle" ∧ (parseMethodDescriptor zy_Registers_placeNow.desc).map (fun d => d.parameters.length) = some 0 := by decide +kernel
theorem zh_Registers_movePlace : zy_Registers_movePlace.cls = "PlainSteps$Registers" ∧ zy_Registers_movePlace.cls ≠ "java/lang/invoke/MethodHandle" ∧ zy_Registers_movePlace.cls ≠ "java/lang/invoke/VarHandle" ∧ (parseMethodDescriptor zy_Registers_movePlace.desc).map (fun d => d.parameters.length) = some 1 := by decide +kernel
theorem zh_Bytes_init : zy_Bytes_init.cls ≠ "java/lang/invoke/MethodHandle" ∧ zy_Bytes_init.cls ≠ "java/lang/invoke/VarHandle" ∧ (parseMethodDescriptor zy_Bytes_init.desc).map (fun d => d.parameters.length) = some 0 := by decide +kernel
theorem zh_Bytes_hasByte : zy_Bytes_hasByte.cls = "PlainSteps$Bytes" ∧ zy_Bytes_hasByte.cls ≠ "java/lang/invoke/MethodHandle" ∧ zy_Bytes_hasByte.cls ≠ "java/lang/invoke/VarHandle" ∧ (parseMethodDescriptor zy_Bytes_hasByte.desc).map (fun d => d.parameters.length) = some 1 := by decide +kernel
theorem zh_Bytes_hasWord : zy_Bytes_hasWord.cls = "PlainSteps$Bytes" ∧ zy_Bytes_hasWord.cls ≠ "java/lang/invoke/MethodHandle" ∧ zy_Bytes_hasWord.cls ≠ "java/lang/invoke/VarHandle" ∧ (parseMethodDescriptor zy_Bytes_hasWord.desc).map (fun d => d.parameters.length) = some 1 := by decide +kernel
theorem zh_Bytes_byteOf : zy_Bytes_byteOf.cls = "PlainSteps$Bytes" ∧ zy_Bytes_byteOf.cls ≠ "java/lang/invoke/MethodHandle" ∧ zy_Bytes_byteOf.cls ≠ "java/lang/invoke/VarHandle" ∧ (parseMethodDescriptor zy_Bytes_byteOf.desc).map (fun d => d.parameters.length) = some 1 := by decide +kernel
theorem zh_Bytes_wordOf : zy_Bytes_wordOf.cls = "PlainSteps$Bytes" ∧ zy_Bytes_wordOf.cls ≠ "java/lang/invoke/MethodHandle" ∧ zy_Bytes_wordOf.cls ≠ "java/lang/invoke/VarHandle" ∧ (parseMethodDescriptor zy_Bytes_wordOf.desc).map (fun d => d.parameters.length) = some 1 := by decide +kernel
theorem zh_Bytes_putByte : zy_Bytes_putByte.cls = "PlainSteps$Bytes" ∧ zy_Bytes_putByte.cls ≠ "java/lang/invoke/MethodHandle" ∧ zy_Bytes_putByte.cls ≠ "java/lang/invoke/VarHandle" ∧ (parseMethodDescriptor zy_Bytes_putByte.desc).map (fun d => d.parameters.length) = some 2 := by decide +kernel
theorem zh_Bytes_putWord : zy_Bytes_putWord.cls = "PlainSteps$Bytes" ∧ zy_Bytes_putWord.cls ≠ "java/lang/invoke/MethodHandle" ∧ zy_Bytes_putWord.cls ≠ "java/lang/invoke/VarHandle" ∧ (parseMethodDescriptor zy_Bytes_putWord.desc).map (fun d => d.parameters.length) = some 2 := by decide +kernel
theorem zh_Operands_init : zy_Operands_init.cls ≠ "java/lang/invoke/MethodHandle" ∧ zy_Operands_init.cls ≠ "java/lang/invoke/VarHandle" ∧ (parseMethodDescriptor zy_Operands_init.desc).map (fun d => d.parameters.length) = some 1 := by decide +kernel
theorem zh_Operands_addConstant : zy_Operands_addConstant.cls = "PlainSteps$Operands" ∧ zy_Operands_addConstant.cls ≠ "java/lang/invoke/MethodHandle" ∧ zy_Operands_addConstant.cls ≠ "java/lang/invoke/VarHandle" ∧ (parseMethodDescriptor zy_Operands_addConstant.desc).map (fun d => d.parameters.length) = some 1 := by decide +kernel
theorem zh_Operands_addField : zy_Operands_addField.cls = "PlainSteps$Operands" ∧ zy_Operands_addField.cls ≠ "java/lang/invoke/MethodHandle" ∧ zy_Operands_addField.cls ≠ "java/lang/invoke/VarHandle" ∧ (parseMethodDescriptor zy_Operands_addField.desc).map (fun d => d.parameters.length) = some 3 := by decide +kernel
theorem zh_Operands_has : zy_Operands_has.cls = "PlainSteps$Operands" ∧ zy_Operands_has.cls ≠ "java/lang/invoke/MethodHandle" ∧ zy_Operands_has.cls ≠ "java/lang/invoke/VarHandle" ∧ (parseMethodDescriptor zy_Operands_has.desc).map (fun d => d.parameters.length) = some 1 := by decide +kernel
theorem zh_Operands_read : zy_Operands_read.cls = "PlainSteps$Operands" ∧ zy_Operands_read.cls ≠ "java/lang/invoke/MethodHandle" ∧ zy_Operands_read.cls ≠ "java/lang/invoke/VarHandle" ∧ (parseMethodDescriptor zy_Operands_read.desc).map (fun d => d.parameters.length) = some 2 := by decide +kernel
theorem zh_Operands_readField : zy_Operands_readField.cls = "PlainSteps$Operands" ∧ zy_Operands_readField.cls ≠ "java/lang/invoke/MethodHandle" ∧ zy_Operands_readField.cls ≠ "java/lang/invoke/VarHandle" ∧ (parseMethodDescriptor zy_Operands_readField.desc).map (fun d => d.parameters.length) = some 2 := by decide +kernel
theorem zh_Operands_isMarked : zy_Operands_isMarked.cls = "PlainSteps$Operands" ∧ zy_Operands_isMarked.cls ≠ "java/lang/invoke/MethodHandle" ∧ zy_Operands_isMarked.cls ≠ "java/lang/invoke/VarHandle" ∧ (parseMethodDescriptor zy_Operands_isMarked.desc).map (fun d => d.parameters.length) = some 1 := by decide +kernel
theorem zh_Program_init : zy_Program_init.cls ≠ "java/lang/invoke/MethodHandle" ∧ zy_Program_init.cls ≠ "java/lang/invoke/VarHandle" ∧ (parseMethodDescriptor zy_Program_init.desc).map (fun d => d.parameters.length) = some 0 := by decide +kernel
theorem zh_Program_addTransfer : zy_Program_addTransfer.cls = "PlainSteps$Program" ∧ zy_Program_addTransfer.cls ≠ "java/lang/invoke/MethodHandle" ∧ zy_Program_addTransfer.cls ≠ "java/lang/invoke/VarHandle" ∧ (parseMethodDescriptor zy_Program_addTransfer.desc).map (fun d => d.parameters.length) = some 4 := by decide +kernel
theorem zh_Program_addInstruction : zy_Program_addInstruction.cls = "PlainSteps$Program" ∧ zy_Program_addInstruction.cls ≠ "java/lang/invoke/MethodHandle" ∧ zy_Program_addInstruction.cls ≠ "java/lang/invoke/VarHandle" ∧ (parseMethodDescriptor zy_Program_addInstruction.desc).map (fun d => d.parameters.length) = some 3 := by decide +kernel
theorem zh_Program_find : zy_Program_find.cls = "PlainSteps$Program" ∧ zy_Program_find.cls ≠ "java/lang/invoke/MethodHandle" ∧ zy_Program_find.cls ≠ "java/lang/invoke/VarHandle" ∧ (parseMethodDescriptor zy_Program_find.desc).map (fun d => d.parameters.length) = some 1 := by decide +kernel
theorem zh_Program_is : zy_Program_is.cls = "PlainSteps$Program" ∧ zy_Program_is.cls ≠ "java/lang/invoke/MethodHandle" ∧ zy_Program_is.cls ≠ "java/lang/invoke/VarHandle" ∧ (parseMethodDescriptor zy_Program_is.desc).map (fun d => d.parameters.length) = some 2 := by decide +kernel
theorem zh_Kept_init : zy_Kept_init.cls ≠ "java/lang/invoke/MethodHandle" ∧ zy_Kept_init.cls ≠ "java/lang/invoke/VarHandle" ∧ (parseMethodDescriptor zy_Kept_init.desc).map (fun d => d.parameters.length) = some 0 := by decide +kernel
theorem zh_Kept_isFull : zy_Kept_isFull.cls = "PlainSteps$Kept" ∧ zy_Kept_isFull.cls ≠ "java/lang/invoke/MethodHandle" ∧ zy_Kept_isFull.cls ≠ "java/lang/invoke/VarHandle" ∧ (parseMethodDescriptor zy_Kept_isFull.desc).map (fun d => d.parameters.length) = some 0 := by decide +kernel
theorem zh_Kept_keep : zy_Kept_keep.cls = "PlainSteps$Kept" ∧ zy_Kept_keep.cls ≠ "java/lang/invoke/MethodHandle" ∧ zy_Kept_keep.cls ≠ "java/lang/invoke/VarHandle" ∧ (parseMethodDescriptor zy_Kept_keep.desc).map (fun d => d.parameters.length) = some 2 := by decide +kernel
theorem zh_Kept_goBack : zy_Kept_goBack.cls = "PlainSteps$Kept" ∧ zy_Kept_goBack.cls ≠ "java/lang/invoke/MethodHandle" ∧ zy_Kept_goBack.cls ≠ "java/lang/invoke/VarHandle" ∧ (parseMethodDescriptor zy_Kept_goBack.desc).map (fun d => d.parameters.length) = some 0 := by decide +kernel
theorem zh_Kept_restore : zy_Kept_restore.cls = "PlainSteps$Kept" ∧ zy_Kept_restore.cls ≠ "java/lang/invoke/MethodHandle" ∧ zy_Kept_restore.cls ≠ "java/lang/invoke/VarHandle" ∧ (parseMethodDescriptor zy_Kept_restore.desc).map (fun d => d.parameters.length) = some 2 := by decide +kernel
theorem zh_Lines_init : zy_Lines_init.cls ≠ "java/lang/invoke/MethodHandle" ∧ zy_Lines_init.cls ≠ "java/lang/invoke/VarHandle" ∧ (parseMethodDescriptor zy_Lines_init.desc).map (fun d => d.parameters.length) = some 0 := by decide +kernel
theorem zh_Lines_has : zy_Lines_has.cls = "PlainSteps$Lines" ∧ zy_Lines_has.cls ≠ "java/lang/invoke/MethodHandle" ∧ zy_Lines_has.cls ≠ "java/lang/invoke/VarHandle" ∧ (parseMethodDescriptor zy_Lines_has.desc).map (fun d => d.parameters.length) = some 1 := by decide +kernel
theorem zh_Lines_turn : zy_Lines_turn.cls = "PlainSteps$Lines" ∧ zy_Lines_turn.cls ≠ "java/lang/invoke/MethodHandle" ∧ zy_Lines_turn.cls ≠ "java/lang/invoke/VarHandle" ∧ (parseMethodDescriptor zy_Lines_turn.desc).map (fun d => d.parameters.length) = some 2 := by decide +kernel
theorem zh_Lines_giveRank : zy_Lines_giveRank.cls = "PlainSteps$Lines" ∧ zy_Lines_giveRank.cls ≠ "java/lang/invoke/MethodHandle" ∧ zy_Lines_giveRank.cls ≠ "java/lang/invoke/VarHandle" ∧ (parseMethodDescriptor zy_Lines_giveRank.desc).map (fun d => d.parameters.length) = some 2 := by decide +kernel
theorem zh_Lines_rankOf : zy_Lines_rankOf.cls = "PlainSteps$Lines" ∧ zy_Lines_rankOf.cls ≠ "java/lang/invoke/MethodHandle" ∧ zy_Lines_rankOf.cls ≠ "java/lang/invoke/VarHandle" ∧ (parseMethodDescriptor zy_Lines_rankOf.desc).map (fun d => d.parameters.length) = some 1 := by decide +kernel
theorem zh_Lines_mostUrgent : zy_Lines_mostUrgent.cls = "PlainSteps$Lines" ∧ zy_Lines_mostUrgent.cls ≠ "java/lang/invoke/MethodHandle" ∧ zy_Lines_mostUrgent.cls ≠ "java/lang/invoke/VarHandle" ∧ (parseMethodDescriptor zy_Lines_mostUrgent.desc).map (fun d => d.parameters.length) = some 1 := by decide +kernel
theorem zh_Writes_init : zy_Writes_init.cls ≠ "java/lang/invoke/MethodHandle" ∧ zy_Writes_init.cls ≠ "java/lang/invoke/VarHandle" ∧ (parseMethodDescriptor zy_Writes_init.desc).map (fun d => d.parameters.length) = some 2 := by decide +kernel
theorem zh_Writes_clear : zy_Writes_clear.cls = "PlainSteps$Writes" ∧ zy_Writes_clear.cls ≠ "java/lang/invoke/MethodHandle" ∧ zy_Writes_clear.cls ≠ "java/lang/invoke/VarHandle" ∧ (parseMethodDescriptor zy_Writes_clear.desc).map (fun d => d.parameters.length) = some 0 := by decide +kernel
theorem zh_Writes_note : zy_Writes_note.cls = "PlainSteps$Writes" ∧ zy_Writes_note.cls ≠ "java/lang/invoke/MethodHandle" ∧ zy_Writes_note.cls ≠ "java/lang/invoke/VarHandle" ∧ (parseMethodDescriptor zy_Writes_note.desc).map (fun d => d.parameters.length) = some 3 := by decide +kernel
theorem zh_Writes_noteReverse : zy_Writes_noteReverse.cls = "PlainSteps$Writes" ∧ zy_Writes_noteReverse.cls ≠ "java/lang/invoke/MethodHandle" ∧ zy_Writes_noteReverse.cls ≠ "java/lang/invoke/VarHandle" ∧ (parseMethodDescriptor zy_Writes_noteReverse.desc).map (fun d => d.parameters.length) = some 2 := by decide +kernel
theorem zh_Writes_perform : zy_Writes_perform.cls = "PlainSteps$Writes" ∧ zy_Writes_perform.cls ≠ "java/lang/invoke/MethodHandle" ∧ zy_Writes_perform.cls ≠ "java/lang/invoke/VarHandle" ∧ (parseMethodDescriptor zy_Writes_perform.desc).map (fun d => d.parameters.length) = some 3 := by decide +kernel
theorem zh_Writes_performInOrder : zy_Writes_performInOrder.cls = "PlainSteps$Writes" ∧ zy_Writes_performInOrder.cls ≠ "java/lang/invoke/MethodHandle" ∧ zy_Writes_performInOrder.cls ≠ "java/lang/invoke/VarHandle" ∧ (parseMethodDescriptor zy_Writes_performInOrder.desc).map (fun d => d.parameters.length) = some 0 := by decide +kernel
theorem zh_Writes_performBackwards : zy_Writes_performBackwards.cls = "PlainSteps$Writes" ∧ zy_Writes_performBackwards.cls ≠ "java/lang/invoke/MethodHandle" ∧ zy_Writes_performBackwards.cls ≠ "java/lang/invoke/VarHandle" ∧ (parseMethodDescriptor zy_Writes_performBackwards.desc).map (fun d => d.parameters.length) = some 0 := by decide +kernel
theorem zh_Work_init : zy_Work_init.cls ≠ "java/lang/invoke/MethodHandle" ∧ zy_Work_init.cls ≠ "java/lang/invoke/VarHandle" ∧ (parseMethodDescriptor zy_Work_init.desc).map (fun d => d.parameters.length) = some 6 := by decide +kernel
theorem zh_Work_carryOut : zy_Work_carryOut.cls = "PlainSteps$Work" ∧ zy_Work_carryOut.cls ≠ "java/lang/invoke/MethodHandle" ∧ zy_Work_carryOut.cls ≠ "java/lang/invoke/VarHandle" ∧ (parseMethodDescriptor zy_Work_carryOut.desc).map (fun d => d.parameters.length) = some 2 := by decide +kernel
theorem zh_Work_prepare : zy_Work_prepare.cls = "PlainSteps$Work" ∧ zy_Work_prepare.cls ≠ "java/lang/invoke/MethodHandle" ∧ zy_Work_prepare.cls ≠ "java/lang/invoke/VarHandle" ∧ (parseMethodDescriptor zy_Work_prepare.desc).map (fun d => d.parameters.length) = some 2 := by decide +kernel
theorem zh_Work_writeWhatWaits : zy_Work_writeWhatWaits.cls = "PlainSteps$Work" ∧ zy_Work_writeWhatWaits.cls ≠ "java/lang/invoke/MethodHandle" ∧ zy_Work_writeWhatWaits.cls ≠ "java/lang/invoke/VarHandle" ∧ (parseMethodDescriptor zy_Work_writeWhatWaits.desc).map (fun d => d.parameters.length) = some 0 := by decide +kernel
theorem zh_Work_takeBack : zy_Work_takeBack.cls = "PlainSteps$Work" ∧ zy_Work_takeBack.cls ≠ "java/lang/invoke/MethodHandle" ∧ zy_Work_takeBack.cls ≠ "java/lang/invoke/VarHandle" ∧ (parseMethodDescriptor zy_Work_takeBack.desc).map (fun d => d.parameters.length) = some 0 := by decide +kernel
theorem zh_Work_doTransfer : zy_Work_doTransfer.cls = "PlainSteps$Work" ∧ zy_Work_doTransfer.cls ≠ "java/lang/invoke/MethodHandle" ∧ zy_Work_doTransfer.cls ≠ "java/lang/invoke/VarHandle" ∧ (parseMethodDescriptor zy_Work_doTransfer.desc).map (fun d => d.parameters.length) = some 1 := by decide +kernel
theorem zh_Work_divide : zy_Work_divide.cls = "PlainSteps$Work" ∧ zy_Work_divide.cls ≠ "java/lang/invoke/MethodHandle" ∧ zy_Work_divide.cls ≠ "java/lang/invoke/VarHandle" ∧ (parseMethodDescriptor zy_Work_divide.desc).map (fun d => d.parameters.length) = some 5 := by decide +kernel
theorem zh_Work_load : zy_Work_load.cls = "PlainSteps$Work" ∧ zy_Work_load.cls ≠ "java/lang/invoke/MethodHandle" ∧ zy_Work_load.cls ≠ "java/lang/invoke/VarHandle" ∧ (parseMethodDescriptor zy_Work_load.desc).map (fun d => d.parameters.length) = some 4 := by decide +kernel
theorem zh_Work_store : zy_Work_store.cls = "PlainSteps$Work" ∧ zy_Work_store.cls ≠ "java/lang/invoke/MethodHandle" ∧ zy_Work_store.cls ≠ "java/lang/invoke/VarHandle" ∧ (parseMethodDescriptor zy_Work_store.desc).map (fun d => d.parameters.length) = some 3 := by decide +kernel
theorem zh_Work_goBack : zy_Work_goBack.cls = "PlainSteps$Work" ∧ zy_Work_goBack.cls ≠ "java/lang/invoke/MethodHandle" ∧ zy_Work_goBack.cls ≠ "java/lang/invoke/VarHandle" ∧ (parseMethodDescriptor zy_Work_goBack.desc).map (fun d => d.parameters.length) = some 0 := by decide +kernel
theorem zh_Work_write : zy_Work_write.cls = "PlainSteps$Work" ∧ zy_Work_write.cls ≠ "java/lang/invoke/MethodHandle" ∧ zy_Work_write.cls ≠ "java/lang/invoke/VarHandle" ∧ (parseMethodDescriptor zy_Work_write.desc).map (fun d => d.parameters.length) = some 3 := by decide +kernel
theorem zh_Work_result : zy_Work_result.cls = "PlainSteps$Work" ∧ zy_Work_result.cls ≠ "java/lang/invoke/MethodHandle" ∧ zy_Work_result.cls ≠ "java/lang/invoke/VarHandle" ∧ (parseMethodDescriptor zy_Work_result.desc).map (fun d => d.parameters.length) = some 3 := by decide +kernel
theorem zh_Work_isBelow : zy_Work_isBelow.cls = "PlainSteps$Work" ∧ zy_Work_isBelow.cls ≠ "java/lang/invoke/MethodHandle" ∧ zy_Work_isBelow.cls ≠ "java/lang/invoke/VarHandle" ∧ (parseMethodDescriptor zy_Work_isBelow.desc).map (fun d => d.parameters.length) = some 2 := by decide +kernel
theorem zh_Work_quotient : zy_Work_quotient.cls = "PlainSteps$Work" ∧ zy_Work_quotient.cls ≠ "java/lang/invoke/MethodHandle" ∧ zy_Work_quotient.cls ≠ "java/lang/invoke/VarHandle" ∧ (parseMethodDescriptor zy_Work_quotient.desc).map (fun d => d.parameters.length) = some 2 := by decide +kernel
theorem zh_Machine_init : zy_Machine_init.cls ≠ "java/lang/invoke/MethodHandle" ∧ zy_Machine_init.cls ≠ "java/lang/invoke/VarHandle" ∧ (parseMethodDescriptor zy_Machine_init.desc).map (fun d => d.parameters.length) = some 7 := by decide +kernel
theorem zh_Machine_loseWaiting : zy_Machine_loseWaiting.cls = "PlainSteps$Machine" ∧ zy_Machine_loseWaiting.cls ≠ "java/lang/invoke/MethodHandle" ∧ zy_Machine_loseWaiting.cls ≠ "java/lang/invoke/VarHandle" ∧ (parseMethodDescriptor zy_Machine_loseWaiting.desc).map (fun d => d.parameters.length) = some 0 := by decide +kernel
theorem zh_Machine_takeStep : zy_Machine_takeStep.cls = "PlainSteps$Machine" ∧ zy_Machine_takeStep.cls ≠ "java/lang/invoke/MethodHandle" ∧ zy_Machine_takeStep.cls ≠ "java/lang/invoke/VarHandle" ∧ (parseMethodDescriptor zy_Machine_takeStep.desc).map (fun d => d.parameters.length) = some 0 := by decide +kernel
theorem zh_Machine_interruptBy : zy_Machine_interruptBy.cls = "PlainSteps$Machine" ∧ zy_Machine_interruptBy.cls ≠ "java/lang/invoke/MethodHandle" ∧ zy_Machine_interruptBy.cls ≠ "java/lang/invoke/VarHandle" ∧ (parseMethodDescriptor zy_Machine_interruptBy.desc).map (fun d => d.parameters.length) = some 1 := by decide +kernel
theorem zh_Machine_settlePlace : zy_Machine_settlePlace.cls = "PlainSteps$Machine" ∧ zy_Machine_settlePlace.cls ≠ "java/lang/invoke/MethodHandle" ∧ zy_Machine_settlePlace.cls ≠ "java/lang/invoke/VarHandle" ∧ (parseMethodDescriptor zy_Machine_settlePlace.desc).map (fun d => d.parameters.length) = some 2 := by decide +kernel
theorem zh_Machine_failWith : zy_Machine_failWith.cls = "PlainSteps$Machine" ∧ zy_Machine_failWith.cls ≠ "java/lang/invoke/MethodHandle" ∧ zy_Machine_failWith.cls ≠ "java/lang/invoke/VarHandle" ∧ (parseMethodDescriptor zy_Machine_failWith.desc).map (fun d => d.parameters.length) = some 2 := by decide +kernel
theorem zh_PS_init : zy_PS_init.cls ≠ "java/lang/invoke/MethodHandle" ∧ zy_PS_init.cls ≠ "java/lang/invoke/VarHandle" ∧ (parseMethodDescriptor zy_PS_init.desc).map (fun d => d.parameters.length) = some 0 := by decide +kernel
theorem zh_PS_register : zy_PS_register.cls = "PlainSteps" ∧ zy_PS_register.cls ≠ "java/lang/invoke/MethodHandle" ∧ zy_PS_register.cls ≠ "java/lang/invoke/VarHandle" ∧ (parseMethodDescriptor zy_PS_register.desc).map (fun d => d.parameters.length) = some 1 := by decide +kernel
theorem zh_PS_constant : zy_PS_constant.cls = "PlainSteps" ∧ zy_PS_constant.cls ≠ "java/lang/invoke/MethodHandle" ∧ zy_PS_constant.cls ≠ "java/lang/invoke/VarHandle" ∧ (parseMethodDescriptor zy_PS_constant.desc).map (fun d => d.parameters.length) = some 1 := by decide +kernel
theorem zh_PS_field : zy_PS_field.cls = "PlainSteps" ∧ zy_PS_field.cls ≠ "java/lang/invoke/MethodHandle" ∧ zy_PS_field.cls ≠ "java/lang/invoke/VarHandle" ∧ (parseMethodDescriptor zy_PS_field.desc).map (fun d => d.parameters.length) = some 3 := by decide +kernel
theorem zh_PS_transfer : zy_PS_transfer.cls = "PlainSteps" ∧ zy_PS_transfer.cls ≠ "java/lang/invoke/MethodHandle" ∧ zy_PS_transfer.cls ≠ "java/lang/invoke/VarHandle" ∧ (parseMethodDescriptor zy_PS_transfer.desc).map (fun d => d.parameters.length) = some 4 := by decide +kernel
theorem zh_PS_instruction : zy_PS_instruction.cls = "PlainSteps" ∧ zy_PS_instruction.cls ≠ "java/lang/invoke/MethodHandle" ∧ zy_PS_instruction.cls ≠ "java/lang/invoke/VarHandle" ∧ (parseMethodDescriptor zy_PS_instruction.desc).map (fun d => d.parameters.length) = some 3 := by decide +kernel
theorem zh_PS_memory : zy_PS_memory.cls = "PlainSteps" ∧ zy_PS_memory.cls ≠ "java/lang/invoke/MethodHandle" ∧ zy_PS_memory.cls ≠ "java/lang/invoke/VarHandle" ∧ (parseMethodDescriptor zy_PS_memory.desc).map (fun d => d.parameters.length) = some 2 := by decide +kernel
theorem zh_PS_byteAt : zy_PS_byteAt.cls = "PlainSteps" ∧ zy_PS_byteAt.cls ≠ "java/lang/invoke/MethodHandle" ∧ zy_PS_byteAt.cls ≠ "java/lang/invoke/VarHandle" ∧ (parseMethodDescriptor zy_PS_byteAt.desc).map (fun d => d.parameters.length) = some 1 := by decide +kernel
theorem zh_PS_step : zy_PS_step.cls = "PlainSteps" ∧ zy_PS_step.cls ≠ "java/lang/invoke/MethodHandle" ∧ zy_PS_step.cls ≠ "java/lang/invoke/VarHandle" ∧ (parseMethodDescriptor zy_PS_step.desc).map (fun d => d.parameters.length) = some 1 := by decide +kernel
theorem zh_PS_set : zy_PS_set.cls = "PlainSteps" ∧ zy_PS_set.cls ≠ "java/lang/invoke/MethodHandle" ∧ zy_PS_set.cls ≠ "java/lang/invoke/VarHandle" ∧ (parseMethodDescriptor zy_PS_set.desc).map (fun d => d.parameters.length) = some 2 := by decide +kernel
theorem zh_PS_get : zy_PS_get.cls = "PlainSteps" ∧ zy_PS_get.cls ≠ "java/lang/invoke/MethodHandle" ∧ zy_PS_get.cls ≠ "java/lang/invoke/VarHandle" ∧ (parseMethodDescriptor zy_PS_get.desc).map (fun d => d.parameters.length) = some 1 := by decide +kernel
theorem zh_PS_mark : zy_PS_mark.cls = "PlainSteps" ∧ zy_PS_mark.cls ≠ "java/lang/invoke/MethodHandle" ∧ zy_PS_mark.cls ≠ "java/lang/invoke/VarHandle" ∧ (parseMethodDescriptor zy_PS_mark.desc).map (fun d => d.parameters.length) = some 1 := by decide +kernel
theorem zh_PS_line : zy_PS_line.cls = "PlainSteps" ∧ zy_PS_line.cls ≠ "java/lang/invoke/MethodHandle" ∧ zy_PS_line.cls ≠ "java/lang/invoke/VarHandle" ∧ (parseMethodDescriptor zy_PS_line.desc).map (fun d => d.parameters.length) = some 2 := by decide +kernel
theorem zh_PS_enable : zy_PS_enable.cls = "PlainSteps" ∧ zy_PS_enable.cls ≠ "java/lang/invoke/MethodHandle" ∧ zy_PS_enable.cls ≠ "java/lang/invoke/VarHandle" ∧ (parseMethodDescriptor zy_PS_enable.desc).map (fun d => d.parameters.length) = some 2 := by decide +kernel
theorem zh_PS_fault : zy_PS_fault.cls = "PlainSteps" ∧ zy_PS_fault.cls ≠ "java/lang/invoke/MethodHandle" ∧ zy_PS_fault.cls ≠ "java/lang/invoke/VarHandle" ∧ (parseMethodDescriptor zy_PS_fault.desc).map (fun d => d.parameters.length) = some 1 := by decide +kernel
theorem zh_PS_halted : zy_PS_halted.cls = "PlainSteps" ∧ zy_PS_halted.cls ≠ "java/lang/invoke/MethodHandle" ∧ zy_PS_halted.cls ≠ "java/lang/invoke/VarHandle" ∧ (parseMethodDescriptor zy_PS_halted.desc).map (fun d => d.parameters.length) = some 0 := by decide +kernel
theorem zh_PS_counter : zy_PS_counter.cls = "PlainSteps" ∧ zy_PS_counter.cls ≠ "java/lang/invoke/MethodHandle" ∧ zy_PS_counter.cls ≠ "java/lang/invoke/VarHandle" ∧ (parseMethodDescriptor zy_PS_counter.desc).map (fun d => d.parameters.length) = some 1 := by decide +kernel
theorem zh_M_init : zy_M_init.cls ≠ "java/lang/invoke/MethodHandle" ∧ zy_M_init.cls ≠ "java/lang/invoke/VarHandle" ∧ (parseMethodDescriptor zy_M_init.desc).map (fun d => d.parameters.length) = some 0 := by decide +kernel
theorem zh_M_thrown : zy_M_thrown.cls = "PlainStepsModel" ∧ zy_M_thrown.cls ≠ "java/lang/invoke/MethodHandle" ∧ zy_M_thrown.cls ≠ "java/lang/invoke/VarHandle" ∧ (parseMethodDescriptor zy_M_thrown.desc).map (fun d => d.parameters.length) = some 0 := by decide +kernel
theorem zh_M_in : zy_M_in.cls = "PlainStepsModel" ∧ zy_M_in.cls ≠ "java/lang/invoke/MethodHandle" ∧ zy_M_in.cls ≠ "java/lang/invoke/VarHandle" ∧ (parseMethodDescriptor zy_M_in.desc).map (fun d => d.parameters.length) = some 3 := by decide +kernel
theorem zh_M_goes : zy_M_goes.cls = "PlainStepsModel" ∧ zy_M_goes.cls ≠ "java/lang/invoke/MethodHandle" ∧ zy_M_goes.cls ≠ "java/lang/invoke/VarHandle" ∧ (parseMethodDescriptor zy_M_goes.desc).map (fun d => d.parameters.length) = some 2 := by decide +kernel
theorem zh_M_cut : zy_M_cut.cls = "PlainStepsModel" ∧ zy_M_cut.cls ≠ "java/lang/invoke/MethodHandle" ∧ zy_M_cut.cls ≠ "java/lang/invoke/VarHandle" ∧ (parseMethodDescriptor zy_M_cut.desc).map (fun d => d.parameters.length) = some 2 := by decide +kernel
theorem zh_M_register : zy_M_register.cls = "PlainStepsModel" ∧ zy_M_register.cls ≠ "java/lang/invoke/MethodHandle" ∧ zy_M_register.cls ≠ "java/lang/invoke/VarHandle" ∧ (parseMethodDescriptor zy_M_register.desc).map (fun d => d.parameters.length) = some 1 := by decide +kernel
theorem zh_M_constant : zy_M_constant.cls = "PlainStepsModel" ∧ zy_M_constant.cls ≠ "java/lang/invoke/MethodHandle" ∧ zy_M_constant.cls ≠ "java/lang/invoke/VarHandle" ∧ (parseMethodDescriptor zy_M_constant.desc).map (fun d => d.parameters.length) = some 1 := by decide +kernel
theorem zh_M_field : zy_M_field.cls = "PlainStepsModel" ∧ zy_M_field.cls ≠ "java/lang/invoke/MethodHandle" ∧ zy_M_field.cls ≠ "java/lang/invoke/VarHandle" ∧ (parseMethodDescriptor zy_M_field.desc).map (fun d => d.parameters.length) = some 3 := by decide +kernel
theorem zh_M_isOperand : zy_M_isOperand.cls = "PlainStepsModel" ∧ zy_M_isOperand.cls ≠ "java/lang/invoke/MethodHandle" ∧ zy_M_isOperand.cls ≠ "java/lang/invoke/VarHandle" ∧ (parseMethodDescriptor zy_M_isOperand.desc).map (fun d => d.parameters.length) = some 1 := by decide +kernel
theorem zh_M_transfer : zy_M_transfer.cls = "PlainStepsModel" ∧ zy_M_transfer.cls ≠ "java/lang/invoke/MethodHandle" ∧ zy_M_transfer.cls ≠ "java/lang/invoke/VarHandle" ∧ (parseMethodDescriptor zy_M_transfer.desc).map (fun d => d.parameters.length) = some 4 := by decide +kernel
theorem zh_M_instruction : zy_M_instruction.cls = "PlainStepsModel" ∧ zy_M_instruction.cls ≠ "java/lang/invoke/MethodHandle" ∧ zy_M_instruction.cls ≠ "java/lang/invoke/VarHandle" ∧ (parseMethodDescriptor zy_M_instruction.desc).map (fun d => d.parameters.length) = some 3 := by decide +kernel
theorem zh_M_memory : zy_M_memory.cls = "PlainStepsModel" ∧ zy_M_memory.cls ≠ "java/lang/invoke/MethodHandle" ∧ zy_M_memory.cls ≠ "java/lang/invoke/VarHandle" ∧ (parseMethodDescriptor zy_M_memory.desc).map (fun d => d.parameters.length) = some 2 := by decide +kernel
theorem zh_M_byteAt : zy_M_byteAt.cls = "PlainStepsModel" ∧ zy_M_byteAt.cls ≠ "java/lang/invoke/MethodHandle" ∧ zy_M_byteAt.cls ≠ "java/lang/invoke/VarHandle" ∧ (parseMethodDescriptor zy_M_byteAt.desc).map (fun d => d.parameters.length) = some 1 := by decide +kernel
theorem zh_M_keep : zy_M_keep.cls = "PlainStepsModel" ∧ zy_M_keep.cls ≠ "java/lang/invoke/MethodHandle" ∧ zy_M_keep.cls ≠ "java/lang/invoke/VarHandle" ∧ (parseMethodDescriptor zy_M_keep.desc).map (fun d => d.parameters.length) = some 3 := by decide +kernel
theorem zh_M_takeFault : zy_M_takeFault.cls = "PlainStepsModel" ∧ zy_M_takeFault.cls ≠ "java/lang/invoke/MethodHandle" ∧ zy_M_takeFault.cls ≠ "java/lang/invoke/VarHandle" ∧ (parseMethodDescriptor zy_M_takeFault.desc).map (fun d => d.parameters.length) = some 1 := by decide +kernel
theorem zh_M_waitingLine : zy_M_waitingLine.cls = "PlainStepsModel" ∧ zy_M_waitingLine.cls ≠ "java/lang/invoke/MethodHandle" ∧ zy_M_waitingLine.cls ≠ "java/lang/invoke/VarHandle" ∧ (parseMethodDescriptor zy_M_waitingLine.desc).map (fun d => d.parameters.length) = some 0 := by decide +kernel
theorem zh_M_isParallel : zy_M_isParallel.cls = "PlainStepsModel" ∧ zy_M_isParallel.cls ≠ "java/lang/invoke/MethodHandle" ∧ zy_M_isParallel.cls ≠ "java/lang/invoke/VarHandle" ∧ (parseMethodDescriptor zy_M_isParallel.desc).map (fun d => d.parameters.length) = some 1 := by decide +kernel
theorem zh_M_operand : zy_M_operand.cls = "PlainStepsModel" ∧ zy_M_operand.cls ≠ "java/lang/invoke/MethodHandle" ∧ zy_M_operand.cls ≠ "java/lang/invoke/VarHandle" ∧ (parseMethodDescriptor zy_M_operand.desc).map (fun d => d.parameters.length) = some 2 := by decide +kernel
theorem zh_M_isMarked : zy_M_isMarked.cls = "PlainStepsModel" ∧ zy_M_isMarked.cls ≠ "java/lang/invoke/MethodHandle" ∧ zy_M_isMarked.cls ≠ "java/lang/invoke/VarHandle" ∧ (parseMethodDescriptor zy_M_isMarked.desc).map (fun d => d.parameters.length) = some 2 := by decide +kernel
theorem zh_M_setRegister : zy_M_setRegister.cls = "PlainStepsModel" ∧ zy_M_setRegister.cls ≠ "java/lang/invoke/MethodHandle" ∧ zy_M_setRegister.cls ≠ "java/lang/invoke/VarHandle" ∧ (parseMethodDescriptor zy_M_setRegister.desc).map (fun d => d.parameters.length) = some 3 := by decide +kernel
theorem zh_M_setMemory : zy_M_setMemory.cls = "PlainStepsModel" ∧ zy_M_setMemory.cls ≠ "java/lang/invoke/MethodHandle" ∧ zy_M_setMemory.cls ≠ "java/lang/invoke/VarHandle" ∧ (parseMethodDescriptor zy_M_setMemory.desc).map (fun d => d.parameters.length) = some 3 := by decide +kernel
theorem zh_M_later : zy_M_later.cls = "PlainStepsModel" ∧ zy_M_later.cls ≠ "java/lang/invoke/MethodHandle" ∧ zy_M_later.cls ≠ "java/lang/invoke/VarHandle" ∧ (parseMethodDescriptor zy_M_later.desc).map (fun d => d.parameters.length) = some 4 := by decide +kernel
theorem zh_M_result : zy_M_result.cls = "PlainStepsModel" ∧ zy_M_result.cls ≠ "java/lang/invoke/MethodHandle" ∧ zy_M_result.cls ≠ "java/lang/invoke/VarHandle" ∧ (parseMethodDescriptor zy_M_result.desc).map (fun d => d.parameters.length) = some 4 := by decide +kernel
theorem zh_M_markOnly : zy_M_markOnly.cls = "PlainStepsModel" ∧ zy_M_markOnly.cls ≠ "java/lang/invoke/MethodHandle" ∧ zy_M_markOnly.cls ≠ "java/lang/invoke/VarHandle" ∧ (parseMethodDescriptor zy_M_markOnly.desc).map (fun d => d.parameters.length) = some 2 := by decide +kernel
theorem zh_M_writeAll : zy_M_writeAll.cls = "PlainStepsModel" ∧ zy_M_writeAll.cls ≠ "java/lang/invoke/MethodHandle" ∧ zy_M_writeAll.cls ≠ "java/lang/invoke/VarHandle" ∧ (parseMethodDescriptor zy_M_writeAll.desc).map (fun d => d.parameters.length) = some 0 := by decide +kernel
theorem zh_M_isLess : zy_M_isLess.cls = "PlainStepsModel" ∧ zy_M_isLess.cls ≠ "java/lang/invoke/MethodHandle" ∧ zy_M_isLess.cls ≠ "java/lang/invoke/VarHandle" ∧ (parseMethodDescriptor zy_M_isLess.desc).map (fun d => d.parameters.length) = some 2 := by decide +kernel
theorem zh_M_quotient : zy_M_quotient.cls = "PlainStepsModel" ∧ zy_M_quotient.cls ≠ "java/lang/invoke/MethodHandle" ∧ zy_M_quotient.cls ≠ "java/lang/invoke/VarHandle" ∧ (parseMethodDescriptor zy_M_quotient.desc).map (fun d => d.parameters.length) = some 2 := by decide +kernel
theorem zh_M_simple : zy_M_simple.cls = "PlainStepsModel" ∧ zy_M_simple.cls ≠ "java/lang/invoke/MethodHandle" ∧ zy_M_simple.cls ≠ "java/lang/invoke/VarHandle" ∧ (parseMethodDescriptor zy_M_simple.desc).map (fun d => d.parameters.length) = some 3 := by decide +kernel
theorem zh_M_isThere : zy_M_isThere.cls = "PlainStepsModel" ∧ zy_M_isThere.cls ≠ "java/lang/invoke/MethodHandle" ∧ zy_M_isThere.cls ≠ "java/lang/invoke/VarHandle" ∧ (parseMethodDescriptor zy_M_isThere.desc).map (fun d => d.parameters.length) = some 2 := by decide +kernel
theorem zh_M_compute : zy_M_compute.cls = "PlainStepsModel" ∧ zy_M_compute.cls ≠ "java/lang/invoke/MethodHandle" ∧ zy_M_compute.cls ≠ "java/lang/invoke/VarHandle" ∧ (parseMethodDescriptor zy_M_compute.desc).map (fun d => d.parameters.length) = some 4 := by decide +kernel
theorem zh_M_store : zy_M_store.cls = "PlainStepsModel" ∧ zy_M_store.cls ≠ "java/lang/invoke/MethodHandle" ∧ zy_M_store.cls ≠ "java/lang/invoke/VarHandle" ∧ (parseMethodDescriptor zy_M_store.desc).map (fun d => d.parameters.length) = some 4 := by decide +kernel
theorem zh_M_back : zy_M_back.cls = "PlainStepsModel" ∧ zy_M_back.cls ≠ "java/lang/invoke/MethodHandle" ∧ zy_M_back.cls ≠ "java/lang/invoke/VarHandle" ∧ (parseMethodDescriptor zy_M_back.desc).map (fun d => d.parameters.length) = some 0 := by decide +kernel
theorem zh_M_doTransfer : zy_M_doTransfer.cls = "PlainStepsModel" ∧ zy_M_doTransfer.cls ≠ "java/lang/invoke/MethodHandle" ∧ zy_M_doTransfer.cls ≠ "java/lang/invoke/VarHandle" ∧ (parseMethodDescriptor zy_M_doTransfer.desc).map (fun d => d.parameters.length) = some 2 := by decide +kernel
theorem zh_M_save : zy_M_save.cls = "PlainStepsModel" ∧ zy_M_save.cls ≠ "java/lang/invoke/MethodHandle" ∧ zy_M_save.cls ≠ "java/lang/invoke/VarHandle" ∧ (parseMethodDescriptor zy_M_save.desc).map (fun d => d.parameters.length) = some 0 := by decide +kernel
theorem zh_M_restore : zy_M_restore.cls = "PlainStepsModel" ∧ zy_M_restore.cls ≠ "java/lang/invoke/MethodHandle" ∧ zy_M_restore.cls ≠ "java/lang/invoke/VarHandle" ∧ (parseMethodDescriptor zy_M_restore.desc).map (fun d => d.parameters.length) = some 0 := by decide +kernel
theorem zh_M_find : zy_M_find.cls = "PlainStepsModel" ∧ zy_M_find.cls ≠ "java/lang/invoke/MethodHandle" ∧ zy_M_find.cls ≠ "java/lang/invoke/VarHandle" ∧ (parseMethodDescriptor zy_M_find.desc).map (fun d => d.parameters.length) = some 0 := by decide +kernel
theorem zh_M_doAll : zy_M_doAll.cls = "PlainStepsModel" ∧ zy_M_doAll.cls ≠ "java/lang/invoke/MethodHandle" ∧ zy_M_doAll.cls ≠ "java/lang/invoke/VarHandle" ∧ (parseMethodDescriptor zy_M_doAll.desc).map (fun d => d.parameters.length) = some 1 := by decide +kernel
theorem zh_M_comePlace : zy_M_comePlace.cls = "PlainStepsModel" ∧ zy_M_comePlace.cls ≠ "java/lang/invoke/MethodHandle" ∧ zy_M_comePlace.cls ≠ "java/lang/invoke/VarHandle" ∧ (parseMethodDescriptor zy_M_comePlace.desc).map (fun d => d.parameters.length) = some 1 := by decide +kernel
theorem zh_M_doInstruction : zy_M_doInstruction.cls = "PlainStepsModel" ∧ zy_M_doInstruction.cls ≠ "java/lang/invoke/MethodHandle" ∧ zy_M_doInstruction.cls ≠ "java/lang/invoke/VarHandle" ∧ (parseMethodDescriptor zy_M_doInstruction.desc).map (fun d => d.parameters.length) = some 0 := by decide +kernel
theorem zh_M_stepOnce : zy_M_stepOnce.cls = "PlainStepsModel" ∧ zy_M_stepOnce.cls ≠ "java/lang/invoke/MethodHandle" ∧ zy_M_stepOnce.cls ≠ "java/lang/invoke/VarHandle" ∧ (parseMethodDescriptor zy_M_stepOnce.desc).map (fun d => d.parameters.length) = some 0 := by decide +kernel
theorem zh_M_step : zy_M_step.cls = "PlainStepsModel" ∧ zy_M_step.cls ≠ "java/lang/invoke/MethodHandle" ∧ zy_M_step.cls ≠ "java/lang/invoke/VarHandle" ∧ (parseMethodDescriptor zy_M_step.desc).map (fun d => d.parameters.length) = some 1 := by decide +kernel
theorem zh_M_isRegister : zy_M_isRegister.cls = "PlainStepsModel" ∧ zy_M_isRegister.cls ≠ "java/lang/invoke/MethodHandle" ∧ zy_M_isRegister.cls ≠ "java/lang/invoke/VarHandle" ∧ (parseMethodDescriptor zy_M_isRegister.desc).map (fun d => d.parameters.length) = some 1 := by decide +kernel
theorem zh_M_set : zy_M_set.cls = "PlainStepsModel" ∧ zy_M_set.cls ≠ "java/lang/invoke/MethodHandle" ∧ zy_M_set.cls ≠ "java/lang/invoke/VarHandle" ∧ (parseMethodDescriptor zy_M_set.desc).map (fun d => d.parameters.length) = some 2 := by decide +kernel
theorem zh_M_get : zy_M_get.cls = "PlainStepsModel" ∧ zy_M_get.cls ≠ "java/lang/invoke/MethodHandle" ∧ zy_M_get.cls ≠ "java/lang/invoke/VarHandle" ∧ (parseMethodDescriptor zy_M_get.desc).map (fun d => d.parameters.length) = some 1 := by decide +kernel
theorem zh_M_mark : zy_M_mark.cls = "PlainStepsModel" ∧ zy_M_mark.cls ≠ "java/lang/invoke/MethodHandle" ∧ zy_M_mark.cls ≠ "java/lang/invoke/VarHandle" ∧ (parseMethodDescriptor zy_M_mark.desc).map (fun d => d.parameters.length) = some 1 := by decide +kernel
theorem zh_M_line : zy_M_line.cls = "PlainStepsModel" ∧ zy_M_line.cls ≠ "java/lang/invoke/MethodHandle" ∧ zy_M_line.cls ≠ "java/lang/invoke/VarHandle" ∧ (parseMethodDescriptor zy_M_line.desc).map (fun d => d.parameters.length) = some 2 := by decide +kernel
theorem zh_M_enable : zy_M_enable.cls = "PlainStepsModel" ∧ zy_M_enable.cls ≠ "java/lang/invoke/MethodHandle" ∧ zy_M_enable.cls ≠ "java/lang/invoke/VarHandle" ∧ (parseMethodDescriptor zy_M_enable.desc).map (fun d => d.parameters.length) = some 2 := by decide +kernel
theorem zh_M_fault : zy_M_fault.cls = "PlainStepsModel" ∧ zy_M_fault.cls ≠ "java/lang/invoke/MethodHandle" ∧ zy_M_fault.cls ≠ "java/lang/invoke/VarHandle" ∧ (parseMethodDescriptor zy_M_fault.desc).map (fun d => d.parameters.length) = some 1 := by decide +kernel
theorem zh_M_halted : zy_M_halted.cls = "PlainStepsModel" ∧ zy_M_halted.cls ≠ "java/lang/invoke/MethodHandle" ∧ zy_M_halted.cls ≠ "java/lang/invoke/VarHandle" ∧ (parseMethodDescriptor zy_M_halted.desc).map (fun d => d.parameters.length) = some 0 := by decide +kernel
theorem zh_M_counter : zy_M_counter.cls = "PlainStepsModel" ∧ zy_M_counter.cls ≠ "java/lang/invoke/MethodHandle" ∧ zy_M_counter.cls ≠ "java/lang/invoke/VarHandle" ∧ (parseMethodDescriptor zy_M_counter.desc).map (fun d => d.parameters.length) = some 1 := by decide +kernel
end
section
/-! helpers of this proof: pure words for what the machine computes; branches; a call on cells of a world, laid back in their places -/
def zq_bz (x : Int32) : Prop := x = 0 ∨ x = 1
theorem zq_bzn {x : Int32} (h : zq_bz x) : narrow .boolean (.int x) = .int x := by
  rcases h with rfl | rfl <;> rfl
theorem zq_bzf {x : Int32} (h : zq_bz x) : fits .boolean (.int x) = true := by
  rcases h with rfl | rfl <;> rfl
theorem zq_it {c A B : Prop} [Decidable c] (hc : c) (h : if c then A else B) : A := by
  rw [if_pos hc] at h
  exact h
theorem zq_if {c A B : Prop} [Decidable c] (hc : ¬ c) (h : if c then A else B) : B := by
  rw [if_neg hc] at h
  exact h
theorem zq_in {i : Int32} {n : Nat} (h : decide (¬ (i < 0 ∨ n ≤ i.toNatClampNeg)) = true) : vp_in i n := by
  unfold vp_in
  exact of_decide_eq_true h
theorem zq_lc_eq {x y : Int64} : lg_cmp x y = 0 ↔ x = y := by
  unfold lg_cmp
  by_cases h1 : x > y
  · rw [if_pos h1]
    refine ⟨fun h => absurd h (by decide), fun h => ?_⟩
    rw [h] at h1
    exact absurd h1 (by rw [gt_iff_lt, Int64.lt_iff_toInt_lt]; omega)
  · rw [if_neg h1]
    by_cases h2 : x = y
    · rw [if_pos h2]; exact ⟨fun _ => h2, fun _ => rfl⟩
    · rw [if_neg h2]; exact ⟨fun h => absurd h (by decide), fun h => absurd h h2⟩
theorem zq_lc_gt {x y : Int64} : 0 < lg_cmp x y ↔ y < x := by
  unfold lg_cmp
  by_cases h1 : x > y
  · rw [if_pos h1]; exact ⟨fun _ => h1, fun _ => by decide⟩
  · rw [if_neg h1]
    by_cases h2 : x = y
    · rw [if_pos h2]; exact ⟨fun h => absurd h (by decide), fun h => absurd h h1⟩
    · rw [if_neg h2]; exact ⟨fun h => absurd h (by decide), fun h => absurd h h1⟩
theorem zq_lc_le {x y : Int64} : lg_cmp x y ≤ 0 ↔ x ≤ y := by
  have e : x ≤ y ↔ ¬ y < x := by rw [Int64.le_iff_toInt_le, Int64.lt_iff_toInt_lt]; omega
  have e2 : lg_cmp x y ≤ 0 ↔ ¬ 0 < lg_cmp x y := by
    rw [Int32.le_iff_toInt_le, Int32.lt_iff_toInt_lt]; omega
  rw [e, e2, zq_lc_gt]
theorem zq_lc_ge {x y : Int64} : 0 ≤ lg_cmp x y ↔ y ≤ x := lg_cmp_ge x y
theorem zq_lc_lt {x y : Int64} : lg_cmp x y < 0 ↔ x < y := by
  have e : x < y ↔ ¬ y ≤ x := by rw [Int64.le_iff_toInt_le, Int64.lt_iff_toInt_lt]; omega
  have e2 : lg_cmp x y < 0 ↔ ¬ 0 ≤ lg_cmp x y := by
    rw [Int32.le_iff_toInt_le, Int32.lt_iff_toInt_lt]; omega
  rw [e, e2, zq_lc_ge]
def zq_j_i2l (x : Int32) : Int64 := x.toInt64
def zq_j_l2i (x : Int64) : Int32 := x.toInt32
def zq_j_i2b (x : Int32) : Int32 := x.toInt8.toInt32
def zq_j_i2s (x : Int32) : Int32 := x.toInt16.toInt32
def zq_j_i2c (x : Int32) : Int32 := (x.toUInt32 % 65536).toInt32
def zq_j_iushr (x y : Int32) : Int32 := (x.toUInt32 >>> (y.toUInt32 &&& Int32.toUInt32 31)).toInt32
def zq_j_lushr (x : Int64) (y : Int32) : Int64 := (x.toUInt64 >>> (y.toInt64.toUInt64 &&& Int64.toUInt64 63)).toInt64
def zq_j_lshl (x : Int64) (y : Int32) : Int64 := x <<< (y.toInt64 &&& 63)
def zq_j_lshr (x : Int64) (y : Int32) : Int64 := x >>> (y.toInt64 &&& 63)
-- cells laid into a world, at their places
def zq_put : va_W → List Nat → va_W → va_W
  | w, [], _ => w
  | w, _ :: _, [] => w
  | w, i :: is, x :: xs => zq_put (w.set i x) is xs
theorem zq_put_fst : ∀ (is : List Nat) (w w1 : va_W), is.map (fun i => (w[i]?).map Prod.fst) = w1.map (fun q => some q.1) → (zq_put w is w1).map Prod.fst = w.map Prod.fst := by
  intro is
  induction is with
  | nil => intro w w1 _; rw [zq_put]
  | cons i is ih =>
    intro w w1 h
    cases w1 with
    | nil => rw [zq_put]
    | cons x xs =>
      simp only [List.map_cons, List.cons.injEq] at h
      obtain ⟨h1, h2⟩ := h
      have hset : (w.set i x).map Prod.fst = w.map Prod.fst := by
        apply List.ext_getElem?
        intro k
        rw [List.getElem?_map, List.getElem?_map, List.getElem?_set]
        by_cases e : i = k
        · subst e
          rw [if_pos rfl]
          by_cases hlt : i < w.length
          · rw [if_pos hlt, h1]; rfl
          · rw [if_neg hlt, List.getElem?_eq_none (by omega)]
        · rw [if_neg e]
      rw [zq_put, ih (w.set i x) xs ?_, hset]
      rw [← h2]
      apply List.map_congr_left
      intro k _
      rw [← List.getElem?_map, ← List.getElem?_map, hset]
theorem zq_D_fst {A : Nat → Prop} {w w' : va_W} (h : w'.map Prod.fst = w.map Prod.fst) (hD : va_D A w) : va_D A w' := by
  have key : ∀ (k : Nat) (q : Nat × va_E), w'[k]? = some q → ∃ q0, w[k]? = some q0 ∧ q0.1 = q.1 := by
    intro k q hq
    have h1 : (w'.map Prod.fst)[k]? = some q.1 := by rw [List.getElem?_map, hq]; rfl
    rw [h, List.getElem?_map] at h1
    cases hw : w[k]? with
    | none => rw [hw] at h1; cases h1
    | some q0 => rw [hw] at h1; exact ⟨q0, rfl, Option.some.inj h1⟩
  refine ⟨fun i j p q hi hj e => ?_, fun k q hk => ?_⟩
  · obtain ⟨p0, a1, a2⟩ := key i p hi
    obtain ⟨q0, b1, b2⟩ := key j q hj
    exact hD.1 i j p0 q0 a1 b1 (by rw [a2, b2]; exact e)
  · obtain ⟨q0, b1, b2⟩ := key k q hk
    rw [← b2]
    exact hD.2 k q0 b1
theorem zq_put_P {D : va_G} {cl : List vw_C} {H1 : Heap} : ∀ (is : List Nat) (w w1 : va_W), is.length ≤ w1.length → (∀ (k : Nat) (q : Nat × va_E), w[k]? = some q → k ∉ is → va_at D cl q H1) → (∀ (k : Nat) (q : Nat × va_E), w1[k]? = some q → va_at D cl q H1) → va_P D cl (zq_put w is w1) H1 := by
  intro is
  induction is with
  | nil => intro w w1 _ h1 _ k q hq; rw [zq_put] at hq; exact h1 k q hq (by simp)
  | cons i is ih =>
    intro w w1 hlen h1 h2
    cases w1 with
    | nil => simp at hlen
    | cons x xs =>
      rw [zq_put]
      refine ih (w.set i x) xs (by simpa using hlen) ?_ (fun k q hq => h2 (k + 1) q (by simpa using hq))
      intro k q hq hk
      rw [List.getElem?_set] at hq
      by_cases e : i = k
      · rw [if_pos e] at hq
        by_cases hlt : i < w.length
        · rw [if_pos hlt] at hq
          cases hq
          exact h2 0 x (by simp)
        · rw [if_neg hlt] at hq; cases hq
      · rw [if_neg e] at hq
        exact h1 k q hq (by simp [hk]; exact fun z => e z.symm)
/-- behind a call: the callee's cells, changed, stand in their places; the rest is as it was -/
theorem zq_jn {A0 : Nat → Prop} {D : va_G} {cl : List vw_C} {ws wc w1 : va_W} {H H1 : Heap} (hP : va_P D cl ws H) (hD : va_D A0 ws) (isC : List Nat) (hC : isC.map (fun i => ws[i]?) = wc.map some)
    (hk : ∀ q : Nat, q < H.size → ¬ va_A wc H.size q → H1[q]? = H[q]?) (hP1 : va_P D cl w1 H1) (ha : w1.map Prod.fst = wc.map Prod.fst) : va_P D cl (zq_put ws isC w1) H1 ∧ va_D A0 (zq_put ws isC w1) := by
  have hlen : isC.length = wc.length := by
    have := congrArg List.length hC
    simpa using this
  have hlen1 : w1.length = wc.length := by
    have := congrArg List.length ha
    simpa using this
  refine ⟨zq_put_P isC ws w1 (by omega) ?_ hP1, zq_D_fst (zq_put_fst isC ws w1 ?_) hD⟩
  · intro k q hq hkn
    have h0 := hP k q hq
    refine h0.kept (hk q.1 h0.lt ?_)
    rintro (⟨j, e, hj⟩ | h)
    · have h1 : (isC.map (fun i => ws[i]?))[j]? = some (some (q.1, e)) := by rw [hC, List.getElem?_map, hj]; rfl
      rw [List.getElem?_map] at h1
      cases hi : isC[j]? with
      | none => rw [hi] at h1; cases h1
      | some i =>
        rw [hi] at h1
        have h2 : ws[i]? = some (q.1, e) := Option.some.inj h1
        have h3 := hD.1 i k _ _ h2 hq rfl
        exact hkn (h3 ▸ List.mem_of_getElem? hi)
    · exact absurd h0.lt (by omega)
  · have h1 : isC.map (fun i => (ws[i]?).map Prod.fst) = (isC.map (fun i => ws[i]?)).map (fun o => o.map Prod.fst) := by rw [List.map_map]; rfl
    have h2 : w1.map (fun q => some q.1) = (w1.map Prod.fst).map some := by rw [List.map_map]; rfl
    rw [h1, h2, hC, ha, List.map_map, List.map_map]
    rfl
end
section
/-! the forms of the contracts: a method on cells w that it may change but neither makes nor moves; PF says of the answer and of the cells behind it what holds -/
def zq_isN : Cond → Bool
  | .fieldLinkNest .. => true
  | .methodLinkNest .. => true
  | _ => false
theorem zq_isN_on {w : Cond} (h : zq_isN w = true) : w.onTables = true := by
  cases w <;> first | rfl | cases h
theorem zq_nwW {w : Cond} {s U : State} (hw : zq_isN w = true) (hW : s.WarmedH U.vm) (h : va_Nw w s) : va_Nw w U := by
  cases w <;> first | exact va_Nw.warmF hW h | exact va_Nw.warmM hW h | cases hw
theorem zq_nws_ok : ∀ w ∈ zq_nws, zq_isN w = true := by decide +kernel
abbrev zq_tys (kT : Nat → ClassId) : List (ClassId × FieldType) := [(kT 0, .int), (kT 1, .long), (kT 2, .boolean), (kT 3, .byte)]
/-- what the tables give everywhere: classes, array classes, links to private members of nest mates -/
def zq_EV (D : va_G) (kT : Nat → ClassId) (U : State) : Prop := va_K D vwCl (zq_tys kT) U ∧ (∀ w ∈ zq_nws, va_Nw w U) ∧ ∀ x ∈ zq_strs, ∃ a, vk_R x.1 x.2.1 x.2.2 a U
theorem zq_EV.warm {D : va_G} {kT : Nat → ClassId} {s U : State} (hW : s.WarmedH U.vm) (h : zq_EV D kT s) : zq_EV D kT U :=
  ⟨va_K.moved hW.alike h.1, fun w hw => zq_nwW (zq_nws_ok w hw) hW (h.2.1 w hw), fun x hx => (h.2.2 x hx).elim fun a ha => ⟨a, vk_R.warm hW ha⟩⟩
theorem zq_EV.calling {D : va_G} {kT : Nat → ClassId} {U : State} {g : JFrame} {mk : MethodId} {a : Array Value} (h : zq_EV D kT U) : zq_EV D kT (U.calling g mk a) :=
  ⟨va_K.moved (u := U) (U := U.calling g mk a) (Vm.Alike.refl U.vm) h.1, fun w hw => va_Nw.same (u := U) (U := U.calling g mk a) (zq_isN_on (zq_nws_ok w hw)) rfl (h.2.1 w hw), fun x hx => (h.2.2 x hx).elim fun y hy => ⟨y, vk_R.same (u := U) (U := U.calling g mk a) rfl hy⟩⟩
theorem zq_EV.nw {D : va_G} {kT : Nat → ClassId} {U : State} (h : zq_EV D kT U) {w : Cond} (hw : w ∈ zq_nws) {a : Array Value} : w.before a U = true := va_Nw.use (zq_isN_on (zq_nws_ok w hw)) (h.2.1 w hw)
def zq_CP (D : va_G) (kT : Nat → ClassId) (sz : Nat) (w : va_W) (U : State) : Prop := U.heap.size = sz ∧ va_P D vwCl w U.heap ∧ zq_EV D kT U ∧ va_D (fun _ => True) w
theorem zq_CP.blind {D : va_G} {kT : Nat → ClassId} {sz : Nat} {w : va_W} {av : List Value} : FrameBlind (va_Pc av (zq_CP D kT sz w)) := by
  intro a U g mk q
  obtain ⟨q0, q1, qP, qE, qD⟩ := q
  exact ⟨q0, q1, qP, qE.calling, qD⟩
def zq_WB (D : va_G) (adl : List Nat) (w' : va_W) (t : State) : Prop := va_P D vwCl w' t.heap ∧ w'.map Prod.fst = adl
theorem zq_pre {D : va_G} {kT : Nat → ClassId} {w wc : va_W} {A : Nat → Prop} {s : State} {H : Heap} {av : List Value} (hE : zq_EV D kT s) (hP : va_P D vwCl w H) (hD : va_D A w) (isC : List Nat) (hC : isC.map (fun i => w[i]?) = wc.map some) (hnd : va_nd isC = true) :
    ∀ U : State, U.heap = H → s.WarmedH U.vm → va_Pc av (zq_CP D kT H.size wc) av.toArray U := by
  intro U hU hW
  have hf : isC.filterMap (fun i => w[i]?) = wc := by
    have h1 : isC.filterMap (fun i => w[i]?) = (isC.map (fun i => w[i]?)).filterMap id := by rw [List.filterMap_map]; rfl
    rw [h1, hC]
    simp
  refine ⟨rfl, by rw [hU], by rw [hU]; exact hP.sub isC hf, hE.warm hW, (hD.sub isC hnd hC).weaken (fun _ _ _ _ => trivial)⟩

def zq_Mi (l : Launch) (y : MethodName) (ws : List Cond) (rm : Room) (D : va_G) (kT : Nat → ClassId) (av : List Value) (w : va_W) (PF : Int32 → va_W → Prop) : Prop := ∀ sz : Nat, Met l y ws rm (va_Pc av (zq_CP D kT sz w)) (va_Qi PF (zq_WB D (w.map Prod.fst)) (va_A w sz)) 0 0 (va_A w sz)
theorem zq_Mi_of {l : Launch} {y : MethodName} {ws : List Cond} {rm : Room} {D : va_G} {kT : Nat → ClassId} {av : List Value} {w : va_W} {PF : Int32 → va_W → Prop} {cc : ByteArray} {maxL : Nat} {own : String}
    (hy : plainName y.cls = true) (hw : ws = Cond.code y cc maxL (some .int) :: zq_W) (ho : y.cls = own) (hav : (lg_sl av).length ≤ maxL)
    (body : ∀ (p : Program) (e : Env) (s : State) (m : MethodId) (AV : Array Value) (below : List Frame) (meth : Method) (c : Code) (A : Nat → Prop) (QQ : State → Prop) (H : Heap) (locs : List Loc) (ls : Array Slot),
      p.tables.exec = Jvm.exec → c.code = cc → c.maxLocals = maxL → s.vm.findClass own = some m.cls → (∀ w ∈ zq_W, w.before AV s = true) → zq_EV D kT s → (∀ q : Nat, s.heap.size ≤ q → A q) →
      (∀ (r : Int32) (w' : va_W) (H : Heap) (locs : List Loc) (pc : Nat) (ls : Array Slot), PF r w' → va_P D vwCl w' H → w'.map Prod.fst = w.map Prod.fst → va_S A s.heap H locs → decode cc pc = .ok (.ireturn, 1) → W p l e rm s m AV below meth c H locs 0 0 QQ (F0 m pc ls [.int r])) →
      va_P D vwCl w H → va_D A w → va_S A s.heap H locs → lv_has ls maxL (lv_args 0 av) → W p l e rm s m AV below meth c H locs 0 0 QQ (F0 m 0 ls [])) : zq_Mi l y ws rm D kT av w PF := by
  intro sz
  refine Met.ofW (cc := cc) (maxL := maxL) (ret := (some .int)) hy hw ?_
  intro p e s m args below meth c s₁ B hml hv
  obtain ⟨rfl, hsz, hP, hE, hD0⟩ := hv
  subst hsz
  have hr := B.returns
  have hlocks := B.notSynchronized
  rw [lg_entry_eq]
  refine body p e s m _ below meth c (va_A w s.heap.size) _ s.heap [] _ B.exec B.bytes hml (by rw [← ho]; exact findClass_of_methodNamed B.named) (fun w h => atoms_spec (ws := ws) B.pre w (by rw [hw]; exact List.mem_cons_of_mem _ h)) hE (fun q h => Or.inr h) ?_ hP hD0.self va_S.rf (lv_entry av hav)
  intro r w' H locs pc ls hpf hP' ha hS hd
  exact W.iret B.exec B.bytes hr (fun t ht hW => ⟨⟨r, w', rfl, hpf, by rw [ht]; exact hP', ha⟩, hS.F ht⟩) hS.2.2 hd
theorem zq_Mz_of {l : Launch} {y : MethodName} {ws : List Cond} {rm : Room} {D : va_G} {kT : Nat → ClassId} {av : List Value} {w : va_W} {PF : Int32 → va_W → Prop} {cc : ByteArray} {maxL : Nat} {own : String}
    (hy : plainName y.cls = true) (hw : ws = Cond.code y cc maxL (some .boolean) :: zq_W) (ho : y.cls = own) (hav : (lg_sl av).length ≤ maxL)
    (body : ∀ (p : Program) (e : Env) (s : State) (m : MethodId) (AV : Array Value) (below : List Frame) (meth : Method) (c : Code) (A : Nat → Prop) (QQ : State → Prop) (H : Heap) (locs : List Loc) (ls : Array Slot),
      p.tables.exec = Jvm.exec → c.code = cc → c.maxLocals = maxL → s.vm.findClass own = some m.cls → (∀ w ∈ zq_W, w.before AV s = true) → zq_EV D kT s → (∀ q : Nat, s.heap.size ≤ q → A q) →
      (∀ (r : Int32) (_ : narrow .boolean (.int r) = .int r) (w' : va_W) (H : Heap) (locs : List Loc) (pc : Nat) (ls : Array Slot), PF r w' → va_P D vwCl w' H → w'.map Prod.fst = w.map Prod.fst → va_S A s.heap H locs → decode cc pc = .ok (.ireturn, 1) → W p l e rm s m AV below meth c H locs 0 0 QQ (F0 m pc ls [.int r])) →
      va_P D vwCl w H → va_D A w → va_S A s.heap H locs → lv_has ls maxL (lv_args 0 av) → W p l e rm s m AV below meth c H locs 0 0 QQ (F0 m 0 ls [])) : zq_Mi l y ws rm D kT av w PF := by
  intro sz
  refine Met.ofW (cc := cc) (maxL := maxL) (ret := (some .boolean)) hy hw ?_
  intro p e s m args below meth c s₁ B hml hv
  obtain ⟨rfl, hsz, hP, hE, hD0⟩ := hv
  subst hsz
  have hr := B.returns
  have hlocks := B.notSynchronized
  rw [lg_entry_eq]
  refine body p e s m _ below meth c (va_A w s.heap.size) _ s.heap [] _ B.exec B.bytes hml (by rw [← ho]; exact findClass_of_methodNamed B.named) (fun w h => atoms_spec (ws := ws) B.pre w (by rw [hw]; exact List.mem_cons_of_mem _ h)) hE (fun q h => Or.inr h) ?_ hP hD0.self va_S.rf (lv_entry av hav)
  intro r hn w' H locs pc ls hpf hP' ha hS hd
  exact W.zret B.exec B.bytes hr hn (fun t ht hW => ⟨⟨r, w', rfl, hpf, by rw [ht]; exact hP', ha⟩, hS.F ht⟩) hS.2.2 hd
theorem zq_c_Vi {p : Program} {l : Launch} {e : Env} {R : Room} {s : State} {m : MethodId} {AV : Array Value} {below : List Frame} {meth : Method} {c : Code} {H : Heap} {locs : List Loc} {cells slots : Nat} {Q : State → Prop} {y : MethodName} {wsY : List Cond} {rmY : Room} {bytes cc : ByteArray} {maxL nL n index pc : Nat} {ret : Option FieldType} {Ts : List Cond} {own C : String} {b : Addr} {As rest st0 : List Value} {ls : Array Slot} {D : va_G} {kT : Nat → ClassId} {w wc : va_W} {A : Nat → Prop} {PF : Int32 → va_W → Prop}
    (S : CallFix p m c cc nL s AV Ts own) (hM : zq_Mi l y wsY rmY D kT (.ref b :: As) wc PF) (cw : CallW R s AV own C index y bytes maxL ret wsY rmY 0 0 n) (hE : zq_EV D kT s) (hP : va_P D vwCl w H) (hD : va_D A w) (hS : va_S A s.heap H locs) (hA : ∀ q : Nat, s.heap.size ≤ q → A q)
    (isC : List Nat) (hC : isC.map (fun i => w[i]?) = wc.map some) (hnd : va_nd isC = true) (q0 : Nat) {ci : Nat} {fs : List Value} {qc : vw_C} (hr0 : wc[q0]? = some (b, .inr (ci, fs))) (hcl : vwCl[ci]? = some qc) (hqc : qc.1 = C) (hn : As.length = n) (hsize : ls.size = nL) (hroom : (rest.map fun v => v.category).sum ≤ 8) (hst : st0 = As.reverse ++ .ref b :: rest) (hdg : decode cc pc = .ok (.invokevirtual index, 3)) (hf : cells + 0 ≤ R.cells ∧ slots + 0 ≤ R.slots)
    (kk : ∀ (r : Int32) (w1 : va_W) (H1 : Heap) (locs1 : List Loc), PF r w1 → va_P D vwCl (zq_put w isC w1) H1 → va_D A (zq_put w isC w1) → va_S A s.heap H1 locs1 → W p l e R s m AV below meth c H1 locs1 cells slots Q (F0 m (pc + 3) ls (.int r :: rest))) :
    W p l e R s m AV below meth c H locs cells slots Q (F0 m pc ls st0) := by
  subst hst
  have hf2 : isC.filterMap (fun i => w[i]?) = wc := by
    have h1 : isC.filterMap (fun i => w[i]?) = (isC.map (fun i => w[i]?)).filterMap id := by rw [List.filterMap_map]; rfl
    rw [h1, hC]
    simp
  have hPc : va_P D vwCl wc H := hP.sub isC hf2
  have hFc := va_free (wc := wc) hD hS hA isC hC
  refine va_calli (va_runV (rest := rest) S (hM H.size) cw ⟨zq_CP.blind, by rw [← hqc]; exact va_recv (hE.1) hPc hcl hr0, zq_pre hE hP hD isC hC hnd⟩ rfl hn hsize rfl (lv_room hroom) hdg hf) hS (fun q _ h => hFc q h) hFc (fun r w1 t H1 locs1 ht hvm hw hB hz1 hk1 hS1 => ?_)
  obtain ⟨hP1, ha⟩ := hB
  rw [ht] at hP1
  obtain ⟨hP2, hD2⟩ := zq_jn hP hD isC hC hk1 hP1 ha
  exact kk r w1 H1 locs1 hw hP2 hD2 hS1
theorem zq_c_Si {p : Program} {l : Launch} {e : Env} {R : Room} {s : State} {m : MethodId} {AV : Array Value} {below : List Frame} {meth : Method} {c : Code} {H : Heap} {locs : List Loc} {cells slots : Nat} {Q : State → Prop} {y : MethodName} {wsY : List Cond} {rmY : Room} {bytes cc : ByteArray} {maxL nL n index pc : Nat} {ret : Option FieldType} {Ts : List Cond} {own : String} {As rest st0 : List Value} {ls : Array Slot} {D : va_G} {kT : Nat → ClassId} {w wc : va_W} {A : Nat → Prop} {PF : Int32 → va_W → Prop}
    (S : CallFix p m c cc nL s AV Ts own) (hM : zq_Mi l y wsY rmY D kT As wc PF) (cw : CallB R s AV own index y bytes maxL ret wsY rmY 0 0 n ∧ (Cond.static y).before AV s = true) (hE : zq_EV D kT s) (hP : va_P D vwCl w H) (hD : va_D A w) (hS : va_S A s.heap H locs) (hA : ∀ q : Nat, s.heap.size ≤ q → A q)
    (isC : List Nat) (hC : isC.map (fun i => w[i]?) = wc.map some) (hnd : va_nd isC = true) (hn : As.length = n) (hsize : ls.size = nL) (hroom : (rest.map fun v => v.category).sum ≤ 8) (hst : st0 = As.reverse ++ rest) (hdg : decode cc pc = .ok (.invokestatic index, 3)) (hf : cells + 0 ≤ R.cells ∧ slots + 0 ≤ R.slots)
    (kk : ∀ (r : Int32) (w1 : va_W) (H1 : Heap) (locs1 : List Loc), PF r w1 → va_P D vwCl (zq_put w isC w1) H1 → va_D A (zq_put w isC w1) → va_S A s.heap H1 locs1 → W p l e R s m AV below meth c H1 locs1 cells slots Q (F0 m (pc + 3) ls (.int r :: rest))) :
    W p l e R s m AV below meth c H locs cells slots Q (F0 m pc ls st0) := by
  subst hst
  have hf2 : isC.filterMap (fun i => w[i]?) = wc := by
    have h1 : isC.filterMap (fun i => w[i]?) = (isC.map (fun i => w[i]?)).filterMap id := by rw [List.filterMap_map]; rfl
    rw [h1, hC]
    simp
  have hPc : va_P D vwCl wc H := hP.sub isC hf2
  have hFc := va_free (wc := wc) hD hS hA isC hC
  refine va_calli (va_runS (rest := rest) S (hM H.size) cw ⟨zq_CP.blind, zq_pre hE hP hD isC hC hnd⟩ rfl hn hsize rfl (lv_room hroom) hdg hf) hS (fun q _ h => hFc q h) hFc (fun r w1 t H1 locs1 ht hvm hw hB hz1 hk1 hS1 => ?_)
  obtain ⟨hP1, ha⟩ := hB
  rw [ht] at hP1
  obtain ⟨hP2, hD2⟩ := zq_jn hP hD isC hC hk1 hP1 ha
  exact kk r w1 H1 locs1 hw hP2 hD2 hS1
def zq_Ml (l : Launch) (y : MethodName) (ws : List Cond) (rm : Room) (D : va_G) (kT : Nat → ClassId) (av : List Value) (w : va_W) (PF : Int64 → va_W → Prop) : Prop := ∀ sz : Nat, Met l y ws rm (va_Pc av (zq_CP D kT sz w)) (va_Ql PF (zq_WB D (w.map Prod.fst)) (va_A w sz)) 0 0 (va_A w sz)
theorem zq_Ml_of {l : Launch} {y : MethodName} {ws : List Cond} {rm : Room} {D : va_G} {kT : Nat → ClassId} {av : List Value} {w : va_W} {PF : Int64 → va_W → Prop} {cc : ByteArray} {maxL : Nat} {own : String}
    (hy : plainName y.cls = true) (hw : ws = Cond.code y cc maxL (some .long) :: zq_W) (ho : y.cls = own) (hav : (lg_sl av).length ≤ maxL)
    (body : ∀ (p : Program) (e : Env) (s : State) (m : MethodId) (AV : Array Value) (below : List Frame) (meth : Method) (c : Code) (A : Nat → Prop) (QQ : State → Prop) (H : Heap) (locs : List Loc) (ls : Array Slot),
      p.tables.exec = Jvm.exec → c.code = cc → c.maxLocals = maxL → s.vm.findClass own = some m.cls → (∀ w ∈ zq_W, w.before AV s = true) → zq_EV D kT s → (∀ q : Nat, s.heap.size ≤ q → A q) →
      (∀ (r : Int64) (w' : va_W) (H : Heap) (locs : List Loc) (pc : Nat) (ls : Array Slot), PF r w' → va_P D vwCl w' H → w'.map Prod.fst = w.map Prod.fst → va_S A s.heap H locs → decode cc pc = .ok (.lreturn, 1) → W p l e rm s m AV below meth c H locs 0 0 QQ (F0 m pc ls [.long r])) →
      va_P D vwCl w H → va_D A w → va_S A s.heap H locs → lv_has ls maxL (lv_args 0 av) → W p l e rm s m AV below meth c H locs 0 0 QQ (F0 m 0 ls [])) : zq_Ml l y ws rm D kT av w PF := by
  intro sz
  refine Met.ofW (cc := cc) (maxL := maxL) (ret := (some .long)) hy hw ?_
  intro p e s m args below meth c s₁ B hml hv
  obtain ⟨rfl, hsz, hP, hE, hD0⟩ := hv
  subst hsz
  have hr := B.returns
  have hlocks := B.notSynchronized
  rw [lg_entry_eq]
  refine body p e s m _ below meth c (va_A w s.heap.size) _ s.heap [] _ B.exec B.bytes hml (by rw [← ho]; exact findClass_of_methodNamed B.named) (fun w h => atoms_spec (ws := ws) B.pre w (by rw [hw]; exact List.mem_cons_of_mem _ h)) hE (fun q h => Or.inr h) ?_ hP hD0.self va_S.rf (lv_entry av hav)
  intro r w' H locs pc ls hpf hP' ha hS hd
  exact W.lret B.exec B.bytes hr (fun t ht hW => ⟨⟨r, w', rfl, hpf, by rw [ht]; exact hP', ha⟩, hS.F ht⟩) hS.2.2 hd
theorem zq_c_Vl {p : Program} {l : Launch} {e : Env} {R : Room} {s : State} {m : MethodId} {AV : Array Value} {below : List Frame} {meth : Method} {c : Code} {H : Heap} {locs : List Loc} {cells slots : Nat} {Q : State → Prop} {y : MethodName} {wsY : List Cond} {rmY : Room} {bytes cc : ByteArray} {maxL nL n index pc : Nat} {ret : Option FieldType} {Ts : List Cond} {own C : String} {b : Addr} {As rest st0 : List Value} {ls : Array Slot} {D : va_G} {kT : Nat → ClassId} {w wc : va_W} {A : Nat → Prop} {PF : Int64 → va_W → Prop}
    (S : CallFix p m c cc nL s AV Ts own) (hM : zq_Ml l y wsY rmY D kT (.ref b :: As) wc PF) (cw : CallW R s AV own C index y bytes maxL ret wsY rmY 0 0 n) (hE : zq_EV D kT s) (hP : va_P D vwCl w H) (hD : va_D A w) (hS : va_S A s.heap H locs) (hA : ∀ q : Nat, s.heap.size ≤ q → A q)
    (isC : List Nat) (hC : isC.map (fun i => w[i]?) = wc.map some) (hnd : va_nd isC = true) (q0 : Nat) {ci : Nat} {fs : List Value} {qc : vw_C} (hr0 : wc[q0]? = some (b, .inr (ci, fs))) (hcl : vwCl[ci]? = some qc) (hqc : qc.1 = C) (hn : As.length = n) (hsize : ls.size = nL) (hroom : (rest.map fun v => v.category).sum ≤ 8) (hst : st0 = As.reverse ++ .ref b :: rest) (hdg : decode cc pc = .ok (.invokevirtual index, 3)) (hf : cells + 0 ≤ R.cells ∧ slots + 0 ≤ R.slots)
    (kk : ∀ (r : Int64) (w1 : va_W) (H1 : Heap) (locs1 : List Loc), PF r w1 → va_P D vwCl (zq_put w isC w1) H1 → va_D A (zq_put w isC w1) → va_S A s.heap H1 locs1 → W p l e R s m AV below meth c H1 locs1 cells slots Q (F0 m (pc + 3) ls (.long r :: rest))) :
    W p l e R s m AV below meth c H locs cells slots Q (F0 m pc ls st0) := by
  subst hst
  have hf2 : isC.filterMap (fun i => w[i]?) = wc := by
    have h1 : isC.filterMap (fun i => w[i]?) = (isC.map (fun i => w[i]?)).filterMap id := by rw [List.filterMap_map]; rfl
    rw [h1, hC]
    simp
  have hPc : va_P D vwCl wc H := hP.sub isC hf2
  have hFc := va_free (wc := wc) hD hS hA isC hC
  refine va_calll (va_runV (rest := rest) S (hM H.size) cw ⟨zq_CP.blind, by rw [← hqc]; exact va_recv (hE.1) hPc hcl hr0, zq_pre hE hP hD isC hC hnd⟩ rfl hn hsize rfl (lv_room hroom) hdg hf) hS (fun q _ h => hFc q h) hFc (fun r w1 t H1 locs1 ht hvm hw hB hz1 hk1 hS1 => ?_)
  obtain ⟨hP1, ha⟩ := hB
  rw [ht] at hP1
  obtain ⟨hP2, hD2⟩ := zq_jn hP hD isC hC hk1 hP1 ha
  exact kk r w1 H1 locs1 hw hP2 hD2 hS1
theorem zq_c_Sl {p : Program} {l : Launch} {e : Env} {R : Room} {s : State} {m : MethodId} {AV : Array Value} {below : List Frame} {meth : Method} {c : Code} {H : Heap} {locs : List Loc} {cells slots : Nat} {Q : State → Prop} {y : MethodName} {wsY : List Cond} {rmY : Room} {bytes cc : ByteArray} {maxL nL n index pc : Nat} {ret : Option FieldType} {Ts : List Cond} {own : String} {As rest st0 : List Value} {ls : Array Slot} {D : va_G} {kT : Nat → ClassId} {w wc : va_W} {A : Nat → Prop} {PF : Int64 → va_W → Prop}
    (S : CallFix p m c cc nL s AV Ts own) (hM : zq_Ml l y wsY rmY D kT As wc PF) (cw : CallB R s AV own index y bytes maxL ret wsY rmY 0 0 n ∧ (Cond.static y).before AV s = true) (hE : zq_EV D kT s) (hP : va_P D vwCl w H) (hD : va_D A w) (hS : va_S A s.heap H locs) (hA : ∀ q : Nat, s.heap.size ≤ q → A q)
    (isC : List Nat) (hC : isC.map (fun i => w[i]?) = wc.map some) (hnd : va_nd isC = true) (hn : As.length = n) (hsize : ls.size = nL) (hroom : (rest.map fun v => v.category).sum ≤ 8) (hst : st0 = As.reverse ++ rest) (hdg : decode cc pc = .ok (.invokestatic index, 3)) (hf : cells + 0 ≤ R.cells ∧ slots + 0 ≤ R.slots)
    (kk : ∀ (r : Int64) (w1 : va_W) (H1 : Heap) (locs1 : List Loc), PF r w1 → va_P D vwCl (zq_put w isC w1) H1 → va_D A (zq_put w isC w1) → va_S A s.heap H1 locs1 → W p l e R s m AV below meth c H1 locs1 cells slots Q (F0 m (pc + 3) ls (.long r :: rest))) :
    W p l e R s m AV below meth c H locs cells slots Q (F0 m pc ls st0) := by
  subst hst
  have hf2 : isC.filterMap (fun i => w[i]?) = wc := by
    have h1 : isC.filterMap (fun i => w[i]?) = (isC.map (fun i => w[i]?)).filterMap id := by rw [List.filterMap_map]; rfl
    rw [h1, hC]
    simp
  have hPc : va_P D vwCl wc H := hP.sub isC hf2
  have hFc := va_free (wc := wc) hD hS hA isC hC
  refine va_calll (va_runS (rest := rest) S (hM H.size) cw ⟨zq_CP.blind, zq_pre hE hP hD isC hC hnd⟩ rfl hn hsize rfl (lv_room hroom) hdg hf) hS (fun q _ h => hFc q h) hFc (fun r w1 t H1 locs1 ht hvm hw hB hz1 hk1 hS1 => ?_)
  obtain ⟨hP1, ha⟩ := hB
  rw [ht] at hP1
  obtain ⟨hP2, hD2⟩ := zq_jn hP hD isC hC hk1 hP1 ha
  exact kk r w1 H1 locs1 hw hP2 hD2 hS1
def zq_Mv (l : Launch) (y : MethodName) (ws : List Cond) (rm : Room) (D : va_G) (kT : Nat → ClassId) (av : List Value) (w : va_W) (PF : va_W → Prop) : Prop := ∀ sz : Nat, Met l y ws rm (va_Pc av (zq_CP D kT sz w)) (va_Qv PF (zq_WB D (w.map Prod.fst)) (va_A w sz)) 0 0 (va_A w sz)
theorem zq_Mv_of {l : Launch} {y : MethodName} {ws : List Cond} {rm : Room} {D : va_G} {kT : Nat → ClassId} {av : List Value} {w : va_W} {PF : va_W → Prop} {cc : ByteArray} {maxL : Nat} {own : String}
    (hy : plainName y.cls = true) (hw : ws = Cond.code y cc maxL none :: zq_W) (ho : y.cls = own) (hav : (lg_sl av).length ≤ maxL)
    (body : ∀ (p : Program) (e : Env) (s : State) (m : MethodId) (AV : Array Value) (below : List Frame) (meth : Method) (c : Code) (A : Nat → Prop) (QQ : State → Prop) (H : Heap) (locs : List Loc) (ls : Array Slot),
      p.tables.exec = Jvm.exec → c.code = cc → c.maxLocals = maxL → s.vm.findClass own = some m.cls → (∀ w ∈ zq_W, w.before AV s = true) → zq_EV D kT s → (∀ q : Nat, s.heap.size ≤ q → A q) →
      (∀ (w' : va_W) (H : Heap) (locs : List Loc) (pc : Nat) (ls : Array Slot), PF w' → va_P D vwCl w' H → w'.map Prod.fst = w.map Prod.fst → va_S A s.heap H locs → decode cc pc = .ok (.return_, 1) → W p l e rm s m AV below meth c H locs 0 0 QQ (F0 m pc ls [])) →
      va_P D vwCl w H → va_D A w → va_S A s.heap H locs → lv_has ls maxL (lv_args 0 av) → W p l e rm s m AV below meth c H locs 0 0 QQ (F0 m 0 ls [])) : zq_Mv l y ws rm D kT av w PF := by
  intro sz
  refine Met.ofW (cc := cc) (maxL := maxL) (ret := none) hy hw ?_
  intro p e s m args below meth c s₁ B hml hv
  obtain ⟨rfl, hsz, hP, hE, hD0⟩ := hv
  subst hsz
  have hr := B.returns
  have hlocks := B.notSynchronized
  rw [lg_entry_eq]
  refine body p e s m _ below meth c (va_A w s.heap.size) _ s.heap [] _ B.exec B.bytes hml (by rw [← ho]; exact findClass_of_methodNamed B.named) (fun w h => atoms_spec (ws := ws) B.pre w (by rw [hw]; exact List.mem_cons_of_mem _ h)) hE (fun q h => Or.inr h) ?_ hP hD0.self va_S.rf (lv_entry av hav)
  intro w' H locs pc ls hpf hP' ha hS hd
  exact W.vret B.exec B.bytes hr (fun t ht hW => ⟨⟨w', rfl, hpf, by rw [ht]; exact hP', ha⟩, hS.F ht⟩) hS.2.2 hd
theorem zq_c_Vv {p : Program} {l : Launch} {e : Env} {R : Room} {s : State} {m : MethodId} {AV : Array Value} {below : List Frame} {meth : Method} {c : Code} {H : Heap} {locs : List Loc} {cells slots : Nat} {Q : State → Prop} {y : MethodName} {wsY : List Cond} {rmY : Room} {bytes cc : ByteArray} {maxL nL n index pc : Nat} {ret : Option FieldType} {Ts : List Cond} {own C : String} {b : Addr} {As rest st0 : List Value} {ls : Array Slot} {D : va_G} {kT : Nat → ClassId} {w wc : va_W} {A : Nat → Prop} {PF : va_W → Prop}
    (S : CallFix p m c cc nL s AV Ts own) (hM : zq_Mv l y wsY rmY D kT (.ref b :: As) wc PF) (cw : CallW R s AV own C index y bytes maxL ret wsY rmY 0 0 n) (hE : zq_EV D kT s) (hP : va_P D vwCl w H) (hD : va_D A w) (hS : va_S A s.heap H locs) (hA : ∀ q : Nat, s.heap.size ≤ q → A q)
    (isC : List Nat) (hC : isC.map (fun i => w[i]?) = wc.map some) (hnd : va_nd isC = true) (q0 : Nat) {ci : Nat} {fs : List Value} {qc : vw_C} (hr0 : wc[q0]? = some (b, .inr (ci, fs))) (hcl : vwCl[ci]? = some qc) (hqc : qc.1 = C) (hn : As.length = n) (hsize : ls.size = nL) (hroom : (rest.map fun v => v.category).sum ≤ 8) (hst : st0 = As.reverse ++ .ref b :: rest) (hdg : decode cc pc = .ok (.invokevirtual index, 3)) (hf : cells + 0 ≤ R.cells ∧ slots + 0 ≤ R.slots)
    (kk : ∀ (w1 : va_W) (H1 : Heap) (locs1 : List Loc), PF w1 → va_P D vwCl (zq_put w isC w1) H1 → va_D A (zq_put w isC w1) → va_S A s.heap H1 locs1 → W p l e R s m AV below meth c H1 locs1 cells slots Q (F0 m (pc + 3) ls (rest))) :
    W p l e R s m AV below meth c H locs cells slots Q (F0 m pc ls st0) := by
  subst hst
  have hf2 : isC.filterMap (fun i => w[i]?) = wc := by
    have h1 : isC.filterMap (fun i => w[i]?) = (isC.map (fun i => w[i]?)).filterMap id := by rw [List.filterMap_map]; rfl
    rw [h1, hC]
    simp
  have hPc : va_P D vwCl wc H := hP.sub isC hf2
  have hFc := va_free (wc := wc) hD hS hA isC hC
  refine va_callv (va_runV (rest := rest) S (hM H.size) cw ⟨zq_CP.blind, by rw [← hqc]; exact va_recv (hE.1) hPc hcl hr0, zq_pre hE hP hD isC hC hnd⟩ rfl hn hsize rfl (lv_room hroom) hdg hf) hS (fun q _ h => hFc q h) hFc (fun w1 t H1 locs1 ht hvm hw hB hz1 hk1 hS1 => ?_)
  obtain ⟨hP1, ha⟩ := hB
  rw [ht] at hP1
  obtain ⟨hP2, hD2⟩ := zq_jn hP hD isC hC hk1 hP1 ha
  exact kk w1 H1 locs1 hw hP2 hD2 hS1
theorem zq_c_Sv {p : Program} {l : Launch} {e : Env} {R : Room} {s : State} {m : MethodId} {AV : Array Value} {below : List Frame} {meth : Method} {c : Code} {H : Heap} {locs : List Loc} {cells slots : Nat} {Q : State → Prop} {y : MethodName} {wsY : List Cond} {rmY : Room} {bytes cc : ByteArray} {maxL nL n index pc : Nat} {ret : Option FieldType} {Ts : List Cond} {own : String} {As rest st0 : List Value} {ls : Array Slot} {D : va_G} {kT : Nat → ClassId} {w wc : va_W} {A : Nat → Prop} {PF : va_W → Prop}
    (S : CallFix p m c cc nL s AV Ts own) (hM : zq_Mv l y wsY rmY D kT As wc PF) (cw : CallB R s AV own index y bytes maxL ret wsY rmY 0 0 n ∧ (Cond.static y).before AV s = true) (hE : zq_EV D kT s) (hP : va_P D vwCl w H) (hD : va_D A w) (hS : va_S A s.heap H locs) (hA : ∀ q : Nat, s.heap.size ≤ q → A q)
    (isC : List Nat) (hC : isC.map (fun i => w[i]?) = wc.map some) (hnd : va_nd isC = true) (hn : As.length = n) (hsize : ls.size = nL) (hroom : (rest.map fun v => v.category).sum ≤ 8) (hst : st0 = As.reverse ++ rest) (hdg : decode cc pc = .ok (.invokestatic index, 3)) (hf : cells + 0 ≤ R.cells ∧ slots + 0 ≤ R.slots)
    (kk : ∀ (w1 : va_W) (H1 : Heap) (locs1 : List Loc), PF w1 → va_P D vwCl (zq_put w isC w1) H1 → va_D A (zq_put w isC w1) → va_S A s.heap H1 locs1 → W p l e R s m AV below meth c H1 locs1 cells slots Q (F0 m (pc + 3) ls (rest))) :
    W p l e R s m AV below meth c H locs cells slots Q (F0 m pc ls st0) := by
  subst hst
  have hf2 : isC.filterMap (fun i => w[i]?) = wc := by
    have h1 : isC.filterMap (fun i => w[i]?) = (isC.map (fun i => w[i]?)).filterMap id := by rw [List.filterMap_map]; rfl
    rw [h1, hC]
    simp
  have hPc : va_P D vwCl wc H := hP.sub isC hf2
  have hFc := va_free (wc := wc) hD hS hA isC hC
  refine va_callv (va_runS (rest := rest) S (hM H.size) cw ⟨zq_CP.blind, zq_pre hE hP hD isC hC hnd⟩ rfl hn hsize rfl (lv_room hroom) hdg hf) hS (fun q _ h => hFc q h) hFc (fun w1 t H1 locs1 ht hvm hw hB hz1 hk1 hS1 => ?_)
  obtain ⟨hP1, ha⟩ := hB
  rw [ht] at hP1
  obtain ⟨hP2, hD2⟩ := zq_jn hP hD isC hC hk1 hP1 ha
  exact kk w1 H1 locs1 hw hP2 hD2 hS1
theorem zq_a_iald {p : Program} {l : Launch} {e : Env} {R : Room} {s : State} {m : MethodId} {AV : Array Value} {below : List Frame} {meth : Method} {c : Code} {H : Heap} {locs : List Loc} {cells slots : Nat} {Q : State → Prop} {cc : ByteArray} {pc : Nat} {ls : Array Slot} {rest : List Value} {D : va_G} {cl : List vw_C} {a : Nat} {tys : List (ClassId × FieldType)} {ws : va_W} (hexec : p.tables.exec = Jvm.exec) (hb : c.code = cc) (hK : va_K D cl tys s) (hP : va_P D cl ws H) (q0 t0 : Nat) {cA : ClassId} {n : Nat} {f : Nat → Int32} (ha : ws[q0]? = some (a, .inl (cA, n, .inl f))) (ht : tys[t0]? = some (cA, .int)) {i : Int32} (hin : vp_in i n) {j : Nat} (hj : i.toNatClampNeg = j) (hdg : decode cc pc = .ok (.iaload, 1))
    (kk : W p l e R s m AV below meth c H locs cells slots Q (F0 m (pc + 1) ls (.int (f j) :: rest))) : W p l e R s m AV below meth c H locs cells slots Q (F0 m pc ls (.int i :: .ref a :: rest)) := by
  subst hj
  exact va_iald hexec hb hK hP q0 t0 ha ht hin hdg kk
theorem zq_a_iast {p : Program} {l : Launch} {e : Env} {R : Room} {s : State} {m : MethodId} {AV : Array Value} {below : List Frame} {meth : Method} {c : Code} {H : Heap} {locs : List Loc} {cells slots : Nat} {Q : State → Prop} {cc : ByteArray} {pc : Nat} {ls : Array Slot} {rest : List Value} {D : va_G} {cl : List vw_C} {A : Nat → Prop} {a : Nat} {tys : List (ClassId × FieldType)} {ws : va_W} {H0 : Heap} (hexec : p.tables.exec = Jvm.exec) (hb : c.code = cc) (hK : va_K D cl tys s) (hP : va_P D cl ws H) (hD : va_D A ws) (hS : va_S A H0 H locs) (q0 t0 : Nat) {cA : ClassId} {n : Nat} {f : Nat → Int32} (ha : ws[q0]? = some (a, .inl (cA, n, .inl f))) (ht : tys[t0]? = some (cA, .int)) {i : Int32} {x : Int32} (hin : vp_in i n) {j : Nat} (hj : i.toNatClampNeg = j) (hdg : decode cc pc = .ok (.iastore, 1))
    (kk : ∀ (H1 : Heap) (locs1 : List Loc), va_P D cl (ws.set q0 (a, .inl (cA, n, .inl (upd f j x)))) H1 → va_D A (ws.set q0 (a, .inl (cA, n, .inl (upd f j x)))) → va_S A H0 H1 locs1 → W p l e R s m AV below meth c H1 locs1 cells slots Q (F0 m (pc + 1) ls rest)) : W p l e R s m AV below meth c H locs cells slots Q (F0 m pc ls (.int x :: .int i :: .ref a :: rest)) := by
  subst hj
  exact va_iast hexec hb hK hP hD hS q0 t0 ha ht hin hdg kk
theorem zq_a_bald {p : Program} {l : Launch} {e : Env} {R : Room} {s : State} {m : MethodId} {AV : Array Value} {below : List Frame} {meth : Method} {c : Code} {H : Heap} {locs : List Loc} {cells slots : Nat} {Q : State → Prop} {cc : ByteArray} {pc : Nat} {ls : Array Slot} {rest : List Value} {D : va_G} {cl : List vw_C} {a : Nat} {tys : List (ClassId × FieldType)} {ws : va_W} (hexec : p.tables.exec = Jvm.exec) (hb : c.code = cc) (hK : va_K D cl tys s) (hP : va_P D cl ws H) (q0 t0 : Nat) {cA : ClassId} {n : Nat} {f : Nat → Int32} (ha : ws[q0]? = some (a, .inl (cA, n, .inl f))) (ht : tys[t0]? = some (cA, .byte)) {i : Int32} (hin : vp_in i n) {j : Nat} (hj : i.toNatClampNeg = j) (hdg : decode cc pc = .ok (.baload, 1))
    (kk : W p l e R s m AV below meth c H locs cells slots Q (F0 m (pc + 1) ls (.int (f j) :: rest))) : W p l e R s m AV below meth c H locs cells slots Q (F0 m pc ls (.int i :: .ref a :: rest)) := by
  subst hj
  exact va_bald hexec hb hK hP q0 t0 ha ht hin hdg kk
theorem zq_a_bast {p : Program} {l : Launch} {e : Env} {R : Room} {s : State} {m : MethodId} {AV : Array Value} {below : List Frame} {meth : Method} {c : Code} {H : Heap} {locs : List Loc} {cells slots : Nat} {Q : State → Prop} {cc : ByteArray} {pc : Nat} {ls : Array Slot} {rest : List Value} {D : va_G} {cl : List vw_C} {A : Nat → Prop} {a : Nat} {tys : List (ClassId × FieldType)} {ws : va_W} {H0 : Heap} (hexec : p.tables.exec = Jvm.exec) (hb : c.code = cc) (hK : va_K D cl tys s) (hP : va_P D cl ws H) (hD : va_D A ws) (hS : va_S A H0 H locs) (q0 t0 : Nat) {cA : ClassId} {n : Nat} {f : Nat → Int32} (ha : ws[q0]? = some (a, .inl (cA, n, .inl f))) (ht : tys[t0]? = some (cA, .byte)) {i : Int32} {x : Int32} (hin : vp_in i n) {j : Nat} (hj : i.toNatClampNeg = j) (hdg : decode cc pc = .ok (.bastore, 1))
    (kk : ∀ (H1 : Heap) (locs1 : List Loc), va_P D cl (ws.set q0 (a, .inl (cA, n, .inl (upd f j (vp_nar .byte x))))) H1 → va_D A (ws.set q0 (a, .inl (cA, n, .inl (upd f j (vp_nar .byte x))))) → va_S A H0 H1 locs1 → W p l e R s m AV below meth c H1 locs1 cells slots Q (F0 m (pc + 1) ls rest)) : W p l e R s m AV below meth c H locs cells slots Q (F0 m pc ls (.int x :: .int i :: .ref a :: rest)) := by
  subst hj
  exact va_bast hexec hb hK hP hD hS q0 t0 ha ht hin hdg kk
theorem zq_a_zald {p : Program} {l : Launch} {e : Env} {R : Room} {s : State} {m : MethodId} {AV : Array Value} {below : List Frame} {meth : Method} {c : Code} {H : Heap} {locs : List Loc} {cells slots : Nat} {Q : State → Prop} {cc : ByteArray} {pc : Nat} {ls : Array Slot} {rest : List Value} {D : va_G} {cl : List vw_C} {a : Nat} {tys : List (ClassId × FieldType)} {ws : va_W} (hexec : p.tables.exec = Jvm.exec) (hb : c.code = cc) (hK : va_K D cl tys s) (hP : va_P D cl ws H) (q0 t0 : Nat) {cA : ClassId} {n : Nat} {f : Nat → Int32} (ha : ws[q0]? = some (a, .inl (cA, n, .inl f))) (ht : tys[t0]? = some (cA, .boolean)) {i : Int32} (hin : vp_in i n) {j : Nat} (hj : i.toNatClampNeg = j) (hdg : decode cc pc = .ok (.baload, 1))
    (kk : W p l e R s m AV below meth c H locs cells slots Q (F0 m (pc + 1) ls (.int (f j) :: rest))) : W p l e R s m AV below meth c H locs cells slots Q (F0 m pc ls (.int i :: .ref a :: rest)) := by
  subst hj
  exact va_zald hexec hb hK hP q0 t0 ha ht hin hdg kk
theorem zq_a_zast {p : Program} {l : Launch} {e : Env} {R : Room} {s : State} {m : MethodId} {AV : Array Value} {below : List Frame} {meth : Method} {c : Code} {H : Heap} {locs : List Loc} {cells slots : Nat} {Q : State → Prop} {cc : ByteArray} {pc : Nat} {ls : Array Slot} {rest : List Value} {D : va_G} {cl : List vw_C} {A : Nat → Prop} {a : Nat} {tys : List (ClassId × FieldType)} {ws : va_W} {H0 : Heap} (hexec : p.tables.exec = Jvm.exec) (hb : c.code = cc) (hK : va_K D cl tys s) (hP : va_P D cl ws H) (hD : va_D A ws) (hS : va_S A H0 H locs) (q0 t0 : Nat) {cA : ClassId} {n : Nat} {f : Nat → Int32} (ha : ws[q0]? = some (a, .inl (cA, n, .inl f))) (ht : tys[t0]? = some (cA, .boolean)) {i : Int32} {x : Int32} (hin : vp_in i n) {j : Nat} (hj : i.toNatClampNeg = j) (hdg : decode cc pc = .ok (.bastore, 1))
    (kk : ∀ (H1 : Heap) (locs1 : List Loc), va_P D cl (ws.set q0 (a, .inl (cA, n, .inl (upd f j (vp_nar .boolean x))))) H1 → va_D A (ws.set q0 (a, .inl (cA, n, .inl (upd f j (vp_nar .boolean x))))) → va_S A H0 H1 locs1 → W p l e R s m AV below meth c H1 locs1 cells slots Q (F0 m (pc + 1) ls rest)) : W p l e R s m AV below meth c H locs cells slots Q (F0 m pc ls (.int x :: .int i :: .ref a :: rest)) := by
  subst hj
  exact va_zast hexec hb hK hP hD hS q0 t0 ha ht hin hdg kk
theorem zq_a_lald {p : Program} {l : Launch} {e : Env} {R : Room} {s : State} {m : MethodId} {AV : Array Value} {below : List Frame} {meth : Method} {c : Code} {H : Heap} {locs : List Loc} {cells slots : Nat} {Q : State → Prop} {cc : ByteArray} {pc : Nat} {ls : Array Slot} {rest : List Value} {D : va_G} {cl : List vw_C} {a : Nat} {tys : List (ClassId × FieldType)} {ws : va_W} (hexec : p.tables.exec = Jvm.exec) (hb : c.code = cc) (hK : va_K D cl tys s) (hP : va_P D cl ws H) (q0 t0 : Nat) {cA : ClassId} {n : Nat} {f : Nat → Int64} (ha : ws[q0]? = some (a, .inl (cA, n, .inr (.inl f)))) (ht : tys[t0]? = some (cA, .long)) {i : Int32} (hin : vp_in i n) {j : Nat} (hj : i.toNatClampNeg = j) (hdg : decode cc pc = .ok (.laload, 1))
    (kk : W p l e R s m AV below meth c H locs cells slots Q (F0 m (pc + 1) ls (.long (f j) :: rest))) : W p l e R s m AV below meth c H locs cells slots Q (F0 m pc ls (.int i :: .ref a :: rest)) := by
  subst hj
  exact va_lald hexec hb hK hP q0 t0 ha ht hin hdg kk
theorem zq_a_last {p : Program} {l : Launch} {e : Env} {R : Room} {s : State} {m : MethodId} {AV : Array Value} {below : List Frame} {meth : Method} {c : Code} {H : Heap} {locs : List Loc} {cells slots : Nat} {Q : State → Prop} {cc : ByteArray} {pc : Nat} {ls : Array Slot} {rest : List Value} {D : va_G} {cl : List vw_C} {A : Nat → Prop} {a : Nat} {tys : List (ClassId × FieldType)} {ws : va_W} {H0 : Heap} (hexec : p.tables.exec = Jvm.exec) (hb : c.code = cc) (hK : va_K D cl tys s) (hP : va_P D cl ws H) (hD : va_D A ws) (hS : va_S A H0 H locs) (q0 t0 : Nat) {cA : ClassId} {n : Nat} {f : Nat → Int64} (ha : ws[q0]? = some (a, .inl (cA, n, .inr (.inl f)))) (ht : tys[t0]? = some (cA, .long)) {i : Int32} {x : Int64} (hin : vp_in i n) {j : Nat} (hj : i.toNatClampNeg = j) (hdg : decode cc pc = .ok (.lastore, 1))
    (kk : ∀ (H1 : Heap) (locs1 : List Loc), va_P D cl (ws.set q0 (a, .inl (cA, n, .inr (.inl (vp_updL f j x))))) H1 → va_D A (ws.set q0 (a, .inl (cA, n, .inr (.inl (vp_updL f j x))))) → va_S A H0 H1 locs1 → W p l e R s m AV below meth c H1 locs1 cells slots Q (F0 m (pc + 1) ls rest)) : W p l e R s m AV below meth c H locs cells slots Q (F0 m pc ls (.long x :: .int i :: .ref a :: rest)) := by
  subst hj
  exact va_last hexec hb hK hP hD hS q0 t0 ha ht hin hdg kk
/-! constructors: the world is the object alone; cells are made -/
def zq_MC (l : Launch) (y : MethodName) (ws : List Cond) (rm : Room) (D : va_G) (kT : Nat → ClassId) (av : List Value) (w : va_W) (PF : va_W → Prop) (mc ms : Nat) : Prop := ∀ sz : Nat, Met l y ws rm (va_Pc av (zq_CP D kT sz w)) (va_Qv PF (fun w' t => va_P D vwCl w' t.heap ∧ va_D (va_A w sz) w') (va_A w sz)) mc ms (va_A w sz)
theorem zq_MC_of {l : Launch} {y : MethodName} {ws : List Cond} {rm : Room} {D : va_G} {kT : Nat → ClassId} {av : List Value} {w : va_W} {PF : va_W → Prop} {mc ms : Nat} {cc : ByteArray} {maxL : Nat} {own : String}
    (hy : plainName y.cls = true) (hw : ws = Cond.code y cc maxL none :: zq_W) (ho : y.cls = own) (hav : (lg_sl av).length ≤ maxL) (hyn : y.name = "<init>")
    (body : ∀ (p : Program) (e : Env) (s : State) (m : MethodId) (AV : Array Value) (below : List Frame) (meth : Method) (c : Code) (A : Nat → Prop) (QQ : State → Prop) (H : Heap) (locs : List Loc) (ls : Array Slot),
      p.tables.exec = Jvm.exec → c.code = cc → c.maxLocals = maxL → s.vm.findClass own = some m.cls → (∀ w ∈ zq_W, w.before AV s = true) → zq_EV D kT s → (∀ q : Nat, s.heap.size ≤ q → A q) → meth.name = "<init>" →
      (∀ (w' : va_W) (H : Heap) (locs : List Loc) (pc : Nat) (ls : Array Slot), PF w' → va_P D vwCl w' H → va_D A w' → va_S A s.heap H locs → decode cc pc = .ok (.return_, 1) → W p l e rm s m AV below meth c H locs mc ms QQ (F0 m pc ls [])) →
      va_P D vwCl w H → va_D A w → va_S A s.heap H locs → lv_has ls maxL (lv_args 0 av) → W p l e rm s m AV below meth c H locs 0 0 QQ (F0 m 0 ls [])) : zq_MC l y ws rm D kT av w PF mc ms := by
  intro sz
  refine Met.ofW (cc := cc) (maxL := maxL) (ret := none) hy hw ?_
  intro p e s m args below meth c s₁ B hml hv
  obtain ⟨rfl, hsz, hP, hE, hD0⟩ := hv
  subst hsz
  have hr := B.returns
  have hlocks := B.notSynchronized
  have hin : meth.name = "<init>" := (name_of_methodNamed B.named B.method).1.trans hyn
  rw [lg_entry_eq]
  refine body p e s m _ below meth c (va_A w s.heap.size) _ s.heap [] _ B.exec B.bytes hml (by rw [← ho]; exact findClass_of_methodNamed B.named) (fun w h => atoms_spec (ws := ws) B.pre w (by rw [hw]; exact List.mem_cons_of_mem _ h)) hE (fun q h => Or.inr h) hin ?_ hP hD0.self va_S.rf (lv_entry av hav)
  intro w' H locs pc ls hpf hP' hD' hS hd
  exact W.vret B.exec B.bytes hr (fun t ht hW => ⟨⟨w', rfl, hpf, by rw [ht]; exact hP', hD'⟩, hS.F ht⟩) hS.2.2 hd
theorem zq_c_I {p : Program} {l : Launch} {e : Env} {R : Room} {s : State} {m : MethodId} {AV : Array Value} {below : List Frame} {meth : Method} {c : Code} {H : Heap} {locs : List Loc} {cells slots : Nat} {Q : State → Prop} {y : MethodName} {wsY : List Cond} {rmY : Room} {bytes cc : ByteArray} {maxL nL n index pc mc ms : Nat} {Ts : List Cond} {own : String} {b : Addr} {As rest st0 : List Value} {ls : Array Slot} {D : va_G} {kT : Nat → ClassId} {w wc wr : va_W} {A : Nat → Prop} {PF : va_W → Prop}
    (S : CallFix p m c cc nL s AV Ts own) (hM : zq_MC l y wsY rmY D kT (.ref b :: As) wc PF mc ms) (cw : CallB R s AV own index y bytes maxL none wsY rmY mc ms n ∧ y.name = "<init>" ∧ (Cond.instanceMethod y).before AV s = true) (hE : zq_EV D kT s) (hP : va_P D vwCl w H) (hD : va_D A w) (hS : va_S A s.heap H locs) (hA : ∀ q : Nat, s.heap.size ≤ q → A q)
    (isC isR : List Nat) (hC : isC.map (fun i => w[i]?) = wc.map some) (hR : isR.map (fun i => w[i]?) = wr.map some) (hnd : va_nd isC = true) (hndR : va_nd isR = true) (hdis : ∀ i ∈ isR, i ∉ isC) (hn : As.length = n) (hsize : ls.size = nL) (hroom : (rest.map fun v => v.category).sum ≤ 8) (hst : st0 = As.reverse ++ .ref b :: rest) (hdg : decode cc pc = .ok (.invokespecial index, 3)) (hf : cells + mc ≤ R.cells ∧ slots + ms ≤ R.slots)
    (kk : ∀ (w1 : va_W) (H1 : Heap) (locs1 : List Loc), PF w1 → va_P D vwCl (wr ++ w1) H1 → va_D A (wr ++ w1) → va_S A s.heap H1 locs1 → W p l e R s m AV below meth c H1 locs1 (cells + mc) (slots + ms) Q (F0 m (pc + 3) ls rest)) :
    W p l e R s m AV below meth c H locs cells slots Q (F0 m pc ls st0) := by
  subst hst
  have hFc := va_free (wc := wc) hD hS hA isC hC
  refine va_callv (va_runI (rest := rest) S (hM H.size) cw ⟨zq_CP.blind, zq_pre hE hP hD isC hC hnd⟩ rfl hn hsize rfl (lv_room hroom) hdg hf) hS (fun q _ h => hFc q h) hFc (fun w1 t H1 locs1 ht hvm hw hB hz1 hk1 hS1 => ?_)
  obtain ⟨hP1, hD1⟩ := hB
  rw [ht] at hP1
  obtain ⟨hP2, hD2⟩ := va_join (wr := wr) (w1 := w1) hP hD isC isR hC hR hndR hdis hk1 hFc hP1 hD1
  exact kk w1 H1 locs1 hw hP2 hD2 hS1
theorem zq_c_IN {p : Program} {l : Launch} {e : Env} {R : Room} {s : State} {m : MethodId} {AV : Array Value} {below : List Frame} {meth : Method} {c : Code} {H : Heap} {locs : List Loc} {cells slots : Nat} {Q : State → Prop} {y : MethodName} {wsY : List Cond} {rmY : Room} {bytes cc : ByteArray} {maxL nL n index pc mc ms : Nat} {Ts : List Cond} {own host : String} {b : Addr} {As rest st0 : List Value} {ls : Array Slot} {D : va_G} {kT : Nat → ClassId} {w wc wr : va_W} {A : Nat → Prop} {PF : va_W → Prop}
    (S : CallFix p m c cc nL s AV Ts own) (hM : zq_MC l y wsY rmY D kT (.ref b :: As) wc PF mc ms) (cw : va_CN R s AV own index y host bytes maxL none wsY rmY mc ms n ∧ y.name = "<init>" ∧ (Cond.instanceMethod y).before AV s = true) (hE : zq_EV D kT s) (hP : va_P D vwCl w H) (hD : va_D A w) (hS : va_S A s.heap H locs) (hA : ∀ q : Nat, s.heap.size ≤ q → A q)
    (isC isR : List Nat) (hC : isC.map (fun i => w[i]?) = wc.map some) (hR : isR.map (fun i => w[i]?) = wr.map some) (hnd : va_nd isC = true) (hndR : va_nd isR = true) (hdis : ∀ i ∈ isR, i ∉ isC) (hn : As.length = n) (hsize : ls.size = nL) (hroom : (rest.map fun v => v.category).sum ≤ 8) (hst : st0 = As.reverse ++ .ref b :: rest) (hdg : decode cc pc = .ok (.invokespecial index, 3)) (hf : cells + mc ≤ R.cells ∧ slots + ms ≤ R.slots)
    (kk : ∀ (w1 : va_W) (H1 : Heap) (locs1 : List Loc), PF w1 → va_P D vwCl (wr ++ w1) H1 → va_D A (wr ++ w1) → va_S A s.heap H1 locs1 → W p l e R s m AV below meth c H1 locs1 (cells + mc) (slots + ms) Q (F0 m (pc + 3) ls rest)) :
    W p l e R s m AV below meth c H locs cells slots Q (F0 m pc ls st0) := by
  subst hst
  have hFc := va_free (wc := wc) hD hS hA isC hC
  refine va_callv (va_runIN (rest := rest) S (hM H.size) cw ⟨zq_CP.blind, zq_pre hE hP hD isC hC hnd⟩ rfl hn hsize rfl (lv_room hroom) hdg hf) hS (fun q _ h => hFc q h) hFc (fun w1 t H1 locs1 ht hvm hw hB hz1 hk1 hS1 => ?_)
  obtain ⟨hP1, hD1⟩ := hB
  rw [ht] at hP1
  obtain ⟨hP2, hD2⟩ := va_join (wr := wr) (w1 := w1) hP hD isC isR hC hR hndR hdis hk1 hFc hP1 hD1
  exact kk w1 H1 locs1 hw hP2 hD2 hS1
/-- a new array, of an array class that is known already -/
theorem zq_newa {p : Program} {l : Launch} {e : Env} {R : Room} {s : State} {m : MethodId} {AV : Array Value} {below : List Frame} {meth : Method} {c : Code} {H : Heap} {locs : List Loc} {cells slots : Nat} {Q : State → Prop} {cc : ByteArray} {pc : Nat} {ls : Array Slot} {rest : List Value} {D : va_G} {cl : List vw_C} {A : Nat → Prop} {tys : List (ClassId × FieldType)} {ws : va_W} {H0 : Heap} (hexec : p.tables.exec = Jvm.exec) (hb : c.code = cc) {atype : ArrayType} (harr : (Cond.arrayClass (newarray.typeOf atype)).before AV s = true) {ty : FieldType} (hty : newarray.typeOf atype = ty) (hK : va_K D cl tys s) (hP : va_P D cl ws H) (hD : va_D A ws) (hS : va_S A H0 H locs) (hA : ∀ q, H0.size ≤ q → A q)
    (t0 : Nat) {cT : ClassId} (ht : tys[t0]? = some (cT, ty)) {n : Int32} {N' : Nat} {a0 : vp_A} (ha : ∀ cA : ClassId, vp_cell cA a0 = arrV cA N' (fun _ => defaultValue ty)) (hn : ¬ n < 0) (hN : n.toNatClampNeg = N') (hbytes : N' * componentBytes ty ≤ 536870912) (hcells : cells + 1 ≤ R.cells) (hslots : slots + N' ≤ R.slots) (hdg : decode cc pc = .ok (.newarray atype, 2))
    (kk : ∀ (q : Nat) (H1 : Heap), va_P D cl (ws ++ [(q, .inl (cT, a0))]) H1 → va_D A (ws ++ [(q, .inl (cT, a0))]) → va_S A H0 H1 locs →
      W p l e R s m AV below meth c H1 locs (cells + 1) (slots + N') Q (F0 m (pc + 2) ls (.ref q :: rest))) : W p l e R s m AV below meth c H locs cells slots Q (F0 m pc ls (.int n :: rest)) := by
  refine va_newa hexec hb harr hty hK hP hD hS hA ha hn hN hbytes hcells hslots hdg (fun q cA H1 hK1 hP1 hD1 hS1 => ?_)
  have e : cA = cT := by
    have h1 := (hK.2 t0 _ ht).2
    have h2 := (hK1.2 tys.length (cA, ty) (by simp)).2
    subst hty
    cases atype <;> exact Option.some.inj (h2.symm.trans h1)
  subst e
  exact kk q H1 hP1 hD1 hS1
end
section
theorem zd_Registers_init_0 : decode zb_Registers_init 0 = .ok (.aload_n 0, 1) := by decide +kernel
theorem zd_Registers_init_1 : decode zb_Registers_init 1 = .ok (.invokespecial 3, 3) := by decide +kernel
theorem zd_Registers_init_4 : decode zb_Registers_init 4 = .ok (.aload_n 0, 1) := by decide +kernel
theorem zd_Registers_init_5 : decode zb_Registers_init 5 = .ok (.bipush 24, 2) := by decide +kernel
theorem zd_Registers_init_7 : decode zb_Registers_init 7 = .ok (.newarray .long, 2) := by decide +kernel
theorem zd_Registers_init_9 : decode zb_Registers_init 9 = .ok (.putfield 9, 3) := by decide +kernel
theorem zd_Registers_init_12 : decode zb_Registers_init 12 = .ok (.aload_n 0, 1) := by decide +kernel
theorem zd_Registers_init_13 : decode zb_Registers_init 13 = .ok (.bipush 24, 2) := by decide +kernel
theorem zd_Registers_init_15 : decode zb_Registers_init 15 = .ok (.newarray .long, 2) := by decide +kernel
theorem zd_Registers_init_17 : decode zb_Registers_init 17 = .ok (.putfield 15, 3) := by decide +kernel
theorem zd_Registers_init_20 : decode zb_Registers_init 20 = .ok (.aload_n 0, 1) := by decide +kernel
theorem zd_Registers_init_21 : decode zb_Registers_init 21 = .ok (.bipush 24, 2) := by decide +kernel
theorem zd_Registers_init_23 : decode zb_Registers_init 23 = .ok (.newarray .boolean, 2) := by decide +kernel
theorem zd_Registers_init_25 : decode zb_Registers_init 25 = .ok (.putfield 18, 3) := by decide +kernel
theorem zd_Registers_init_28 : decode zb_Registers_init 28 = .ok (.aload_n 0, 1) := by decide +kernel
theorem zd_Registers_init_29 : decode zb_Registers_init 29 = .ok (.getfield 9, 3) := by decide +kernel
theorem zd_Registers_init_32 : decode zb_Registers_init 32 = .ok (.iconst 0, 1) := by decide +kernel
theorem zd_Registers_init_33 : decode zb_Registers_init 33 = .ok (.ldc2_w 22, 3) := by decide +kernel
theorem zd_Registers_init_36 : decode zb_Registers_init 36 = .ok (.lastore, 1) := by decide +kernel
theorem zd_Registers_init_37 : decode zb_Registers_init 37 = .ok (.aload_n 0, 1) := by decide +kernel
theorem zd_Registers_init_38 : decode zb_Registers_init 38 = .ok (.iconst 1, 1) := by decide +kernel
theorem zd_Registers_init_39 : decode zb_Registers_init 39 = .ok (.putfield 24, 3) := by decide +kernel
theorem zd_Registers_init_42 : decode zb_Registers_init 42 = .ok (.return_, 1) := by decide +kernel
theorem zd_Registers_add_0 : decode zb_Registers_add 0 = .ok (.aload_n 0, 1) := by decide +kernel
theorem zd_Registers_add_1 : decode zb_Registers_add 1 = .ok (.getfield 9, 3) := by decide +kernel
theorem zd_Registers_add_4 : decode zb_Registers_add 4 = .ok (.aload_n 0, 1) := by decide +kernel
theorem zd_Registers_add_5 : decode zb_Registers_add 5 = .ok (.getfield 24, 3) := by decide +kernel
theorem zd_Registers_add_8 : decode zb_Registers_add 8 = .ok (.ldc2_w 28, 3) := by decide +kernel
theorem zd_Registers_add_11 : decode zb_Registers_add 11 = .ok (.bipush 64, 2) := by decide +kernel
theorem zd_Registers_add_13 : decode zb_Registers_add 13 = .ok (.iload_n 1, 1) := by decide +kernel
theorem zd_Registers_add_14 : decode zb_Registers_add 14 = .ok (.isub, 1) := by decide +kernel
theorem zd_Registers_add_15 : decode zb_Registers_add 15 = .ok (.lushr, 1) := by decide +kernel
theorem zd_Registers_add_16 : decode zb_Registers_add 16 = .ok (.lastore, 1) := by decide +kernel
theorem zd_Registers_add_17 : decode zb_Registers_add 17 = .ok (.aload_n 0, 1) := by decide +kernel
theorem zd_Registers_add_18 : decode zb_Registers_add 18 = .ok (.getfield 18, 3) := by decide +kernel
theorem zd_Registers_add_21 : decode zb_Registers_add 21 = .ok (.aload_n 0, 1) := by decide +kernel
theorem zd_Registers_add_22 : decode zb_Registers_add 22 = .ok (.getfield 24, 3) := by decide +kernel
theorem zd_Registers_add_25 : decode zb_Registers_add 25 = .ok (.iconst 1, 1) := by decide +kernel
theorem zd_Registers_add_26 : decode zb_Registers_add 26 = .ok (.bastore, 1) := by decide +kernel
theorem zd_Registers_add_27 : decode zb_Registers_add 27 = .ok (.aload_n 0, 1) := by decide +kernel
theorem zd_Registers_add_28 : decode zb_Registers_add 28 = .ok (.dup, 1) := by decide +kernel
theorem zd_Registers_add_29 : decode zb_Registers_add 29 = .ok (.getfield 24, 3) := by decide +kernel
theorem zd_Registers_add_32 : decode zb_Registers_add 32 = .ok (.iconst 1, 1) := by decide +kernel
theorem zd_Registers_add_33 : decode zb_Registers_add 33 = .ok (.iadd, 1) := by decide +kernel
theorem zd_Registers_add_34 : decode zb_Registers_add 34 = .ok (.putfield 24, 3) := by decide +kernel
theorem zd_Registers_add_37 : decode zb_Registers_add 37 = .ok (.aload_n 0, 1) := by decide +kernel
theorem zd_Registers_add_38 : decode zb_Registers_add 38 = .ok (.getfield 24, 3) := by decide +kernel
theorem zd_Registers_add_41 : decode zb_Registers_add 41 = .ok (.iconst 1, 1) := by decide +kernel
theorem zd_Registers_add_42 : decode zb_Registers_add 42 = .ok (.isub, 1) := by decide +kernel
theorem zd_Registers_add_43 : decode zb_Registers_add 43 = .ok (.ireturn, 1) := by decide +kernel
theorem zd_Registers_has_0 : decode zb_Registers_has 0 = .ok (.iload_n 1, 1) := by decide +kernel
theorem zd_Registers_has_1 : decode zb_Registers_has 1 = .ok (.ifCond .lt 15, 3) := by decide +kernel
theorem zd_Registers_has_4 : decode zb_Registers_has 4 = .ok (.iload_n 1, 1) := by decide +kernel
theorem zd_Registers_has_5 : decode zb_Registers_has 5 = .ok (.aload_n 0, 1) := by decide +kernel
theorem zd_Registers_has_6 : decode zb_Registers_has 6 = .ok (.getfield 24, 3) := by decide +kernel
theorem zd_Registers_has_9 : decode zb_Registers_has 9 = .ok (.if_icmp .ge 7, 3) := by decide +kernel
theorem zd_Registers_has_12 : decode zb_Registers_has 12 = .ok (.iconst 1, 1) := by decide +kernel
theorem zd_Registers_has_13 : decode zb_Registers_has 13 = .ok (.goto 4, 3) := by decide +kernel
theorem zd_Registers_has_16 : decode zb_Registers_has 16 = .ok (.iconst 0, 1) := by decide +kernel
theorem zd_Registers_has_17 : decode zb_Registers_has 17 = .ok (.ireturn, 1) := by decide +kernel
theorem zd_Registers_valueOf_0 : decode zb_Registers_valueOf 0 = .ok (.aload_n 0, 1) := by decide +kernel
theorem zd_Registers_valueOf_1 : decode zb_Registers_valueOf 1 = .ok (.getfield 15, 3) := by decide +kernel
theorem zd_Registers_valueOf_4 : decode zb_Registers_valueOf 4 = .ok (.iload_n 1, 1) := by decide +kernel
theorem zd_Registers_valueOf_5 : decode zb_Registers_valueOf 5 = .ok (.laload, 1) := by decide +kernel
theorem zd_Registers_valueOf_6 : decode zb_Registers_valueOf 6 = .ok (.lreturn, 1) := by decide +kernel
theorem zd_Registers_isMarked_0 : decode zb_Registers_isMarked 0 = .ok (.aload_n 0, 1) := by decide +kernel
theorem zd_Registers_isMarked_1 : decode zb_Registers_isMarked 1 = .ok (.getfield 18, 3) := by decide +kernel
theorem zd_Registers_isMarked_4 : decode zb_Registers_isMarked 4 = .ok (.iload_n 1, 1) := by decide +kernel
theorem zd_Registers_isMarked_5 : decode zb_Registers_isMarked 5 = .ok (.baload, 1) := by decide +kernel
theorem zd_Registers_isMarked_6 : decode zb_Registers_isMarked 6 = .ok (.ireturn, 1) := by decide +kernel
theorem zd_Registers_put_0 : decode zb_Registers_put 0 = .ok (.aload_n 0, 1) := by decide +kernel
theorem zd_Registers_put_1 : decode zb_Registers_put 1 = .ok (.getfield 15, 3) := by decide +kernel
theorem zd_Registers_put_4 : decode zb_Registers_put 4 = .ok (.iload_n 1, 1) := by decide +kernel
theorem zd_Registers_put_5 : decode zb_Registers_put 5 = .ok (.lload_n 2, 1) := by decide +kernel
theorem zd_Registers_put_6 : decode zb_Registers_put 6 = .ok (.aload_n 0, 1) := by decide +kernel
theorem zd_Registers_put_7 : decode zb_Registers_put 7 = .ok (.getfield 9, 3) := by decide +kernel
theorem zd_Registers_put_10 : decode zb_Registers_put 10 = .ok (.iload_n 1, 1) := by decide +kernel
theorem zd_Registers_put_11 : decode zb_Registers_put 11 = .ok (.laload, 1) := by decide +kernel
theorem zd_Registers_put_12 : decode zb_Registers_put 12 = .ok (.land, 1) := by decide +kernel
theorem zd_Registers_put_13 : decode zb_Registers_put 13 = .ok (.lastore, 1) := by decide +kernel
theorem zd_Registers_put_14 : decode zb_Registers_put 14 = .ok (.aload_n 0, 1) := by decide +kernel
theorem zd_Registers_put_15 : decode zb_Registers_put 15 = .ok (.getfield 18, 3) := by decide +kernel
theorem zd_Registers_put_18 : decode zb_Registers_put 18 = .ok (.iload_n 1, 1) := by decide +kernel
theorem zd_Registers_put_19 : decode zb_Registers_put 19 = .ok (.iload 4, 2) := by decide +kernel
theorem zd_Registers_put_21 : decode zb_Registers_put 21 = .ok (.bastore, 1) := by decide +kernel
theorem zd_Registers_put_22 : decode zb_Registers_put 22 = .ok (.return_, 1) := by decide +kernel
theorem zd_Registers_placeNow_0 : decode zb_Registers_placeNow 0 = .ok (.aload_n 0, 1) := by decide +kernel
theorem zd_Registers_placeNow_1 : decode zb_Registers_placeNow 1 = .ok (.getfield 15, 3) := by decide +kernel
theorem zd_Registers_placeNow_4 : decode zb_Registers_placeNow 4 = .ok (.iconst 0, 1) := by decide +kernel
theorem zd_Registers_placeNow_5 : decode zb_Registers_placeNow 5 = .ok (.laload, 1) := by decide +kernel
theorem zd_Registers_placeNow_6 : decode zb_Registers_placeNow 6 = .ok (.l2i, 1) := by decide +kernel
theorem zd_Registers_placeNow_7 : decode zb_Registers_placeNow 7 = .ok (.ireturn, 1) := by decide +kernel
theorem zd_Registers_movePlace_0 : decode zb_Registers_movePlace 0 = .ok (.aload_n 0, 1) := by decide +kernel
theorem zd_Registers_movePlace_1 : decode zb_Registers_movePlace 1 = .ok (.iconst 0, 1) := by decide +kernel
theorem zd_Registers_movePlace_2 : decode zb_Registers_movePlace 2 = .ok (.iload_n 1, 1) := by decide +kernel
theorem zd_Registers_movePlace_3 : decode zb_Registers_movePlace 3 = .ok (.i2l, 1) := by decide +kernel
theorem zd_Registers_movePlace_4 : decode zb_Registers_movePlace 4 = .ok (.aload_n 0, 1) := by decide +kernel
theorem zd_Registers_movePlace_5 : decode zb_Registers_movePlace 5 = .ok (.getfield 18, 3) := by decide +kernel
theorem zd_Registers_movePlace_8 : decode zb_Registers_movePlace 8 = .ok (.iconst 0, 1) := by decide +kernel
theorem zd_Registers_movePlace_9 : decode zb_Registers_movePlace 9 = .ok (.baload, 1) := by decide +kernel
theorem zd_Registers_movePlace_10 : decode zb_Registers_movePlace 10 = .ok (.invokevirtual 30, 3) := by decide +kernel
theorem zd_Registers_movePlace_13 : decode zb_Registers_movePlace 13 = .ok (.return_, 1) := by decide +kernel
theorem zd_Bytes_init_0 : decode zb_Bytes_init 0 = .ok (.aload_n 0, 1) := by decide +kernel
theorem zd_Bytes_init_1 : decode zb_Bytes_init 1 = .ok (.invokespecial 3, 3) := by decide +kernel
theorem zd_Bytes_init_4 : decode zb_Bytes_init 4 = .ok (.aload_n 0, 1) := by decide +kernel
theorem zd_Bytes_init_5 : decode zb_Bytes_init 5 = .ok (.sipush 4096, 3) := by decide +kernel
theorem zd_Bytes_init_8 : decode zb_Bytes_init 8 = .ok (.newarray .byte, 2) := by decide +kernel
theorem zd_Bytes_init_10 : decode zb_Bytes_init 10 = .ok (.putfield 9, 3) := by decide +kernel
theorem zd_Bytes_init_13 : decode zb_Bytes_init 13 = .ok (.return_, 1) := by decide +kernel
theorem zd_Bytes_hasByte_0 : decode zb_Bytes_hasByte 0 = .ok (.lload_n 1, 1) := by decide +kernel
theorem zd_Bytes_hasByte_1 : decode zb_Bytes_hasByte 1 = .ok (.lconst 0, 1) := by decide +kernel
theorem zd_Bytes_hasByte_2 : decode zb_Bytes_hasByte 2 = .ok (.lcmp, 1) := by decide +kernel
theorem zd_Bytes_hasByte_3 : decode zb_Bytes_hasByte 3 = .ok (.ifCond .lt 15, 3) := by decide +kernel
theorem zd_Bytes_hasByte_6 : decode zb_Bytes_hasByte 6 = .ok (.lload_n 1, 1) := by decide +kernel
theorem zd_Bytes_hasByte_7 : decode zb_Bytes_hasByte 7 = .ok (.ldc2_w 15, 3) := by decide +kernel
theorem zd_Bytes_hasByte_10 : decode zb_Bytes_hasByte 10 = .ok (.lcmp, 1) := by decide +kernel
theorem zd_Bytes_hasByte_11 : decode zb_Bytes_hasByte 11 = .ok (.ifCond .ge 7, 3) := by decide +kernel
theorem zd_Bytes_hasByte_14 : decode zb_Bytes_hasByte 14 = .ok (.iconst 1, 1) := by decide +kernel
theorem zd_Bytes_hasByte_15 : decode zb_Bytes_hasByte 15 = .ok (.goto 4, 3) := by decide +kernel
theorem zd_Bytes_hasByte_18 : decode zb_Bytes_hasByte 18 = .ok (.iconst 0, 1) := by decide +kernel
theorem zd_Bytes_hasByte_19 : decode zb_Bytes_hasByte 19 = .ok (.ireturn, 1) := by decide +kernel
theorem zd_Bytes_hasWord_0 : decode zb_Bytes_hasWord 0 = .ok (.aload_n 0, 1) := by decide +kernel
theorem zd_Bytes_hasWord_1 : decode zb_Bytes_hasWord 1 = .ok (.lload_n 1, 1) := by decide +kernel
theorem zd_Bytes_hasWord_2 : decode zb_Bytes_hasWord 2 = .ok (.invokevirtual 17, 3) := by decide +kernel
theorem zd_Bytes_hasWord_5 : decode zb_Bytes_hasWord 5 = .ok (.ifCond .eq 15, 3) := by decide +kernel
theorem zd_Bytes_hasWord_8 : decode zb_Bytes_hasWord 8 = .ok (.lload_n 1, 1) := by decide +kernel
theorem zd_Bytes_hasWord_9 : decode zb_Bytes_hasWord 9 = .ok (.lconst 1, 1) := by decide +kernel
theorem zd_Bytes_hasWord_10 : decode zb_Bytes_hasWord 10 = .ok (.land, 1) := by decide +kernel
theorem zd_Bytes_hasWord_11 : decode zb_Bytes_hasWord 11 = .ok (.lconst 0, 1) := by decide +kernel
theorem zd_Bytes_hasWord_12 : decode zb_Bytes_hasWord 12 = .ok (.lcmp, 1) := by decide +kernel
theorem zd_Bytes_hasWord_13 : decode zb_Bytes_hasWord 13 = .ok (.ifCond .ne 7, 3) := by decide +kernel
theorem zd_Bytes_hasWord_16 : decode zb_Bytes_hasWord 16 = .ok (.iconst 1, 1) := by decide +kernel
theorem zd_Bytes_hasWord_17 : decode zb_Bytes_hasWord 17 = .ok (.goto 4, 3) := by decide +kernel
theorem zd_Bytes_hasWord_20 : decode zb_Bytes_hasWord 20 = .ok (.iconst 0, 1) := by decide +kernel
theorem zd_Bytes_hasWord_21 : decode zb_Bytes_hasWord 21 = .ok (.ireturn, 1) := by decide +kernel
theorem zd_Bytes_byteOf_0 : decode zb_Bytes_byteOf 0 = .ok (.aload_n 0, 1) := by decide +kernel
theorem zd_Bytes_byteOf_1 : decode zb_Bytes_byteOf 1 = .ok (.getfield 9, 3) := by decide +kernel
theorem zd_Bytes_byteOf_4 : decode zb_Bytes_byteOf 4 = .ok (.iload_n 1, 1) := by decide +kernel
theorem zd_Bytes_byteOf_5 : decode zb_Bytes_byteOf 5 = .ok (.baload, 1) := by decide +kernel
theorem zd_Bytes_byteOf_6 : decode zb_Bytes_byteOf 6 = .ok (.sipush 255, 3) := by decide +kernel
theorem zd_Bytes_byteOf_9 : decode zb_Bytes_byteOf 9 = .ok (.iand, 1) := by decide +kernel
theorem zd_Bytes_byteOf_10 : decode zb_Bytes_byteOf 10 = .ok (.ireturn, 1) := by decide +kernel
theorem zd_Bytes_wordOf_0 : decode zb_Bytes_wordOf 0 = .ok (.aload_n 0, 1) := by decide +kernel
theorem zd_Bytes_wordOf_1 : decode zb_Bytes_wordOf 1 = .ok (.getfield 9, 3) := by decide +kernel
theorem zd_Bytes_wordOf_4 : decode zb_Bytes_wordOf 4 = .ok (.iload_n 1, 1) := by decide +kernel
theorem zd_Bytes_wordOf_5 : decode zb_Bytes_wordOf 5 = .ok (.baload, 1) := by decide +kernel
theorem zd_Bytes_wordOf_6 : decode zb_Bytes_wordOf 6 = .ok (.sipush 255, 3) := by decide +kernel
theorem zd_Bytes_wordOf_9 : decode zb_Bytes_wordOf 9 = .ok (.iand, 1) := by decide +kernel
theorem zd_Bytes_wordOf_10 : decode zb_Bytes_wordOf 10 = .ok (.aload_n 0, 1) := by decide +kernel
theorem zd_Bytes_wordOf_11 : decode zb_Bytes_wordOf 11 = .ok (.getfield 9, 3) := by decide +kernel
theorem zd_Bytes_wordOf_14 : decode zb_Bytes_wordOf 14 = .ok (.iload_n 1, 1) := by decide +kernel
theorem zd_Bytes_wordOf_15 : decode zb_Bytes_wordOf 15 = .ok (.iconst 1, 1) := by decide +kernel
theorem zd_Bytes_wordOf_16 : decode zb_Bytes_wordOf 16 = .ok (.iadd, 1) := by decide +kernel
theorem zd_Bytes_wordOf_17 : decode zb_Bytes_wordOf 17 = .ok (.baload, 1) := by decide +kernel
theorem zd_Bytes_wordOf_18 : decode zb_Bytes_wordOf 18 = .ok (.sipush 255, 3) := by decide +kernel
theorem zd_Bytes_wordOf_21 : decode zb_Bytes_wordOf 21 = .ok (.iand, 1) := by decide +kernel
theorem zd_Bytes_wordOf_22 : decode zb_Bytes_wordOf 22 = .ok (.bipush 8, 2) := by decide +kernel
theorem zd_Bytes_wordOf_24 : decode zb_Bytes_wordOf 24 = .ok (.ishl, 1) := by decide +kernel
theorem zd_Bytes_wordOf_25 : decode zb_Bytes_wordOf 25 = .ok (.ior, 1) := by decide +kernel
theorem zd_Bytes_wordOf_26 : decode zb_Bytes_wordOf 26 = .ok (.ireturn, 1) := by decide +kernel
theorem zd_Bytes_putByte_0 : decode zb_Bytes_putByte 0 = .ok (.aload_n 0, 1) := by decide +kernel
theorem zd_Bytes_putByte_1 : decode zb_Bytes_putByte 1 = .ok (.getfield 9, 3) := by decide +kernel
theorem zd_Bytes_putByte_4 : decode zb_Bytes_putByte 4 = .ok (.iload_n 1, 1) := by decide +kernel
theorem zd_Bytes_putByte_5 : decode zb_Bytes_putByte 5 = .ok (.lload_n 2, 1) := by decide +kernel
theorem zd_Bytes_putByte_6 : decode zb_Bytes_putByte 6 = .ok (.l2i, 1) := by decide +kernel
theorem zd_Bytes_putByte_7 : decode zb_Bytes_putByte 7 = .ok (.i2b, 1) := by decide +kernel
theorem zd_Bytes_putByte_8 : decode zb_Bytes_putByte 8 = .ok (.bastore, 1) := by decide +kernel
theorem zd_Bytes_putByte_9 : decode zb_Bytes_putByte 9 = .ok (.return_, 1) := by decide +kernel
theorem zd_Bytes_putWord_0 : decode zb_Bytes_putWord 0 = .ok (.aload_n 0, 1) := by decide +kernel
theorem zd_Bytes_putWord_1 : decode zb_Bytes_putWord 1 = .ok (.getfield 9, 3) := by decide +kernel
theorem zd_Bytes_putWord_4 : decode zb_Bytes_putWord 4 = .ok (.iload_n 1, 1) := by decide +kernel
theorem zd_Bytes_putWord_5 : decode zb_Bytes_putWord 5 = .ok (.lload_n 2, 1) := by decide +kernel
theorem zd_Bytes_putWord_6 : decode zb_Bytes_putWord 6 = .ok (.l2i, 1) := by decide +kernel
theorem zd_Bytes_putWord_7 : decode zb_Bytes_putWord 7 = .ok (.i2b, 1) := by decide +kernel
theorem zd_Bytes_putWord_8 : decode zb_Bytes_putWord 8 = .ok (.bastore, 1) := by decide +kernel
theorem zd_Bytes_putWord_9 : decode zb_Bytes_putWord 9 = .ok (.aload_n 0, 1) := by decide +kernel
theorem zd_Bytes_putWord_10 : decode zb_Bytes_putWord 10 = .ok (.getfield 9, 3) := by decide +kernel
theorem zd_Bytes_putWord_13 : decode zb_Bytes_putWord 13 = .ok (.iload_n 1, 1) := by decide +kernel
theorem zd_Bytes_putWord_14 : decode zb_Bytes_putWord 14 = .ok (.iconst 1, 1) := by decide +kernel
theorem zd_Bytes_putWord_15 : decode zb_Bytes_putWord 15 = .ok (.iadd, 1) := by decide +kernel
theorem zd_Bytes_putWord_16 : decode zb_Bytes_putWord 16 = .ok (.lload_n 2, 1) := by decide +kernel
theorem zd_Bytes_putWord_17 : decode zb_Bytes_putWord 17 = .ok (.bipush 8, 2) := by decide +kernel
theorem zd_Bytes_putWord_19 : decode zb_Bytes_putWord 19 = .ok (.lushr, 1) := by decide +kernel
theorem zd_Bytes_putWord_20 : decode zb_Bytes_putWord 20 = .ok (.l2i, 1) := by decide +kernel
theorem zd_Bytes_putWord_21 : decode zb_Bytes_putWord 21 = .ok (.i2b, 1) := by decide +kernel
theorem zd_Bytes_putWord_22 : decode zb_Bytes_putWord 22 = .ok (.bastore, 1) := by decide +kernel
theorem zd_Bytes_putWord_23 : decode zb_Bytes_putWord 23 = .ok (.return_, 1) := by decide +kernel
theorem zd_Operands_init_0 : decode zb_Operands_init 0 = .ok (.aload_n 0, 1) := by decide +kernel
theorem zd_Operands_init_1 : decode zb_Operands_init 1 = .ok (.invokespecial 3, 3) := by decide +kernel
theorem zd_Operands_init_4 : decode zb_Operands_init 4 = .ok (.aload_n 0, 1) := by decide +kernel
theorem zd_Operands_init_5 : decode zb_Operands_init 5 = .ok (.bipush 16, 2) := by decide +kernel
theorem zd_Operands_init_7 : decode zb_Operands_init 7 = .ok (.newarray .long, 2) := by decide +kernel
theorem zd_Operands_init_9 : decode zb_Operands_init 9 = .ok (.putfield 9, 3) := by decide +kernel
theorem zd_Operands_init_12 : decode zb_Operands_init 12 = .ok (.aload_n 0, 1) := by decide +kernel
theorem zd_Operands_init_13 : decode zb_Operands_init 13 = .ok (.bipush 16, 2) := by decide +kernel
theorem zd_Operands_init_15 : decode zb_Operands_init 15 = .ok (.newarray .int, 2) := by decide +kernel
theorem zd_Operands_init_17 : decode zb_Operands_init 17 = .ok (.putfield 15, 3) := by decide +kernel
theorem zd_Operands_init_20 : decode zb_Operands_init 20 = .ok (.aload_n 0, 1) := by decide +kernel
theorem zd_Operands_init_21 : decode zb_Operands_init 21 = .ok (.bipush 16, 2) := by decide +kernel
theorem zd_Operands_init_23 : decode zb_Operands_init 23 = .ok (.newarray .int, 2) := by decide +kernel
theorem zd_Operands_init_25 : decode zb_Operands_init 25 = .ok (.putfield 19, 3) := by decide +kernel
theorem zd_Operands_init_28 : decode zb_Operands_init 28 = .ok (.aload_n 0, 1) := by decide +kernel
theorem zd_Operands_init_29 : decode zb_Operands_init 29 = .ok (.bipush 16, 2) := by decide +kernel
theorem zd_Operands_init_31 : decode zb_Operands_init 31 = .ok (.newarray .boolean, 2) := by decide +kernel
theorem zd_Operands_init_33 : decode zb_Operands_init 33 = .ok (.putfield 22, 3) := by decide +kernel
theorem zd_Operands_init_36 : decode zb_Operands_init 36 = .ok (.aload_n 0, 1) := by decide +kernel
theorem zd_Operands_init_37 : decode zb_Operands_init 37 = .ok (.aload_n 1, 1) := by decide +kernel
theorem zd_Operands_init_38 : decode zb_Operands_init 38 = .ok (.putfield 26, 3) := by decide +kernel
theorem zd_Operands_init_41 : decode zb_Operands_init 41 = .ok (.return_, 1) := by decide +kernel
theorem zd_Operands_addConstant_0 : decode zb_Operands_addConstant 0 = .ok (.aload_n 0, 1) := by decide +kernel
theorem zd_Operands_addConstant_1 : decode zb_Operands_addConstant 1 = .ok (.getfield 9, 3) := by decide +kernel
theorem zd_Operands_addConstant_4 : decode zb_Operands_addConstant 4 = .ok (.aload_n 0, 1) := by decide +kernel
theorem zd_Operands_addConstant_5 : decode zb_Operands_addConstant 5 = .ok (.getfield 30, 3) := by decide +kernel
theorem zd_Operands_addConstant_8 : decode zb_Operands_addConstant 8 = .ok (.lload_n 1, 1) := by decide +kernel
theorem zd_Operands_addConstant_9 : decode zb_Operands_addConstant 9 = .ok (.lastore, 1) := by decide +kernel
theorem zd_Operands_addConstant_10 : decode zb_Operands_addConstant 10 = .ok (.aload_n 0, 1) := by decide +kernel
theorem zd_Operands_addConstant_11 : decode zb_Operands_addConstant 11 = .ok (.dup, 1) := by decide +kernel
theorem zd_Operands_addConstant_12 : decode zb_Operands_addConstant 12 = .ok (.getfield 30, 3) := by decide +kernel
theorem zd_Operands_addConstant_15 : decode zb_Operands_addConstant 15 = .ok (.iconst 1, 1) := by decide +kernel
theorem zd_Operands_addConstant_16 : decode zb_Operands_addConstant 16 = .ok (.iadd, 1) := by decide +kernel
theorem zd_Operands_addConstant_17 : decode zb_Operands_addConstant 17 = .ok (.putfield 30, 3) := by decide +kernel
theorem zd_Operands_addConstant_20 : decode zb_Operands_addConstant 20 = .ok (.bipush 32, 2) := by decide +kernel
theorem zd_Operands_addConstant_22 : decode zb_Operands_addConstant 22 = .ok (.aload_n 0, 1) := by decide +kernel
theorem zd_Operands_addConstant_23 : decode zb_Operands_addConstant 23 = .ok (.getfield 30, 3) := by decide +kernel
theorem zd_Operands_addConstant_26 : decode zb_Operands_addConstant 26 = .ok (.iadd, 1) := by decide +kernel
theorem zd_Operands_addConstant_27 : decode zb_Operands_addConstant 27 = .ok (.iconst 1, 1) := by decide +kernel
theorem zd_Operands_addConstant_28 : decode zb_Operands_addConstant 28 = .ok (.isub, 1) := by decide +kernel
theorem zd_Operands_addConstant_29 : decode zb_Operands_addConstant 29 = .ok (.ireturn, 1) := by decide +kernel
theorem zd_Operands_addField_0 : decode zb_Operands_addField 0 = .ok (.aload_n 0, 1) := by decide +kernel
theorem zd_Operands_addField_1 : decode zb_Operands_addField 1 = .ok (.getfield 15, 3) := by decide +kernel
theorem zd_Operands_addField_4 : decode zb_Operands_addField 4 = .ok (.aload_n 0, 1) := by decide +kernel
theorem zd_Operands_addField_5 : decode zb_Operands_addField 5 = .ok (.getfield 34, 3) := by decide +kernel
theorem zd_Operands_addField_8 : decode zb_Operands_addField 8 = .ok (.iload_n 1, 1) := by decide +kernel
theorem zd_Operands_addField_9 : decode zb_Operands_addField 9 = .ok (.iastore, 1) := by decide +kernel
theorem zd_Operands_addField_10 : decode zb_Operands_addField 10 = .ok (.aload_n 0, 1) := by decide +kernel
theorem zd_Operands_addField_11 : decode zb_Operands_addField 11 = .ok (.getfield 19, 3) := by decide +kernel
theorem zd_Operands_addField_14 : decode zb_Operands_addField 14 = .ok (.aload_n 0, 1) := by decide +kernel
theorem zd_Operands_addField_15 : decode zb_Operands_addField 15 = .ok (.getfield 34, 3) := by decide +kernel
theorem zd_Operands_addField_18 : decode zb_Operands_addField 18 = .ok (.iload_n 2, 1) := by decide +kernel
theorem zd_Operands_addField_19 : decode zb_Operands_addField 19 = .ok (.iastore, 1) := by decide +kernel
theorem zd_Operands_addField_20 : decode zb_Operands_addField 20 = .ok (.aload_n 0, 1) := by decide +kernel
theorem zd_Operands_addField_21 : decode zb_Operands_addField 21 = .ok (.getfield 22, 3) := by decide +kernel
theorem zd_Operands_addField_24 : decode zb_Operands_addField 24 = .ok (.aload_n 0, 1) := by decide +kernel
theorem zd_Operands_addField_25 : decode zb_Operands_addField 25 = .ok (.getfield 34, 3) := by decide +kernel
theorem zd_Operands_addField_28 : decode zb_Operands_addField 28 = .ok (.iload_n 3, 1) := by decide +kernel
theorem zd_Operands_addField_29 : decode zb_Operands_addField 29 = .ok (.bastore, 1) := by decide +kernel
theorem zd_Operands_addField_30 : decode zb_Operands_addField 30 = .ok (.aload_n 0, 1) := by decide +kernel
theorem zd_Operands_addField_31 : decode zb_Operands_addField 31 = .ok (.dup, 1) := by decide +kernel
theorem zd_Operands_addField_32 : decode zb_Operands_addField 32 = .ok (.getfield 34, 3) := by decide +kernel
theorem zd_Operands_addField_35 : decode zb_Operands_addField 35 = .ok (.iconst 1, 1) := by decide +kernel
theorem zd_Operands_addField_36 : decode zb_Operands_addField 36 = .ok (.iadd, 1) := by decide +kernel
theorem zd_Operands_addField_37 : decode zb_Operands_addField 37 = .ok (.putfield 34, 3) := by decide +kernel
theorem zd_Operands_addField_40 : decode zb_Operands_addField 40 = .ok (.bipush 64, 2) := by decide +kernel
theorem zd_Operands_addField_42 : decode zb_Operands_addField 42 = .ok (.aload_n 0, 1) := by decide +kernel
theorem zd_Operands_addField_43 : decode zb_Operands_addField 43 = .ok (.getfield 34, 3) := by decide +kernel
theorem zd_Operands_addField_46 : decode zb_Operands_addField 46 = .ok (.iadd, 1) := by decide +kernel
theorem zd_Operands_addField_47 : decode zb_Operands_addField 47 = .ok (.iconst 1, 1) := by decide +kernel
theorem zd_Operands_addField_48 : decode zb_Operands_addField 48 = .ok (.isub, 1) := by decide +kernel
theorem zd_Operands_addField_49 : decode zb_Operands_addField 49 = .ok (.ireturn, 1) := by decide +kernel
theorem zd_Operands_has_0 : decode zb_Operands_has 0 = .ok (.iload_n 1, 1) := by decide +kernel
theorem zd_Operands_has_1 : decode zb_Operands_has 1 = .ok (.bipush 64, 2) := by decide +kernel
theorem zd_Operands_has_3 : decode zb_Operands_has 3 = .ok (.if_icmp .lt 20, 3) := by decide +kernel
theorem zd_Operands_has_6 : decode zb_Operands_has 6 = .ok (.iload_n 1, 1) := by decide +kernel
theorem zd_Operands_has_7 : decode zb_Operands_has 7 = .ok (.bipush 64, 2) := by decide +kernel
theorem zd_Operands_has_9 : decode zb_Operands_has 9 = .ok (.isub, 1) := by decide +kernel
theorem zd_Operands_has_10 : decode zb_Operands_has 10 = .ok (.aload_n 0, 1) := by decide +kernel
theorem zd_Operands_has_11 : decode zb_Operands_has 11 = .ok (.getfield 34, 3) := by decide +kernel
theorem zd_Operands_has_14 : decode zb_Operands_has 14 = .ok (.if_icmp .ge 7, 3) := by decide +kernel
theorem zd_Operands_has_17 : decode zb_Operands_has 17 = .ok (.iconst 1, 1) := by decide +kernel
theorem zd_Operands_has_18 : decode zb_Operands_has 18 = .ok (.goto 4, 3) := by decide +kernel
theorem zd_Operands_has_21 : decode zb_Operands_has 21 = .ok (.iconst 0, 1) := by decide +kernel
theorem zd_Operands_has_22 : decode zb_Operands_has 22 = .ok (.ireturn, 1) := by decide +kernel
theorem zd_Operands_has_23 : decode zb_Operands_has 23 = .ok (.iload_n 1, 1) := by decide +kernel
theorem zd_Operands_has_24 : decode zb_Operands_has 24 = .ok (.bipush 32, 2) := by decide +kernel
theorem zd_Operands_has_26 : decode zb_Operands_has 26 = .ok (.if_icmp .lt 20, 3) := by decide +kernel
theorem zd_Operands_has_29 : decode zb_Operands_has 29 = .ok (.iload_n 1, 1) := by decide +kernel
theorem zd_Operands_has_30 : decode zb_Operands_has 30 = .ok (.bipush 32, 2) := by decide +kernel
theorem zd_Operands_has_32 : decode zb_Operands_has 32 = .ok (.isub, 1) := by decide +kernel
theorem zd_Operands_has_33 : decode zb_Operands_has 33 = .ok (.aload_n 0, 1) := by decide +kernel
theorem zd_Operands_has_34 : decode zb_Operands_has 34 = .ok (.getfield 30, 3) := by decide +kernel
theorem zd_Operands_has_37 : decode zb_Operands_has 37 = .ok (.if_icmp .ge 7, 3) := by decide +kernel
theorem zd_Operands_has_40 : decode zb_Operands_has 40 = .ok (.iconst 1, 1) := by decide +kernel
theorem zd_Operands_has_41 : decode zb_Operands_has 41 = .ok (.goto 4, 3) := by decide +kernel
theorem zd_Operands_has_44 : decode zb_Operands_has 44 = .ok (.iconst 0, 1) := by decide +kernel
theorem zd_Operands_has_45 : decode zb_Operands_has 45 = .ok (.ireturn, 1) := by decide +kernel
theorem zd_Operands_has_46 : decode zb_Operands_has 46 = .ok (.aload_n 0, 1) := by decide +kernel
theorem zd_Operands_has_47 : decode zb_Operands_has 47 = .ok (.getfield 26, 3) := by decide +kernel
theorem zd_Operands_has_50 : decode zb_Operands_has 50 = .ok (.iload_n 1, 1) := by decide +kernel
theorem zd_Operands_has_51 : decode zb_Operands_has 51 = .ok (.invokevirtual 37, 3) := by decide +kernel
theorem zd_Operands_has_54 : decode zb_Operands_has 54 = .ok (.ireturn, 1) := by decide +kernel
theorem zd_Operands_read_0 : decode zb_Operands_read 0 = .ok (.iload_n 1, 1) := by decide +kernel
theorem zd_Operands_read_1 : decode zb_Operands_read 1 = .ok (.bipush 64, 2) := by decide +kernel
theorem zd_Operands_read_3 : decode zb_Operands_read 3 = .ok (.if_icmp .lt 13, 3) := by decide +kernel
theorem zd_Operands_read_6 : decode zb_Operands_read 6 = .ok (.aload_n 0, 1) := by decide +kernel
theorem zd_Operands_read_7 : decode zb_Operands_read 7 = .ok (.iload_n 1, 1) := by decide +kernel
theorem zd_Operands_read_8 : decode zb_Operands_read 8 = .ok (.bipush 64, 2) := by decide +kernel
theorem zd_Operands_read_10 : decode zb_Operands_read 10 = .ok (.isub, 1) := by decide +kernel
theorem zd_Operands_read_11 : decode zb_Operands_read 11 = .ok (.iload_n 2, 1) := by decide +kernel
theorem zd_Operands_read_12 : decode zb_Operands_read 12 = .ok (.invokevirtual 43, 3) := by decide +kernel
theorem zd_Operands_read_15 : decode zb_Operands_read 15 = .ok (.lreturn, 1) := by decide +kernel
theorem zd_Operands_read_16 : decode zb_Operands_read 16 = .ok (.iload_n 1, 1) := by decide +kernel
theorem zd_Operands_read_17 : decode zb_Operands_read 17 = .ok (.bipush 32, 2) := by decide +kernel
theorem zd_Operands_read_19 : decode zb_Operands_read 19 = .ok (.if_icmp .lt 13, 3) := by decide +kernel
theorem zd_Operands_read_22 : decode zb_Operands_read 22 = .ok (.aload_n 0, 1) := by decide +kernel
theorem zd_Operands_read_23 : decode zb_Operands_read 23 = .ok (.getfield 9, 3) := by decide +kernel
theorem zd_Operands_read_26 : decode zb_Operands_read 26 = .ok (.iload_n 1, 1) := by decide +kernel
theorem zd_Operands_read_27 : decode zb_Operands_read 27 = .ok (.bipush 32, 2) := by decide +kernel
theorem zd_Operands_read_29 : decode zb_Operands_read 29 = .ok (.isub, 1) := by decide +kernel
theorem zd_Operands_read_30 : decode zb_Operands_read 30 = .ok (.laload, 1) := by decide +kernel
theorem zd_Operands_read_31 : decode zb_Operands_read 31 = .ok (.lreturn, 1) := by decide +kernel
theorem zd_Operands_read_32 : decode zb_Operands_read 32 = .ok (.aload_n 0, 1) := by decide +kernel
theorem zd_Operands_read_33 : decode zb_Operands_read 33 = .ok (.getfield 26, 3) := by decide +kernel
theorem zd_Operands_read_36 : decode zb_Operands_read 36 = .ok (.iload_n 1, 1) := by decide +kernel
theorem zd_Operands_read_37 : decode zb_Operands_read 37 = .ok (.invokevirtual 47, 3) := by decide +kernel
theorem zd_Operands_read_40 : decode zb_Operands_read 40 = .ok (.lreturn, 1) := by decide +kernel
theorem zd_Operands_readField_0 : decode zb_Operands_readField 0 = .ok (.bipush 63, 2) := by decide +kernel
theorem zd_Operands_readField_2 : decode zb_Operands_readField 2 = .ok (.aload_n 0, 1) := by decide +kernel
theorem zd_Operands_readField_3 : decode zb_Operands_readField 3 = .ok (.getfield 19, 3) := by decide +kernel
theorem zd_Operands_readField_6 : decode zb_Operands_readField 6 = .ok (.iload_n 1, 1) := by decide +kernel
theorem zd_Operands_readField_7 : decode zb_Operands_readField 7 = .ok (.iaload, 1) := by decide +kernel
theorem zd_Operands_readField_8 : decode zb_Operands_readField 8 = .ok (.isub, 1) := by decide +kernel
theorem zd_Operands_readField_9 : decode zb_Operands_readField 9 = .ok (.istore_n 3, 1) := by decide +kernel
theorem zd_Operands_readField_10 : decode zb_Operands_readField 10 = .ok (.iload_n 3, 1) := by decide +kernel
theorem zd_Operands_readField_11 : decode zb_Operands_readField 11 = .ok (.aload_n 0, 1) := by decide +kernel
theorem zd_Operands_readField_12 : decode zb_Operands_readField 12 = .ok (.getfield 15, 3) := by decide +kernel
theorem zd_Operands_readField_15 : decode zb_Operands_readField 15 = .ok (.iload_n 1, 1) := by decide +kernel
theorem zd_Operands_readField_16 : decode zb_Operands_readField 16 = .ok (.iaload, 1) := by decide +kernel
theorem zd_Operands_readField_17 : decode zb_Operands_readField 17 = .ok (.iadd, 1) := by decide +kernel
theorem zd_Operands_readField_18 : decode zb_Operands_readField 18 = .ok (.istore 4, 2) := by decide +kernel
theorem zd_Operands_readField_20 : decode zb_Operands_readField 20 = .ok (.iload_n 2, 1) := by decide +kernel
theorem zd_Operands_readField_21 : decode zb_Operands_readField 21 = .ok (.i2l, 1) := by decide +kernel
theorem zd_Operands_readField_22 : decode zb_Operands_readField 22 = .ok (.iload_n 3, 1) := by decide +kernel
theorem zd_Operands_readField_23 : decode zb_Operands_readField 23 = .ok (.lshl, 1) := by decide +kernel
theorem zd_Operands_readField_24 : decode zb_Operands_readField 24 = .ok (.lstore 5, 2) := by decide +kernel
theorem zd_Operands_readField_26 : decode zb_Operands_readField 26 = .ok (.aload_n 0, 1) := by decide +kernel
theorem zd_Operands_readField_27 : decode zb_Operands_readField 27 = .ok (.getfield 22, 3) := by decide +kernel
theorem zd_Operands_readField_30 : decode zb_Operands_readField 30 = .ok (.iload_n 1, 1) := by decide +kernel
theorem zd_Operands_readField_31 : decode zb_Operands_readField 31 = .ok (.baload, 1) := by decide +kernel
theorem zd_Operands_readField_32 : decode zb_Operands_readField 32 = .ok (.ifCond .eq 11, 3) := by decide +kernel
theorem zd_Operands_readField_35 : decode zb_Operands_readField 35 = .ok (.lload 5, 2) := by decide +kernel
theorem zd_Operands_readField_37 : decode zb_Operands_readField 37 = .ok (.iload 4, 2) := by decide +kernel
theorem zd_Operands_readField_39 : decode zb_Operands_readField 39 = .ok (.lshr, 1) := by decide +kernel
theorem zd_Operands_readField_40 : decode zb_Operands_readField 40 = .ok (.goto 8, 3) := by decide +kernel
theorem zd_Operands_readField_43 : decode zb_Operands_readField 43 = .ok (.lload 5, 2) := by decide +kernel
theorem zd_Operands_readField_45 : decode zb_Operands_readField 45 = .ok (.iload 4, 2) := by decide +kernel
theorem zd_Operands_readField_47 : decode zb_Operands_readField 47 = .ok (.lushr, 1) := by decide +kernel
theorem zd_Operands_readField_48 : decode zb_Operands_readField 48 = .ok (.lreturn, 1) := by decide +kernel
theorem zd_Operands_isMarked_0 : decode zb_Operands_isMarked 0 = .ok (.iload_n 1, 1) := by decide +kernel
theorem zd_Operands_isMarked_1 : decode zb_Operands_isMarked 1 = .ok (.bipush 32, 2) := by decide +kernel
theorem zd_Operands_isMarked_3 : decode zb_Operands_isMarked 3 = .ok (.if_icmp .ge 18, 3) := by decide +kernel
theorem zd_Operands_isMarked_6 : decode zb_Operands_isMarked 6 = .ok (.aload_n 0, 1) := by decide +kernel
theorem zd_Operands_isMarked_7 : decode zb_Operands_isMarked 7 = .ok (.getfield 26, 3) := by decide +kernel
theorem zd_Operands_isMarked_10 : decode zb_Operands_isMarked 10 = .ok (.iload_n 1, 1) := by decide +kernel
theorem zd_Operands_isMarked_11 : decode zb_Operands_isMarked 11 = .ok (.invokevirtual 51, 3) := by decide +kernel
theorem zd_Operands_isMarked_14 : decode zb_Operands_isMarked 14 = .ok (.ifCond .eq 7, 3) := by decide +kernel
theorem zd_Operands_isMarked_17 : decode zb_Operands_isMarked 17 = .ok (.iconst 1, 1) := by decide +kernel
theorem zd_Operands_isMarked_18 : decode zb_Operands_isMarked 18 = .ok (.goto 4, 3) := by decide +kernel
theorem zd_Operands_isMarked_21 : decode zb_Operands_isMarked 21 = .ok (.iconst 0, 1) := by decide +kernel
theorem zd_Operands_isMarked_22 : decode zb_Operands_isMarked 22 = .ok (.ireturn, 1) := by decide +kernel
theorem zd_Program_init_0 : decode zb_Program_init 0 = .ok (.aload_n 0, 1) := by decide +kernel
theorem zd_Program_init_1 : decode zb_Program_init 1 = .ok (.invokespecial 3, 3) := by decide +kernel
theorem zd_Program_init_4 : decode zb_Program_init 4 = .ok (.aload_n 0, 1) := by decide +kernel
theorem zd_Program_init_5 : decode zb_Program_init 5 = .ok (.sipush 200, 3) := by decide +kernel
theorem zd_Program_init_8 : decode zb_Program_init 8 = .ok (.newarray .int, 2) := by decide +kernel
theorem zd_Program_init_10 : decode zb_Program_init 10 = .ok (.putfield 9, 3) := by decide +kernel
theorem zd_Program_init_13 : decode zb_Program_init 13 = .ok (.aload_n 0, 1) := by decide +kernel
theorem zd_Program_init_14 : decode zb_Program_init 14 = .ok (.sipush 200, 3) := by decide +kernel
theorem zd_Program_init_17 : decode zb_Program_init 17 = .ok (.newarray .int, 2) := by decide +kernel
theorem zd_Program_init_19 : decode zb_Program_init 19 = .ok (.putfield 15, 3) := by decide +kernel
theorem zd_Program_init_22 : decode zb_Program_init 22 = .ok (.aload_n 0, 1) := by decide +kernel
theorem zd_Program_init_23 : decode zb_Program_init 23 = .ok (.sipush 200, 3) := by decide +kernel
theorem zd_Program_init_26 : decode zb_Program_init 26 = .ok (.newarray .int, 2) := by decide +kernel
theorem zd_Program_init_28 : decode zb_Program_init 28 = .ok (.putfield 18, 3) := by decide +kernel
theorem zd_Program_init_31 : decode zb_Program_init 31 = .ok (.aload_n 0, 1) := by decide +kernel
theorem zd_Program_init_32 : decode zb_Program_init 32 = .ok (.sipush 200, 3) := by decide +kernel
theorem zd_Program_init_35 : decode zb_Program_init 35 = .ok (.newarray .int, 2) := by decide +kernel
theorem zd_Program_init_37 : decode zb_Program_init 37 = .ok (.putfield 21, 3) := by decide +kernel
theorem zd_Program_init_40 : decode zb_Program_init 40 = .ok (.aload_n 0, 1) := by decide +kernel
theorem zd_Program_init_41 : decode zb_Program_init 41 = .ok (.bipush 40, 2) := by decide +kernel
theorem zd_Program_init_43 : decode zb_Program_init 43 = .ok (.newarray .int, 2) := by decide +kernel
theorem zd_Program_init_45 : decode zb_Program_init 45 = .ok (.putfield 24, 3) := by decide +kernel
theorem zd_Program_init_48 : decode zb_Program_init 48 = .ok (.aload_n 0, 1) := by decide +kernel
theorem zd_Program_init_49 : decode zb_Program_init 49 = .ok (.bipush 40, 2) := by decide +kernel
theorem zd_Program_init_51 : decode zb_Program_init 51 = .ok (.newarray .int, 2) := by decide +kernel
theorem zd_Program_init_53 : decode zb_Program_init 53 = .ok (.putfield 27, 3) := by decide +kernel
theorem zd_Program_init_56 : decode zb_Program_init 56 = .ok (.aload_n 0, 1) := by decide +kernel
theorem zd_Program_init_57 : decode zb_Program_init 57 = .ok (.bipush 40, 2) := by decide +kernel
theorem zd_Program_init_59 : decode zb_Program_init 59 = .ok (.newarray .int, 2) := by decide +kernel
theorem zd_Program_init_61 : decode zb_Program_init 61 = .ok (.putfield 30, 3) := by decide +kernel
theorem zd_Program_init_64 : decode zb_Program_init 64 = .ok (.aload_n 0, 1) := by decide +kernel
theorem zd_Program_init_65 : decode zb_Program_init 65 = .ok (.bipush 40, 2) := by decide +kernel
theorem zd_Program_init_67 : decode zb_Program_init 67 = .ok (.newarray .int, 2) := by decide +kernel
theorem zd_Program_init_69 : decode zb_Program_init 69 = .ok (.putfield 33, 3) := by decide +kernel
theorem zd_Program_init_72 : decode zb_Program_init 72 = .ok (.aload_n 0, 1) := by decide +kernel
theorem zd_Program_init_73 : decode zb_Program_init 73 = .ok (.bipush 40, 2) := by decide +kernel
theorem zd_Program_init_75 : decode zb_Program_init 75 = .ok (.newarray .int, 2) := by decide +kernel
theorem zd_Program_init_77 : decode zb_Program_init 77 = .ok (.putfield 36, 3) := by decide +kernel
theorem zd_Program_init_80 : decode zb_Program_init 80 = .ok (.return_, 1) := by decide +kernel
theorem zd_Program_addTransfer_0 : decode zb_Program_addTransfer 0 = .ok (.aload_n 0, 1) := by decide +kernel
theorem zd_Program_addTransfer_1 : decode zb_Program_addTransfer 1 = .ok (.getfield 9, 3) := by decide +kernel
theorem zd_Program_addTransfer_4 : decode zb_Program_addTransfer 4 = .ok (.aload_n 0, 1) := by decide +kernel
theorem zd_Program_addTransfer_5 : decode zb_Program_addTransfer 5 = .ok (.getfield 39, 3) := by decide +kernel
theorem zd_Program_addTransfer_8 : decode zb_Program_addTransfer 8 = .ok (.iload_n 1, 1) := by decide +kernel
theorem zd_Program_addTransfer_9 : decode zb_Program_addTransfer 9 = .ok (.iastore, 1) := by decide +kernel
theorem zd_Program_addTransfer_10 : decode zb_Program_addTransfer 10 = .ok (.aload_n 0, 1) := by decide +kernel
theorem zd_Program_addTransfer_11 : decode zb_Program_addTransfer 11 = .ok (.getfield 15, 3) := by decide +kernel
theorem zd_Program_addTransfer_14 : decode zb_Program_addTransfer 14 = .ok (.aload_n 0, 1) := by decide +kernel
theorem zd_Program_addTransfer_15 : decode zb_Program_addTransfer 15 = .ok (.getfield 39, 3) := by decide +kernel
theorem zd_Program_addTransfer_18 : decode zb_Program_addTransfer 18 = .ok (.iload_n 2, 1) := by decide +kernel
theorem zd_Program_addTransfer_19 : decode zb_Program_addTransfer 19 = .ok (.iastore, 1) := by decide +kernel
theorem zd_Program_addTransfer_20 : decode zb_Program_addTransfer 20 = .ok (.aload_n 0, 1) := by decide +kernel
theorem zd_Program_addTransfer_21 : decode zb_Program_addTransfer 21 = .ok (.getfield 18, 3) := by decide +kernel
theorem zd_Program_addTransfer_24 : decode zb_Program_addTransfer 24 = .ok (.aload_n 0, 1) := by decide +kernel
theorem zd_Program_addTransfer_25 : decode zb_Program_addTransfer 25 = .ok (.getfield 39, 3) := by decide +kernel
theorem zd_Program_addTransfer_28 : decode zb_Program_addTransfer 28 = .ok (.iload_n 3, 1) := by decide +kernel
theorem zd_Program_addTransfer_29 : decode zb_Program_addTransfer 29 = .ok (.iastore, 1) := by decide +kernel
theorem zd_Program_addTransfer_30 : decode zb_Program_addTransfer 30 = .ok (.aload_n 0, 1) := by decide +kernel
theorem zd_Program_addTransfer_31 : decode zb_Program_addTransfer 31 = .ok (.getfield 21, 3) := by decide +kernel
theorem zd_Program_addTransfer_34 : decode zb_Program_addTransfer 34 = .ok (.aload_n 0, 1) := by decide +kernel
theorem zd_Program_addTransfer_35 : decode zb_Program_addTransfer 35 = .ok (.getfield 39, 3) := by decide +kernel
theorem zd_Program_addTransfer_38 : decode zb_Program_addTransfer 38 = .ok (.iload 4, 2) := by decide +kernel
theorem zd_Program_addTransfer_40 : decode zb_Program_addTransfer 40 = .ok (.iastore, 1) := by decide +kernel
theorem zd_Program_addTransfer_41 : decode zb_Program_addTransfer 41 = .ok (.aload_n 0, 1) := by decide +kernel
theorem zd_Program_addTransfer_42 : decode zb_Program_addTransfer 42 = .ok (.dup, 1) := by decide +kernel
theorem zd_Program_addTransfer_43 : decode zb_Program_addTransfer 43 = .ok (.getfield 39, 3) := by decide +kernel
theorem zd_Program_addTransfer_46 : decode zb_Program_addTransfer 46 = .ok (.iconst 1, 1) := by decide +kernel
theorem zd_Program_addTransfer_47 : decode zb_Program_addTransfer 47 = .ok (.iadd, 1) := by decide +kernel
theorem zd_Program_addTransfer_48 : decode zb_Program_addTransfer 48 = .ok (.putfield 39, 3) := by decide +kernel
theorem zd_Program_addTransfer_51 : decode zb_Program_addTransfer 51 = .ok (.aload_n 0, 1) := by decide +kernel
theorem zd_Program_addTransfer_52 : decode zb_Program_addTransfer 52 = .ok (.getfield 39, 3) := by decide +kernel
theorem zd_Program_addTransfer_55 : decode zb_Program_addTransfer 55 = .ok (.ireturn, 1) := by decide +kernel
theorem zd_Program_addInstruction_0 : decode zb_Program_addInstruction 0 = .ok (.aload_n 0, 1) := by decide +kernel
theorem zd_Program_addInstruction_1 : decode zb_Program_addInstruction 1 = .ok (.getfield 24, 3) := by decide +kernel
theorem zd_Program_addInstruction_4 : decode zb_Program_addInstruction 4 = .ok (.aload_n 0, 1) := by decide +kernel
theorem zd_Program_addInstruction_5 : decode zb_Program_addInstruction 5 = .ok (.getfield 43, 3) := by decide +kernel
theorem zd_Program_addInstruction_8 : decode zb_Program_addInstruction 8 = .ok (.iload_n 1, 1) := by decide +kernel
theorem zd_Program_addInstruction_9 : decode zb_Program_addInstruction 9 = .ok (.iastore, 1) := by decide +kernel
theorem zd_Program_addInstruction_10 : decode zb_Program_addInstruction 10 = .ok (.aload_n 0, 1) := by decide +kernel
theorem zd_Program_addInstruction_11 : decode zb_Program_addInstruction 11 = .ok (.getfield 27, 3) := by decide +kernel
theorem zd_Program_addInstruction_14 : decode zb_Program_addInstruction 14 = .ok (.aload_n 0, 1) := by decide +kernel
theorem zd_Program_addInstruction_15 : decode zb_Program_addInstruction 15 = .ok (.getfield 43, 3) := by decide +kernel
theorem zd_Program_addInstruction_18 : decode zb_Program_addInstruction 18 = .ok (.iload_n 2, 1) := by decide +kernel
theorem zd_Program_addInstruction_19 : decode zb_Program_addInstruction 19 = .ok (.iastore, 1) := by decide +kernel
theorem zd_Program_addInstruction_20 : decode zb_Program_addInstruction 20 = .ok (.aload_n 0, 1) := by decide +kernel
theorem zd_Program_addInstruction_21 : decode zb_Program_addInstruction 21 = .ok (.getfield 30, 3) := by decide +kernel
theorem zd_Program_addInstruction_24 : decode zb_Program_addInstruction 24 = .ok (.aload_n 0, 1) := by decide +kernel
theorem zd_Program_addInstruction_25 : decode zb_Program_addInstruction 25 = .ok (.getfield 43, 3) := by decide +kernel
theorem zd_Program_addInstruction_28 : decode zb_Program_addInstruction 28 = .ok (.iload_n 3, 1) := by decide +kernel
theorem zd_Program_addInstruction_29 : decode zb_Program_addInstruction 29 = .ok (.iastore, 1) := by decide +kernel
theorem zd_Program_addInstruction_30 : decode zb_Program_addInstruction 30 = .ok (.aload_n 0, 1) := by decide +kernel
theorem zd_Program_addInstruction_31 : decode zb_Program_addInstruction 31 = .ok (.getfield 33, 3) := by decide +kernel
theorem zd_Program_addInstruction_34 : decode zb_Program_addInstruction 34 = .ok (.aload_n 0, 1) := by decide +kernel
theorem zd_Program_addInstruction_35 : decode zb_Program_addInstruction 35 = .ok (.getfield 43, 3) := by decide +kernel
theorem zd_Program_addInstruction_38 : decode zb_Program_addInstruction 38 = .ok (.aload_n 0, 1) := by decide +kernel
theorem zd_Program_addInstruction_39 : decode zb_Program_addInstruction 39 = .ok (.getfield 43, 3) := by decide +kernel
theorem zd_Program_addInstruction_42 : decode zb_Program_addInstruction 42 = .ok (.ifCond .ne 7, 3) := by decide +kernel
theorem zd_Program_addInstruction_45 : decode zb_Program_addInstruction 45 = .ok (.iconst 0, 1) := by decide +kernel
theorem zd_Program_addInstruction_46 : decode zb_Program_addInstruction 46 = .ok (.goto 14, 3) := by decide +kernel
theorem zd_Program_addInstruction_49 : decode zb_Program_addInstruction 49 = .ok (.aload_n 0, 1) := by decide +kernel
theorem zd_Program_addInstruction_50 : decode zb_Program_addInstruction 50 = .ok (.getfield 36, 3) := by decide +kernel
theorem zd_Program_addInstruction_53 : decode zb_Program_addInstruction 53 = .ok (.aload_n 0, 1) := by decide +kernel
theorem zd_Program_addInstruction_54 : decode zb_Program_addInstruction 54 = .ok (.getfield 43, 3) := by decide +kernel
theorem zd_Program_addInstruction_57 : decode zb_Program_addInstruction 57 = .ok (.iconst 1, 1) := by decide +kernel
theorem zd_Program_addInstruction_58 : decode zb_Program_addInstruction 58 = .ok (.isub, 1) := by decide +kernel
theorem zd_Program_addInstruction_59 : decode zb_Program_addInstruction 59 = .ok (.iaload, 1) := by decide +kernel
theorem zd_Program_addInstruction_60 : decode zb_Program_addInstruction 60 = .ok (.iastore, 1) := by decide +kernel
theorem zd_Program_addInstruction_61 : decode zb_Program_addInstruction 61 = .ok (.aload_n 0, 1) := by decide +kernel
theorem zd_Program_addInstruction_62 : decode zb_Program_addInstruction 62 = .ok (.getfield 36, 3) := by decide +kernel
theorem zd_Program_addInstruction_65 : decode zb_Program_addInstruction 65 = .ok (.aload_n 0, 1) := by decide +kernel
theorem zd_Program_addInstruction_66 : decode zb_Program_addInstruction 66 = .ok (.getfield 43, 3) := by decide +kernel
theorem zd_Program_addInstruction_69 : decode zb_Program_addInstruction 69 = .ok (.aload_n 0, 1) := by decide +kernel
theorem zd_Program_addInstruction_70 : decode zb_Program_addInstruction 70 = .ok (.getfield 39, 3) := by decide +kernel
theorem zd_Program_addInstruction_73 : decode zb_Program_addInstruction 73 = .ok (.iastore, 1) := by decide +kernel
theorem zd_Program_addInstruction_74 : decode zb_Program_addInstruction 74 = .ok (.aload_n 0, 1) := by decide +kernel
theorem zd_Program_addInstruction_75 : decode zb_Program_addInstruction 75 = .ok (.dup, 1) := by decide +kernel
theorem zd_Program_addInstruction_76 : decode zb_Program_addInstruction 76 = .ok (.getfield 43, 3) := by decide +kernel
theorem zd_Program_addInstruction_79 : decode zb_Program_addInstruction 79 = .ok (.iconst 1, 1) := by decide +kernel
theorem zd_Program_addInstruction_80 : decode zb_Program_addInstruction 80 = .ok (.iadd, 1) := by decide +kernel
theorem zd_Program_addInstruction_81 : decode zb_Program_addInstruction 81 = .ok (.putfield 43, 3) := by decide +kernel
theorem zd_Program_addInstruction_84 : decode zb_Program_addInstruction 84 = .ok (.aload_n 0, 1) := by decide +kernel
theorem zd_Program_addInstruction_85 : decode zb_Program_addInstruction 85 = .ok (.getfield 43, 3) := by decide +kernel
theorem zd_Program_addInstruction_88 : decode zb_Program_addInstruction 88 = .ok (.iconst 1, 1) := by decide +kernel
theorem zd_Program_addInstruction_89 : decode zb_Program_addInstruction 89 = .ok (.isub, 1) := by decide +kernel
theorem zd_Program_addInstruction_90 : decode zb_Program_addInstruction 90 = .ok (.ireturn, 1) := by decide +kernel
theorem zd_Program_find_0 : decode zb_Program_find 0 = .ok (.iconst 0, 1) := by decide +kernel
theorem zd_Program_find_1 : decode zb_Program_find 1 = .ok (.istore_n 2, 1) := by decide +kernel
theorem zd_Program_find_2 : decode zb_Program_find 2 = .ok (.iload_n 2, 1) := by decide +kernel
theorem zd_Program_find_3 : decode zb_Program_find 3 = .ok (.aload_n 0, 1) := by decide +kernel
theorem zd_Program_find_4 : decode zb_Program_find 4 = .ok (.getfield 43, 3) := by decide +kernel
theorem zd_Program_find_7 : decode zb_Program_find 7 = .ok (.if_icmp .ge 28, 3) := by decide +kernel
theorem zd_Program_find_10 : decode zb_Program_find 10 = .ok (.iload_n 1, 1) := by decide +kernel
theorem zd_Program_find_11 : decode zb_Program_find 11 = .ok (.aload_n 0, 1) := by decide +kernel
theorem zd_Program_find_12 : decode zb_Program_find 12 = .ok (.getfield 24, 3) := by decide +kernel
theorem zd_Program_find_15 : decode zb_Program_find 15 = .ok (.iload_n 2, 1) := by decide +kernel
theorem zd_Program_find_16 : decode zb_Program_find 16 = .ok (.iaload, 1) := by decide +kernel
theorem zd_Program_find_17 : decode zb_Program_find 17 = .ok (.iand, 1) := by decide +kernel
theorem zd_Program_find_18 : decode zb_Program_find 18 = .ok (.aload_n 0, 1) := by decide +kernel
theorem zd_Program_find_19 : decode zb_Program_find 19 = .ok (.getfield 27, 3) := by decide +kernel
theorem zd_Program_find_22 : decode zb_Program_find 22 = .ok (.iload_n 2, 1) := by decide +kernel
theorem zd_Program_find_23 : decode zb_Program_find 23 = .ok (.iaload, 1) := by decide +kernel
theorem zd_Program_find_24 : decode zb_Program_find 24 = .ok (.if_icmp .ne 5, 3) := by decide +kernel
theorem zd_Program_find_27 : decode zb_Program_find 27 = .ok (.iload_n 2, 1) := by decide +kernel
theorem zd_Program_find_28 : decode zb_Program_find 28 = .ok (.ireturn, 1) := by decide +kernel
theorem zd_Program_find_29 : decode zb_Program_find 29 = .ok (.iinc 2 1, 3) := by decide +kernel
theorem zd_Program_find_32 : decode zb_Program_find 32 = .ok (.goto (-30), 3) := by decide +kernel
theorem zd_Program_find_35 : decode zb_Program_find 35 = .ok (.iconst (-1), 1) := by decide +kernel
theorem zd_Program_find_36 : decode zb_Program_find 36 = .ok (.ireturn, 1) := by decide +kernel
theorem zd_Program_is_0 : decode zb_Program_is 0 = .ok (.aload_n 0, 1) := by decide +kernel
theorem zd_Program_is_1 : decode zb_Program_is 1 = .ok (.getfield 30, 3) := by decide +kernel
theorem zd_Program_is_4 : decode zb_Program_is 4 = .ok (.iload_n 1, 1) := by decide +kernel
theorem zd_Program_is_5 : decode zb_Program_is 5 = .ok (.iaload, 1) := by decide +kernel
theorem zd_Program_is_6 : decode zb_Program_is 6 = .ok (.iload_n 2, 1) := by decide +kernel
theorem zd_Program_is_7 : decode zb_Program_is 7 = .ok (.iand, 1) := by decide +kernel
theorem zd_Program_is_8 : decode zb_Program_is 8 = .ok (.ifCond .eq 7, 3) := by decide +kernel
theorem zd_Program_is_11 : decode zb_Program_is 11 = .ok (.iconst 1, 1) := by decide +kernel
theorem zd_Program_is_12 : decode zb_Program_is 12 = .ok (.goto 4, 3) := by decide +kernel
theorem zd_Program_is_15 : decode zb_Program_is 15 = .ok (.iconst 0, 1) := by decide +kernel
theorem zd_Program_is_16 : decode zb_Program_is 16 = .ok (.ireturn, 1) := by decide +kernel
theorem zd_Kept_init_0 : decode zb_Kept_init 0 = .ok (.aload_n 0, 1) := by decide +kernel
theorem zd_Kept_init_1 : decode zb_Kept_init 1 = .ok (.invokespecial 3, 3) := by decide +kernel
theorem zd_Kept_init_4 : decode zb_Kept_init 4 = .ok (.aload_n 0, 1) := by decide +kernel
theorem zd_Kept_init_5 : decode zb_Kept_init 5 = .ok (.bipush 8, 2) := by decide +kernel
theorem zd_Kept_init_7 : decode zb_Kept_init 7 = .ok (.newarray .int, 2) := by decide +kernel
theorem zd_Kept_init_9 : decode zb_Kept_init 9 = .ok (.putfield 9, 3) := by decide +kernel
theorem zd_Kept_init_12 : decode zb_Kept_init 12 = .ok (.aload_n 0, 1) := by decide +kernel
theorem zd_Kept_init_13 : decode zb_Kept_init 13 = .ok (.bipush 8, 2) := by decide +kernel
theorem zd_Kept_init_15 : decode zb_Kept_init 15 = .ok (.newarray .int, 2) := by decide +kernel
theorem zd_Kept_init_17 : decode zb_Kept_init 17 = .ok (.putfield 15, 3) := by decide +kernel
theorem zd_Kept_init_20 : decode zb_Kept_init 20 = .ok (.return_, 1) := by decide +kernel
theorem zd_Kept_isFull_0 : decode zb_Kept_isFull 0 = .ok (.aload_n 0, 1) := by decide +kernel
theorem zd_Kept_isFull_1 : decode zb_Kept_isFull 1 = .ok (.getfield 18, 3) := by decide +kernel
theorem zd_Kept_isFull_4 : decode zb_Kept_isFull 4 = .ok (.bipush 8, 2) := by decide +kernel
theorem zd_Kept_isFull_6 : decode zb_Kept_isFull 6 = .ok (.if_icmp .lt 7, 3) := by decide +kernel
theorem zd_Kept_isFull_9 : decode zb_Kept_isFull 9 = .ok (.iconst 1, 1) := by decide +kernel
theorem zd_Kept_isFull_10 : decode zb_Kept_isFull 10 = .ok (.goto 4, 3) := by decide +kernel
theorem zd_Kept_isFull_13 : decode zb_Kept_isFull 13 = .ok (.iconst 0, 1) := by decide +kernel
theorem zd_Kept_isFull_14 : decode zb_Kept_isFull 14 = .ok (.ireturn, 1) := by decide +kernel
theorem zd_Kept_keep_0 : decode zb_Kept_keep 0 = .ok (.aload_n 0, 1) := by decide +kernel
theorem zd_Kept_keep_1 : decode zb_Kept_keep 1 = .ok (.getfield 9, 3) := by decide +kernel
theorem zd_Kept_keep_4 : decode zb_Kept_keep 4 = .ok (.aload_n 0, 1) := by decide +kernel
theorem zd_Kept_keep_5 : decode zb_Kept_keep 5 = .ok (.getfield 18, 3) := by decide +kernel
theorem zd_Kept_keep_8 : decode zb_Kept_keep 8 = .ok (.iload_n 1, 1) := by decide +kernel
theorem zd_Kept_keep_9 : decode zb_Kept_keep 9 = .ok (.iastore, 1) := by decide +kernel
theorem zd_Kept_keep_10 : decode zb_Kept_keep 10 = .ok (.aload_n 0, 1) := by decide +kernel
theorem zd_Kept_keep_11 : decode zb_Kept_keep 11 = .ok (.getfield 15, 3) := by decide +kernel
theorem zd_Kept_keep_14 : decode zb_Kept_keep 14 = .ok (.aload_n 0, 1) := by decide +kernel
theorem zd_Kept_keep_15 : decode zb_Kept_keep 15 = .ok (.getfield 18, 3) := by decide +kernel
theorem zd_Kept_keep_18 : decode zb_Kept_keep 18 = .ok (.aload_n 0, 1) := by decide +kernel
theorem zd_Kept_keep_19 : decode zb_Kept_keep 19 = .ok (.getfield 22, 3) := by decide +kernel
theorem zd_Kept_keep_22 : decode zb_Kept_keep 22 = .ok (.iastore, 1) := by decide +kernel
theorem zd_Kept_keep_23 : decode zb_Kept_keep 23 = .ok (.aload_n 0, 1) := by decide +kernel
theorem zd_Kept_keep_24 : decode zb_Kept_keep 24 = .ok (.dup, 1) := by decide +kernel
theorem zd_Kept_keep_25 : decode zb_Kept_keep 25 = .ok (.getfield 18, 3) := by decide +kernel
theorem zd_Kept_keep_28 : decode zb_Kept_keep 28 = .ok (.iconst 1, 1) := by decide +kernel
theorem zd_Kept_keep_29 : decode zb_Kept_keep 29 = .ok (.iadd, 1) := by decide +kernel
theorem zd_Kept_keep_30 : decode zb_Kept_keep 30 = .ok (.putfield 18, 3) := by decide +kernel
theorem zd_Kept_keep_33 : decode zb_Kept_keep 33 = .ok (.aload_n 0, 1) := by decide +kernel
theorem zd_Kept_keep_34 : decode zb_Kept_keep 34 = .ok (.iload_n 2, 1) := by decide +kernel
theorem zd_Kept_keep_35 : decode zb_Kept_keep 35 = .ok (.putfield 22, 3) := by decide +kernel
theorem zd_Kept_keep_38 : decode zb_Kept_keep 38 = .ok (.return_, 1) := by decide +kernel
theorem zd_Kept_goBack_0 : decode zb_Kept_goBack 0 = .ok (.aload_n 0, 1) := by decide +kernel
theorem zd_Kept_goBack_1 : decode zb_Kept_goBack 1 = .ok (.getfield 18, 3) := by decide +kernel
theorem zd_Kept_goBack_4 : decode zb_Kept_goBack 4 = .ok (.ifCond .gt 5, 3) := by decide +kernel
theorem zd_Kept_goBack_7 : decode zb_Kept_goBack 7 = .ok (.iconst (-1), 1) := by decide +kernel
theorem zd_Kept_goBack_8 : decode zb_Kept_goBack 8 = .ok (.ireturn, 1) := by decide +kernel
theorem zd_Kept_goBack_9 : decode zb_Kept_goBack 9 = .ok (.aload_n 0, 1) := by decide +kernel
theorem zd_Kept_goBack_10 : decode zb_Kept_goBack 10 = .ok (.dup, 1) := by decide +kernel
theorem zd_Kept_goBack_11 : decode zb_Kept_goBack 11 = .ok (.getfield 18, 3) := by decide +kernel
theorem zd_Kept_goBack_14 : decode zb_Kept_goBack 14 = .ok (.iconst 1, 1) := by decide +kernel
theorem zd_Kept_goBack_15 : decode zb_Kept_goBack 15 = .ok (.isub, 1) := by decide +kernel
theorem zd_Kept_goBack_16 : decode zb_Kept_goBack 16 = .ok (.putfield 18, 3) := by decide +kernel
theorem zd_Kept_goBack_19 : decode zb_Kept_goBack 19 = .ok (.aload_n 0, 1) := by decide +kernel
theorem zd_Kept_goBack_20 : decode zb_Kept_goBack 20 = .ok (.aload_n 0, 1) := by decide +kernel
theorem zd_Kept_goBack_21 : decode zb_Kept_goBack 21 = .ok (.getfield 15, 3) := by decide +kernel
theorem zd_Kept_goBack_24 : decode zb_Kept_goBack 24 = .ok (.aload_n 0, 1) := by decide +kernel
theorem zd_Kept_goBack_25 : decode zb_Kept_goBack 25 = .ok (.getfield 18, 3) := by decide +kernel
theorem zd_Kept_goBack_28 : decode zb_Kept_goBack 28 = .ok (.iaload, 1) := by decide +kernel
theorem zd_Kept_goBack_29 : decode zb_Kept_goBack 29 = .ok (.putfield 22, 3) := by decide +kernel
theorem zd_Kept_goBack_32 : decode zb_Kept_goBack 32 = .ok (.aload_n 0, 1) := by decide +kernel
theorem zd_Kept_goBack_33 : decode zb_Kept_goBack 33 = .ok (.getfield 9, 3) := by decide +kernel
theorem zd_Kept_goBack_36 : decode zb_Kept_goBack 36 = .ok (.aload_n 0, 1) := by decide +kernel
theorem zd_Kept_goBack_37 : decode zb_Kept_goBack 37 = .ok (.getfield 18, 3) := by decide +kernel
theorem zd_Kept_goBack_40 : decode zb_Kept_goBack 40 = .ok (.iaload, 1) := by decide +kernel
theorem zd_Kept_goBack_41 : decode zb_Kept_goBack 41 = .ok (.ireturn, 1) := by decide +kernel
theorem zd_Kept_restore_0 : decode zb_Kept_restore 0 = .ok (.aload_n 0, 1) := by decide +kernel
theorem zd_Kept_restore_1 : decode zb_Kept_restore 1 = .ok (.iload_n 1, 1) := by decide +kernel
theorem zd_Kept_restore_2 : decode zb_Kept_restore 2 = .ok (.putfield 18, 3) := by decide +kernel
theorem zd_Kept_restore_5 : decode zb_Kept_restore 5 = .ok (.aload_n 0, 1) := by decide +kernel
theorem zd_Kept_restore_6 : decode zb_Kept_restore 6 = .ok (.iload_n 2, 1) := by decide +kernel
theorem zd_Kept_restore_7 : decode zb_Kept_restore 7 = .ok (.putfield 22, 3) := by decide +kernel
theorem zd_Kept_restore_10 : decode zb_Kept_restore 10 = .ok (.return_, 1) := by decide +kernel
theorem zd_Lines_init_0 : decode zb_Lines_init 0 = .ok (.aload_n 0, 1) := by decide +kernel
theorem zd_Lines_init_1 : decode zb_Lines_init 1 = .ok (.invokespecial 3, 3) := by decide +kernel
theorem zd_Lines_init_4 : decode zb_Lines_init 4 = .ok (.aload_n 0, 1) := by decide +kernel
theorem zd_Lines_init_5 : decode zb_Lines_init 5 = .ok (.bipush 8, 2) := by decide +kernel
theorem zd_Lines_init_7 : decode zb_Lines_init 7 = .ok (.newarray .boolean, 2) := by decide +kernel
theorem zd_Lines_init_9 : decode zb_Lines_init 9 = .ok (.putfield 9, 3) := by decide +kernel
theorem zd_Lines_init_12 : decode zb_Lines_init 12 = .ok (.aload_n 0, 1) := by decide +kernel
theorem zd_Lines_init_13 : decode zb_Lines_init 13 = .ok (.bipush 8, 2) := by decide +kernel
theorem zd_Lines_init_15 : decode zb_Lines_init 15 = .ok (.newarray .int, 2) := by decide +kernel
theorem zd_Lines_init_17 : decode zb_Lines_init 17 = .ok (.putfield 15, 3) := by decide +kernel
theorem zd_Lines_init_20 : decode zb_Lines_init 20 = .ok (.iconst 0, 1) := by decide +kernel
theorem zd_Lines_init_21 : decode zb_Lines_init 21 = .ok (.istore_n 1, 1) := by decide +kernel
theorem zd_Lines_init_22 : decode zb_Lines_init 22 = .ok (.iload_n 1, 1) := by decide +kernel
theorem zd_Lines_init_23 : decode zb_Lines_init 23 = .ok (.bipush 8, 2) := by decide +kernel
theorem zd_Lines_init_25 : decode zb_Lines_init 25 = .ok (.if_icmp .ge 16, 3) := by decide +kernel
theorem zd_Lines_init_28 : decode zb_Lines_init 28 = .ok (.aload_n 0, 1) := by decide +kernel
theorem zd_Lines_init_29 : decode zb_Lines_init 29 = .ok (.getfield 15, 3) := by decide +kernel
theorem zd_Lines_init_32 : decode zb_Lines_init 32 = .ok (.iload_n 1, 1) := by decide +kernel
theorem zd_Lines_init_33 : decode zb_Lines_init 33 = .ok (.iconst 1, 1) := by decide +kernel
theorem zd_Lines_init_34 : decode zb_Lines_init 34 = .ok (.iastore, 1) := by decide +kernel
theorem zd_Lines_init_35 : decode zb_Lines_init 35 = .ok (.iinc 1 1, 3) := by decide +kernel
theorem zd_Lines_init_38 : decode zb_Lines_init 38 = .ok (.goto (-16), 3) := by decide +kernel
theorem zd_Lines_init_41 : decode zb_Lines_init 41 = .ok (.return_, 1) := by decide +kernel
theorem zd_Lines_has_0 : decode zb_Lines_has 0 = .ok (.iload_n 1, 1) := by decide +kernel
theorem zd_Lines_has_1 : decode zb_Lines_has 1 = .ok (.ifCond .lt 13, 3) := by decide +kernel
theorem zd_Lines_has_4 : decode zb_Lines_has 4 = .ok (.iload_n 1, 1) := by decide +kernel
theorem zd_Lines_has_5 : decode zb_Lines_has 5 = .ok (.bipush 8, 2) := by decide +kernel
theorem zd_Lines_has_7 : decode zb_Lines_has 7 = .ok (.if_icmp .ge 7, 3) := by decide +kernel
theorem zd_Lines_has_10 : decode zb_Lines_has 10 = .ok (.iconst 1, 1) := by decide +kernel
theorem zd_Lines_has_11 : decode zb_Lines_has 11 = .ok (.goto 4, 3) := by decide +kernel
theorem zd_Lines_has_14 : decode zb_Lines_has 14 = .ok (.iconst 0, 1) := by decide +kernel
theorem zd_Lines_has_15 : decode zb_Lines_has 15 = .ok (.ireturn, 1) := by decide +kernel
theorem zd_Lines_turn_0 : decode zb_Lines_turn 0 = .ok (.aload_n 0, 1) := by decide +kernel
theorem zd_Lines_turn_1 : decode zb_Lines_turn 1 = .ok (.getfield 9, 3) := by decide +kernel
theorem zd_Lines_turn_4 : decode zb_Lines_turn 4 = .ok (.iload_n 1, 1) := by decide +kernel
theorem zd_Lines_turn_5 : decode zb_Lines_turn 5 = .ok (.baload, 1) := by decide +kernel
theorem zd_Lines_turn_6 : decode zb_Lines_turn 6 = .ok (.istore_n 3, 1) := by decide +kernel
theorem zd_Lines_turn_7 : decode zb_Lines_turn 7 = .ok (.aload_n 0, 1) := by decide +kernel
theorem zd_Lines_turn_8 : decode zb_Lines_turn 8 = .ok (.getfield 9, 3) := by decide +kernel
theorem zd_Lines_turn_11 : decode zb_Lines_turn 11 = .ok (.iload_n 1, 1) := by decide +kernel
theorem zd_Lines_turn_12 : decode zb_Lines_turn 12 = .ok (.iload_n 2, 1) := by decide +kernel
theorem zd_Lines_turn_13 : decode zb_Lines_turn 13 = .ok (.bastore, 1) := by decide +kernel
theorem zd_Lines_turn_14 : decode zb_Lines_turn 14 = .ok (.iload_n 3, 1) := by decide +kernel
theorem zd_Lines_turn_15 : decode zb_Lines_turn 15 = .ok (.ireturn, 1) := by decide +kernel
theorem zd_Lines_giveRank_0 : decode zb_Lines_giveRank 0 = .ok (.aload_n 0, 1) := by decide +kernel
theorem zd_Lines_giveRank_1 : decode zb_Lines_giveRank 1 = .ok (.getfield 15, 3) := by decide +kernel
theorem zd_Lines_giveRank_4 : decode zb_Lines_giveRank 4 = .ok (.iload_n 1, 1) := by decide +kernel
theorem zd_Lines_giveRank_5 : decode zb_Lines_giveRank 5 = .ok (.iaload, 1) := by decide +kernel
theorem zd_Lines_giveRank_6 : decode zb_Lines_giveRank 6 = .ok (.istore_n 3, 1) := by decide +kernel
theorem zd_Lines_giveRank_7 : decode zb_Lines_giveRank 7 = .ok (.aload_n 0, 1) := by decide +kernel
theorem zd_Lines_giveRank_8 : decode zb_Lines_giveRank 8 = .ok (.getfield 15, 3) := by decide +kernel
theorem zd_Lines_giveRank_11 : decode zb_Lines_giveRank 11 = .ok (.iload_n 1, 1) := by decide +kernel
theorem zd_Lines_giveRank_12 : decode zb_Lines_giveRank 12 = .ok (.iload_n 2, 1) := by decide +kernel
theorem zd_Lines_giveRank_13 : decode zb_Lines_giveRank 13 = .ok (.iastore, 1) := by decide +kernel
theorem zd_Lines_giveRank_14 : decode zb_Lines_giveRank 14 = .ok (.iload_n 3, 1) := by decide +kernel
theorem zd_Lines_giveRank_15 : decode zb_Lines_giveRank 15 = .ok (.ireturn, 1) := by decide +kernel
theorem zd_Lines_rankOf_0 : decode zb_Lines_rankOf 0 = .ok (.aload_n 0, 1) := by decide +kernel
theorem zd_Lines_rankOf_1 : decode zb_Lines_rankOf 1 = .ok (.getfield 15, 3) := by decide +kernel
theorem zd_Lines_rankOf_4 : decode zb_Lines_rankOf 4 = .ok (.iload_n 1, 1) := by decide +kernel
theorem zd_Lines_rankOf_5 : decode zb_Lines_rankOf 5 = .ok (.iaload, 1) := by decide +kernel
theorem zd_Lines_rankOf_6 : decode zb_Lines_rankOf 6 = .ok (.ireturn, 1) := by decide +kernel
theorem zd_Lines_mostUrgent_0 : decode zb_Lines_mostUrgent 0 = .ok (.iconst (-1), 1) := by decide +kernel
theorem zd_Lines_mostUrgent_1 : decode zb_Lines_mostUrgent 1 = .ok (.istore_n 2, 1) := by decide +kernel
theorem zd_Lines_mostUrgent_2 : decode zb_Lines_mostUrgent 2 = .ok (.iload_n 1, 1) := by decide +kernel
theorem zd_Lines_mostUrgent_3 : decode zb_Lines_mostUrgent 3 = .ok (.istore_n 3, 1) := by decide +kernel
theorem zd_Lines_mostUrgent_4 : decode zb_Lines_mostUrgent 4 = .ok (.iconst 0, 1) := by decide +kernel
theorem zd_Lines_mostUrgent_5 : decode zb_Lines_mostUrgent 5 = .ok (.istore 4, 2) := by decide +kernel
theorem zd_Lines_mostUrgent_7 : decode zb_Lines_mostUrgent 7 = .ok (.iload 4, 2) := by decide +kernel
theorem zd_Lines_mostUrgent_9 : decode zb_Lines_mostUrgent 9 = .ok (.bipush 8, 2) := by decide +kernel
theorem zd_Lines_mostUrgent_11 : decode zb_Lines_mostUrgent 11 = .ok (.if_icmp .ge 41, 3) := by decide +kernel
theorem zd_Lines_mostUrgent_14 : decode zb_Lines_mostUrgent 14 = .ok (.aload_n 0, 1) := by decide +kernel
theorem zd_Lines_mostUrgent_15 : decode zb_Lines_mostUrgent 15 = .ok (.getfield 9, 3) := by decide +kernel
theorem zd_Lines_mostUrgent_18 : decode zb_Lines_mostUrgent 18 = .ok (.iload 4, 2) := by decide +kernel
theorem zd_Lines_mostUrgent_20 : decode zb_Lines_mostUrgent 20 = .ok (.baload, 1) := by decide +kernel
theorem zd_Lines_mostUrgent_21 : decode zb_Lines_mostUrgent 21 = .ok (.ifCond .eq 25, 3) := by decide +kernel
theorem zd_Lines_mostUrgent_24 : decode zb_Lines_mostUrgent 24 = .ok (.aload_n 0, 1) := by decide +kernel
theorem zd_Lines_mostUrgent_25 : decode zb_Lines_mostUrgent 25 = .ok (.getfield 15, 3) := by decide +kernel
theorem zd_Lines_mostUrgent_28 : decode zb_Lines_mostUrgent 28 = .ok (.iload 4, 2) := by decide +kernel
theorem zd_Lines_mostUrgent_30 : decode zb_Lines_mostUrgent 30 = .ok (.iaload, 1) := by decide +kernel
theorem zd_Lines_mostUrgent_31 : decode zb_Lines_mostUrgent 31 = .ok (.iload_n 3, 1) := by decide +kernel
theorem zd_Lines_mostUrgent_32 : decode zb_Lines_mostUrgent 32 = .ok (.if_icmp .le 14, 3) := by decide +kernel
theorem zd_Lines_mostUrgent_35 : decode zb_Lines_mostUrgent 35 = .ok (.iload 4, 2) := by decide +kernel
theorem zd_Lines_mostUrgent_37 : decode zb_Lines_mostUrgent 37 = .ok (.istore_n 2, 1) := by decide +kernel
theorem zd_Lines_mostUrgent_38 : decode zb_Lines_mostUrgent 38 = .ok (.aload_n 0, 1) := by decide +kernel
theorem zd_Lines_mostUrgent_39 : decode zb_Lines_mostUrgent 39 = .ok (.getfield 15, 3) := by decide +kernel
theorem zd_Lines_mostUrgent_42 : decode zb_Lines_mostUrgent 42 = .ok (.iload 4, 2) := by decide +kernel
theorem zd_Lines_mostUrgent_44 : decode zb_Lines_mostUrgent 44 = .ok (.iaload, 1) := by decide +kernel
theorem zd_Lines_mostUrgent_45 : decode zb_Lines_mostUrgent 45 = .ok (.istore_n 3, 1) := by decide +kernel
theorem zd_Lines_mostUrgent_46 : decode zb_Lines_mostUrgent 46 = .ok (.iinc 4 1, 3) := by decide +kernel
theorem zd_Lines_mostUrgent_49 : decode zb_Lines_mostUrgent 49 = .ok (.goto (-42), 3) := by decide +kernel
theorem zd_Lines_mostUrgent_52 : decode zb_Lines_mostUrgent 52 = .ok (.iload_n 2, 1) := by decide +kernel
theorem zd_Lines_mostUrgent_53 : decode zb_Lines_mostUrgent 53 = .ok (.ireturn, 1) := by decide +kernel
theorem zd_Writes_init_0 : decode zb_Writes_init 0 = .ok (.aload_n 0, 1) := by decide +kernel
theorem zd_Writes_init_1 : decode zb_Writes_init 1 = .ok (.invokespecial 3, 3) := by decide +kernel
theorem zd_Writes_init_4 : decode zb_Writes_init 4 = .ok (.aload_n 0, 1) := by decide +kernel
theorem zd_Writes_init_5 : decode zb_Writes_init 5 = .ok (.sipush 200, 3) := by decide +kernel
theorem zd_Writes_init_8 : decode zb_Writes_init 8 = .ok (.newarray .int, 2) := by decide +kernel
theorem zd_Writes_init_10 : decode zb_Writes_init 10 = .ok (.putfield 9, 3) := by decide +kernel
theorem zd_Writes_init_13 : decode zb_Writes_init 13 = .ok (.aload_n 0, 1) := by decide +kernel
theorem zd_Writes_init_14 : decode zb_Writes_init 14 = .ok (.sipush 200, 3) := by decide +kernel
theorem zd_Writes_init_17 : decode zb_Writes_init 17 = .ok (.newarray .int, 2) := by decide +kernel
theorem zd_Writes_init_19 : decode zb_Writes_init 19 = .ok (.putfield 15, 3) := by decide +kernel
theorem zd_Writes_init_22 : decode zb_Writes_init 22 = .ok (.aload_n 0, 1) := by decide +kernel
theorem zd_Writes_init_23 : decode zb_Writes_init 23 = .ok (.sipush 200, 3) := by decide +kernel
theorem zd_Writes_init_26 : decode zb_Writes_init 26 = .ok (.newarray .long, 2) := by decide +kernel
theorem zd_Writes_init_28 : decode zb_Writes_init 28 = .ok (.putfield 18, 3) := by decide +kernel
theorem zd_Writes_init_31 : decode zb_Writes_init 31 = .ok (.aload_n 0, 1) := by decide +kernel
theorem zd_Writes_init_32 : decode zb_Writes_init 32 = .ok (.aload_n 1, 1) := by decide +kernel
theorem zd_Writes_init_33 : decode zb_Writes_init 33 = .ok (.putfield 22, 3) := by decide +kernel
theorem zd_Writes_init_36 : decode zb_Writes_init 36 = .ok (.aload_n 0, 1) := by decide +kernel
theorem zd_Writes_init_37 : decode zb_Writes_init 37 = .ok (.aload_n 2, 1) := by decide +kernel
theorem zd_Writes_init_38 : decode zb_Writes_init 38 = .ok (.putfield 26, 3) := by decide +kernel
theorem zd_Writes_init_41 : decode zb_Writes_init 41 = .ok (.return_, 1) := by decide +kernel
theorem zd_Writes_clear_0 : decode zb_Writes_clear 0 = .ok (.aload_n 0, 1) := by decide +kernel
theorem zd_Writes_clear_1 : decode zb_Writes_clear 1 = .ok (.iconst 0, 1) := by decide +kernel
theorem zd_Writes_clear_2 : decode zb_Writes_clear 2 = .ok (.putfield 30, 3) := by decide +kernel
theorem zd_Writes_clear_5 : decode zb_Writes_clear 5 = .ok (.return_, 1) := by decide +kernel
theorem zd_Writes_note_0 : decode zb_Writes_note 0 = .ok (.aload_n 0, 1) := by decide +kernel
theorem zd_Writes_note_1 : decode zb_Writes_note 1 = .ok (.getfield 30, 3) := by decide +kernel
theorem zd_Writes_note_4 : decode zb_Writes_note 4 = .ok (.sipush 200, 3) := by decide +kernel
theorem zd_Writes_note_7 : decode zb_Writes_note 7 = .ok (.if_icmp .lt 4, 3) := by decide +kernel
theorem zd_Writes_note_10 : decode zb_Writes_note 10 = .ok (.return_, 1) := by decide +kernel
theorem zd_Writes_note_11 : decode zb_Writes_note 11 = .ok (.aload_n 0, 1) := by decide +kernel
theorem zd_Writes_note_12 : decode zb_Writes_note 12 = .ok (.getfield 9, 3) := by decide +kernel
theorem zd_Writes_note_15 : decode zb_Writes_note 15 = .ok (.aload_n 0, 1) := by decide +kernel
theorem zd_Writes_note_16 : decode zb_Writes_note 16 = .ok (.getfield 30, 3) := by decide +kernel
theorem zd_Writes_note_19 : decode zb_Writes_note 19 = .ok (.iload_n 1, 1) := by decide +kernel
theorem zd_Writes_note_20 : decode zb_Writes_note 20 = .ok (.iastore, 1) := by decide +kernel
theorem zd_Writes_note_21 : decode zb_Writes_note 21 = .ok (.aload_n 0, 1) := by decide +kernel
theorem zd_Writes_note_22 : decode zb_Writes_note 22 = .ok (.getfield 15, 3) := by decide +kernel
theorem zd_Writes_note_25 : decode zb_Writes_note 25 = .ok (.aload_n 0, 1) := by decide +kernel
theorem zd_Writes_note_26 : decode zb_Writes_note 26 = .ok (.getfield 30, 3) := by decide +kernel
theorem zd_Writes_note_29 : decode zb_Writes_note 29 = .ok (.iload_n 2, 1) := by decide +kernel
theorem zd_Writes_note_30 : decode zb_Writes_note 30 = .ok (.iastore, 1) := by decide +kernel
theorem zd_Writes_note_31 : decode zb_Writes_note 31 = .ok (.aload_n 0, 1) := by decide +kernel
theorem zd_Writes_note_32 : decode zb_Writes_note 32 = .ok (.getfield 18, 3) := by decide +kernel
theorem zd_Writes_note_35 : decode zb_Writes_note 35 = .ok (.aload_n 0, 1) := by decide +kernel
theorem zd_Writes_note_36 : decode zb_Writes_note 36 = .ok (.getfield 30, 3) := by decide +kernel
theorem zd_Writes_note_39 : decode zb_Writes_note 39 = .ok (.lload_n 3, 1) := by decide +kernel
theorem zd_Writes_note_40 : decode zb_Writes_note 40 = .ok (.lastore, 1) := by decide +kernel
theorem zd_Writes_note_41 : decode zb_Writes_note 41 = .ok (.aload_n 0, 1) := by decide +kernel
theorem zd_Writes_note_42 : decode zb_Writes_note 42 = .ok (.dup, 1) := by decide +kernel
theorem zd_Writes_note_43 : decode zb_Writes_note 43 = .ok (.getfield 30, 3) := by decide +kernel
theorem zd_Writes_note_46 : decode zb_Writes_note 46 = .ok (.iconst 1, 1) := by decide +kernel
theorem zd_Writes_note_47 : decode zb_Writes_note 47 = .ok (.iadd, 1) := by decide +kernel
theorem zd_Writes_note_48 : decode zb_Writes_note 48 = .ok (.putfield 30, 3) := by decide +kernel
theorem zd_Writes_note_51 : decode zb_Writes_note 51 = .ok (.return_, 1) := by decide +kernel
theorem zd_Writes_noteReverse_0 : decode zb_Writes_noteReverse 0 = .ok (.iload_n 1, 1) := by decide +kernel
theorem zd_Writes_noteReverse_1 : decode zb_Writes_noteReverse 1 = .ok (.iconst 3, 1) := by decide +kernel
theorem zd_Writes_noteReverse_2 : decode zb_Writes_noteReverse 2 = .ok (.if_icmp .ne 21, 3) := by decide +kernel
theorem zd_Writes_noteReverse_5 : decode zb_Writes_noteReverse 5 = .ok (.aload_n 0, 1) := by decide +kernel
theorem zd_Writes_noteReverse_6 : decode zb_Writes_noteReverse 6 = .ok (.iconst 3, 1) := by decide +kernel
theorem zd_Writes_noteReverse_7 : decode zb_Writes_noteReverse 7 = .ok (.iload_n 2, 1) := by decide +kernel
theorem zd_Writes_noteReverse_8 : decode zb_Writes_noteReverse 8 = .ok (.aload_n 0, 1) := by decide +kernel
theorem zd_Writes_noteReverse_9 : decode zb_Writes_noteReverse 9 = .ok (.getfield 26, 3) := by decide +kernel
theorem zd_Writes_noteReverse_12 : decode zb_Writes_noteReverse 12 = .ok (.iload_n 2, 1) := by decide +kernel
theorem zd_Writes_noteReverse_13 : decode zb_Writes_noteReverse 13 = .ok (.invokevirtual 34, 3) := by decide +kernel
theorem zd_Writes_noteReverse_16 : decode zb_Writes_noteReverse 16 = .ok (.i2l, 1) := by decide +kernel
theorem zd_Writes_noteReverse_17 : decode zb_Writes_noteReverse 17 = .ok (.invokevirtual 40, 3) := by decide +kernel
theorem zd_Writes_noteReverse_20 : decode zb_Writes_noteReverse 20 = .ok (.goto 55, 3) := by decide +kernel
theorem zd_Writes_noteReverse_23 : decode zb_Writes_noteReverse 23 = .ok (.iload_n 1, 1) := by decide +kernel
theorem zd_Writes_noteReverse_24 : decode zb_Writes_noteReverse 24 = .ok (.iconst 4, 1) := by decide +kernel
theorem zd_Writes_noteReverse_25 : decode zb_Writes_noteReverse 25 = .ok (.if_icmp .ne 21, 3) := by decide +kernel
theorem zd_Writes_noteReverse_28 : decode zb_Writes_noteReverse 28 = .ok (.aload_n 0, 1) := by decide +kernel
theorem zd_Writes_noteReverse_29 : decode zb_Writes_noteReverse 29 = .ok (.iconst 4, 1) := by decide +kernel
theorem zd_Writes_noteReverse_30 : decode zb_Writes_noteReverse 30 = .ok (.iload_n 2, 1) := by decide +kernel
theorem zd_Writes_noteReverse_31 : decode zb_Writes_noteReverse 31 = .ok (.aload_n 0, 1) := by decide +kernel
theorem zd_Writes_noteReverse_32 : decode zb_Writes_noteReverse 32 = .ok (.getfield 26, 3) := by decide +kernel
theorem zd_Writes_noteReverse_35 : decode zb_Writes_noteReverse 35 = .ok (.iload_n 2, 1) := by decide +kernel
theorem zd_Writes_noteReverse_36 : decode zb_Writes_noteReverse 36 = .ok (.invokevirtual 44, 3) := by decide +kernel
theorem zd_Writes_noteReverse_39 : decode zb_Writes_noteReverse 39 = .ok (.i2l, 1) := by decide +kernel
theorem zd_Writes_noteReverse_40 : decode zb_Writes_noteReverse 40 = .ok (.invokevirtual 40, 3) := by decide +kernel
theorem zd_Writes_noteReverse_43 : decode zb_Writes_noteReverse 43 = .ok (.goto 32, 3) := by decide +kernel
theorem zd_Writes_noteReverse_46 : decode zb_Writes_noteReverse 46 = .ok (.aload_n 0, 1) := by decide +kernel
theorem zd_Writes_noteReverse_47 : decode zb_Writes_noteReverse 47 = .ok (.aload_n 0, 1) := by decide +kernel
theorem zd_Writes_noteReverse_48 : decode zb_Writes_noteReverse 48 = .ok (.getfield 22, 3) := by decide +kernel
theorem zd_Writes_noteReverse_51 : decode zb_Writes_noteReverse 51 = .ok (.iload_n 2, 1) := by decide +kernel
theorem zd_Writes_noteReverse_52 : decode zb_Writes_noteReverse 52 = .ok (.invokevirtual 47, 3) := by decide +kernel
theorem zd_Writes_noteReverse_55 : decode zb_Writes_noteReverse 55 = .ok (.ifCond .eq 7, 3) := by decide +kernel
theorem zd_Writes_noteReverse_58 : decode zb_Writes_noteReverse 58 = .ok (.iconst 1, 1) := by decide +kernel
theorem zd_Writes_noteReverse_59 : decode zb_Writes_noteReverse 59 = .ok (.goto 4, 3) := by decide +kernel
theorem zd_Writes_noteReverse_62 : decode zb_Writes_noteReverse 62 = .ok (.iconst 0, 1) := by decide +kernel
theorem zd_Writes_noteReverse_63 : decode zb_Writes_noteReverse 63 = .ok (.iload_n 2, 1) := by decide +kernel
theorem zd_Writes_noteReverse_64 : decode zb_Writes_noteReverse 64 = .ok (.aload_n 0, 1) := by decide +kernel
theorem zd_Writes_noteReverse_65 : decode zb_Writes_noteReverse 65 = .ok (.getfield 22, 3) := by decide +kernel
theorem zd_Writes_noteReverse_68 : decode zb_Writes_noteReverse 68 = .ok (.iload_n 2, 1) := by decide +kernel
theorem zd_Writes_noteReverse_69 : decode zb_Writes_noteReverse 69 = .ok (.invokevirtual 53, 3) := by decide +kernel
theorem zd_Writes_noteReverse_72 : decode zb_Writes_noteReverse 72 = .ok (.invokevirtual 40, 3) := by decide +kernel
theorem zd_Writes_noteReverse_75 : decode zb_Writes_noteReverse 75 = .ok (.return_, 1) := by decide +kernel
theorem zd_Writes_perform_0 : decode zb_Writes_perform 0 = .ok (.iload_n 1, 1) := by decide +kernel
theorem zd_Writes_perform_1 : decode zb_Writes_perform 1 = .ok (.tableswitch 71 2 4 #[51, 27, 39], 27) := by decide +kernel
theorem zd_Writes_perform_28 : decode zb_Writes_perform 28 = .ok (.aload_n 0, 1) := by decide +kernel
theorem zd_Writes_perform_29 : decode zb_Writes_perform 29 = .ok (.getfield 26, 3) := by decide +kernel
theorem zd_Writes_perform_32 : decode zb_Writes_perform 32 = .ok (.iload_n 2, 1) := by decide +kernel
theorem zd_Writes_perform_33 : decode zb_Writes_perform 33 = .ok (.lload_n 3, 1) := by decide +kernel
theorem zd_Writes_perform_34 : decode zb_Writes_perform 34 = .ok (.invokevirtual 57, 3) := by decide +kernel
theorem zd_Writes_perform_37 : decode zb_Writes_perform 37 = .ok (.goto 54, 3) := by decide +kernel
theorem zd_Writes_perform_40 : decode zb_Writes_perform 40 = .ok (.aload_n 0, 1) := by decide +kernel
theorem zd_Writes_perform_41 : decode zb_Writes_perform 41 = .ok (.getfield 26, 3) := by decide +kernel
theorem zd_Writes_perform_44 : decode zb_Writes_perform 44 = .ok (.iload_n 2, 1) := by decide +kernel
theorem zd_Writes_perform_45 : decode zb_Writes_perform 45 = .ok (.lload_n 3, 1) := by decide +kernel
theorem zd_Writes_perform_46 : decode zb_Writes_perform 46 = .ok (.invokevirtual 61, 3) := by decide +kernel
theorem zd_Writes_perform_49 : decode zb_Writes_perform 49 = .ok (.goto 42, 3) := by decide +kernel
theorem zd_Writes_perform_52 : decode zb_Writes_perform 52 = .ok (.aload_n 0, 1) := by decide +kernel
theorem zd_Writes_perform_53 : decode zb_Writes_perform 53 = .ok (.getfield 22, 3) := by decide +kernel
theorem zd_Writes_perform_56 : decode zb_Writes_perform 56 = .ok (.iload_n 2, 1) := by decide +kernel
theorem zd_Writes_perform_57 : decode zb_Writes_perform 57 = .ok (.aload_n 0, 1) := by decide +kernel
theorem zd_Writes_perform_58 : decode zb_Writes_perform 58 = .ok (.getfield 22, 3) := by decide +kernel
theorem zd_Writes_perform_61 : decode zb_Writes_perform 61 = .ok (.iload_n 2, 1) := by decide +kernel
theorem zd_Writes_perform_62 : decode zb_Writes_perform 62 = .ok (.invokevirtual 53, 3) := by decide +kernel
theorem zd_Writes_perform_65 : decode zb_Writes_perform 65 = .ok (.iconst 1, 1) := by decide +kernel
theorem zd_Writes_perform_66 : decode zb_Writes_perform 66 = .ok (.invokevirtual 64, 3) := by decide +kernel
theorem zd_Writes_perform_69 : decode zb_Writes_perform 69 = .ok (.goto 22, 3) := by decide +kernel
theorem zd_Writes_perform_72 : decode zb_Writes_perform 72 = .ok (.aload_n 0, 1) := by decide +kernel
theorem zd_Writes_perform_73 : decode zb_Writes_perform 73 = .ok (.getfield 22, 3) := by decide +kernel
theorem zd_Writes_perform_76 : decode zb_Writes_perform 76 = .ok (.iload_n 2, 1) := by decide +kernel
theorem zd_Writes_perform_77 : decode zb_Writes_perform 77 = .ok (.lload_n 3, 1) := by decide +kernel
theorem zd_Writes_perform_78 : decode zb_Writes_perform 78 = .ok (.iload_n 1, 1) := by decide +kernel
theorem zd_Writes_perform_79 : decode zb_Writes_perform 79 = .ok (.iconst 1, 1) := by decide +kernel
theorem zd_Writes_perform_80 : decode zb_Writes_perform 80 = .ok (.if_icmp .ne 7, 3) := by decide +kernel
theorem zd_Writes_perform_83 : decode zb_Writes_perform 83 = .ok (.iconst 1, 1) := by decide +kernel
theorem zd_Writes_perform_84 : decode zb_Writes_perform 84 = .ok (.goto 4, 3) := by decide +kernel
theorem zd_Writes_perform_87 : decode zb_Writes_perform 87 = .ok (.iconst 0, 1) := by decide +kernel
theorem zd_Writes_perform_88 : decode zb_Writes_perform 88 = .ok (.invokevirtual 64, 3) := by decide +kernel
theorem zd_Writes_perform_91 : decode zb_Writes_perform 91 = .ok (.return_, 1) := by decide +kernel
theorem zd_Writes_performInOrder_0 : decode zb_Writes_performInOrder 0 = .ok (.iconst 0, 1) := by decide +kernel
theorem zd_Writes_performInOrder_1 : decode zb_Writes_performInOrder 1 = .ok (.istore_n 1, 1) := by decide +kernel
theorem zd_Writes_performInOrder_2 : decode zb_Writes_performInOrder 2 = .ok (.iload_n 1, 1) := by decide +kernel
theorem zd_Writes_performInOrder_3 : decode zb_Writes_performInOrder 3 = .ok (.aload_n 0, 1) := by decide +kernel
theorem zd_Writes_performInOrder_4 : decode zb_Writes_performInOrder 4 = .ok (.getfield 30, 3) := by decide +kernel
theorem zd_Writes_performInOrder_7 : decode zb_Writes_performInOrder 7 = .ok (.if_icmp .ge 31, 3) := by decide +kernel
theorem zd_Writes_performInOrder_10 : decode zb_Writes_performInOrder 10 = .ok (.aload_n 0, 1) := by decide +kernel
theorem zd_Writes_performInOrder_11 : decode zb_Writes_performInOrder 11 = .ok (.aload_n 0, 1) := by decide +kernel
theorem zd_Writes_performInOrder_12 : decode zb_Writes_performInOrder 12 = .ok (.getfield 9, 3) := by decide +kernel
theorem zd_Writes_performInOrder_15 : decode zb_Writes_performInOrder 15 = .ok (.iload_n 1, 1) := by decide +kernel
theorem zd_Writes_performInOrder_16 : decode zb_Writes_performInOrder 16 = .ok (.iaload, 1) := by decide +kernel
theorem zd_Writes_performInOrder_17 : decode zb_Writes_performInOrder 17 = .ok (.aload_n 0, 1) := by decide +kernel
theorem zd_Writes_performInOrder_18 : decode zb_Writes_performInOrder 18 = .ok (.getfield 15, 3) := by decide +kernel
theorem zd_Writes_performInOrder_21 : decode zb_Writes_performInOrder 21 = .ok (.iload_n 1, 1) := by decide +kernel
theorem zd_Writes_performInOrder_22 : decode zb_Writes_performInOrder 22 = .ok (.iaload, 1) := by decide +kernel
theorem zd_Writes_performInOrder_23 : decode zb_Writes_performInOrder 23 = .ok (.aload_n 0, 1) := by decide +kernel
theorem zd_Writes_performInOrder_24 : decode zb_Writes_performInOrder 24 = .ok (.getfield 18, 3) := by decide +kernel
theorem zd_Writes_performInOrder_27 : decode zb_Writes_performInOrder 27 = .ok (.iload_n 1, 1) := by decide +kernel
theorem zd_Writes_performInOrder_28 : decode zb_Writes_performInOrder 28 = .ok (.laload, 1) := by decide +kernel
theorem zd_Writes_performInOrder_29 : decode zb_Writes_performInOrder 29 = .ok (.invokevirtual 68, 3) := by decide +kernel
theorem zd_Writes_performInOrder_32 : decode zb_Writes_performInOrder 32 = .ok (.iinc 1 1, 3) := by decide +kernel
theorem zd_Writes_performInOrder_35 : decode zb_Writes_performInOrder 35 = .ok (.goto (-33), 3) := by decide +kernel
theorem zd_Writes_performInOrder_38 : decode zb_Writes_performInOrder 38 = .ok (.return_, 1) := by decide +kernel
theorem zd_Writes_performBackwards_0 : decode zb_Writes_performBackwards 0 = .ok (.aload_n 0, 1) := by decide +kernel
theorem zd_Writes_performBackwards_1 : decode zb_Writes_performBackwards 1 = .ok (.getfield 30, 3) := by decide +kernel
theorem zd_Writes_performBackwards_4 : decode zb_Writes_performBackwards 4 = .ok (.iconst 1, 1) := by decide +kernel
theorem zd_Writes_performBackwards_5 : decode zb_Writes_performBackwards 5 = .ok (.isub, 1) := by decide +kernel
theorem zd_Writes_performBackwards_6 : decode zb_Writes_performBackwards 6 = .ok (.istore_n 1, 1) := by decide +kernel
theorem zd_Writes_performBackwards_7 : decode zb_Writes_performBackwards 7 = .ok (.iload_n 1, 1) := by decide +kernel
theorem zd_Writes_performBackwards_8 : decode zb_Writes_performBackwards 8 = .ok (.ifCond .lt 31, 3) := by decide +kernel
theorem zd_Writes_performBackwards_11 : decode zb_Writes_performBackwards 11 = .ok (.aload_n 0, 1) := by decide +kernel
theorem zd_Writes_performBackwards_12 : decode zb_Writes_performBackwards 12 = .ok (.aload_n 0, 1) := by decide +kernel
theorem zd_Writes_performBackwards_13 : decode zb_Writes_performBackwards 13 = .ok (.getfield 9, 3) := by decide +kernel
theorem zd_Writes_performBackwards_16 : decode zb_Writes_performBackwards 16 = .ok (.iload_n 1, 1) := by decide +kernel
theorem zd_Writes_performBackwards_17 : decode zb_Writes_performBackwards 17 = .ok (.iaload, 1) := by decide +kernel
theorem zd_Writes_performBackwards_18 : decode zb_Writes_performBackwards 18 = .ok (.aload_n 0, 1) := by decide +kernel
theorem zd_Writes_performBackwards_19 : decode zb_Writes_performBackwards 19 = .ok (.getfield 15, 3) := by decide +kernel
theorem zd_Writes_performBackwards_22 : decode zb_Writes_performBackwards 22 = .ok (.iload_n 1, 1) := by decide +kernel
theorem zd_Writes_performBackwards_23 : decode zb_Writes_performBackwards 23 = .ok (.iaload, 1) := by decide +kernel
theorem zd_Writes_performBackwards_24 : decode zb_Writes_performBackwards 24 = .ok (.aload_n 0, 1) := by decide +kernel
theorem zd_Writes_performBackwards_25 : decode zb_Writes_performBackwards 25 = .ok (.getfield 18, 3) := by decide +kernel
theorem zd_Writes_performBackwards_28 : decode zb_Writes_performBackwards 28 = .ok (.iload_n 1, 1) := by decide +kernel
theorem zd_Writes_performBackwards_29 : decode zb_Writes_performBackwards 29 = .ok (.laload, 1) := by decide +kernel
theorem zd_Writes_performBackwards_30 : decode zb_Writes_performBackwards 30 = .ok (.invokevirtual 68, 3) := by decide +kernel
theorem zd_Writes_performBackwards_33 : decode zb_Writes_performBackwards 33 = .ok (.iinc 1 (-1), 3) := by decide +kernel
theorem zd_Writes_performBackwards_36 : decode zb_Writes_performBackwards 36 = .ok (.goto (-29), 3) := by decide +kernel
theorem zd_Writes_performBackwards_39 : decode zb_Writes_performBackwards 39 = .ok (.return_, 1) := by decide +kernel
end
section
abbrev W_Registers_add (kT : Nat → ClassId) (ad : Nat → Nat) (rn : Int32) (rc : Nat → Int64) (rm : Nat → Int32) : va_W := [(ad 1, .inr (0, [.ref (ad 2), .ref (ad 3), .ref (ad 4), .int rn])), (ad 2, .inl (kT 1, 24, .inr (.inl rc))), (ad 4, .inl (kT 2, 24, .inl rm))]
def wp_Registers_add (rn : Int32) (rc : Nat → Int64) (rm : Nat → Int32) (p0 : Int32) (post : Int32 → Int32 → (Nat → Int64) → (Nat → Int32) → Prop) : Prop := vp_in rn 24 ∧ vp_in rn 24 ∧ post ((rn + 1) - 1) (rn + 1) (vp_updL rc rn.toNatClampNeg (zq_j_lushr (-1) (64 - p0))) (upd rm rn.toNatClampNeg (vp_nar .boolean 1))
set_option maxHeartbeats 4000000 in
set_option maxRecDepth 100000 in
theorem c_Registers_add (l : Launch) (D : va_G) (kT : Nat → ClassId) (ad : Nat → Nat) (rn : Int32) (rc : Nat → Int64) (rm : Nat → Int32) (p0 : Int32) (post : Int32 → Int32 → (Nat → Int64) → (Nat → Int32) → Prop) (h : wp_Registers_add rn rc rm p0 post) : zq_Mi l zy_Registers_add zs_Registers_add ({ frames := 0, cells := 0, slots := 0, locals := 0 }) D kT [.ref (ad 1), .int p0] (W_Registers_add kT ad rn rc rm) (fun r w' => ∃ (rn' : Int32) (rc' : Nat → Int64) (rm' : Nat → Int32), w' = (W_Registers_add kT ad rn' rc' rm') ∧ post r rn' rc' rm') := by
  refine zq_Mi_of (cc := zb_Registers_add) (maxL := 2) (own := zR_Registers) (by decide) rfl rfl (Nat.le_of_ble_eq_true rfl) ?_
  intro p e s m AV below meth c A QQ H locs ls hx hb hml hown ht hE hA hret hP hD hS hl
  have hK := hE.1
  have hl : lv_has ls 2 [(0, .ref (ad 1)), (1, .int p0)] := hl
  refine lv_aload_n hx hb zd_Registers_add_0 rfl (lv_at hl 0 rfl) ?_
  refine va_get (D := D) (ci := 0) (v := .ref (ad 2)) (C := zR_Registers) (T := zF_Registers) (N := 4) hx hb ht zi_Registers hown hK hP 0 rfl rfl 0 (by decide) (ht _ zw_120) (fun _ h9 => h9) rfl zd_Registers_add_1 ?_
  refine lv_aload_n hx hb zd_Registers_add_4 rfl (lv_at hl 0 rfl) ?_
  refine va_get (D := D) (ci := 0) (v := .int rn) (C := zR_Registers) (T := zF_Registers) (N := 4) hx hb ht zi_Registers hown hK hP 0 rfl rfl 3 (by decide) (ht _ zw_121) (fun _ h9 => h9) rfl zd_Registers_add_5 ?_
  refine W.ldc2 (v := (-1)) hx hb hown (ht _ zw_122) rfl zd_Registers_add_8 ?_
  refine W.eq (g2 := F0 m 11 ls [.long (-1), .int rn, .ref (ad 2)]) rfl ?_
  refine lv_bipush (v := 64) hx hb zd_Registers_add_11 (by decide) ?_
  refine lv_iload_n hx hb zd_Registers_add_13 rfl (lv_at hl 1 rfl) ?_
  refine lv_isub hx hb zd_Registers_add_14 ?_
  refine lv_lushr (v := (zq_j_lushr (-1) (64 - p0))) hx hb zd_Registers_add_15 rfl ?_
  obtain ⟨hi_1, h⟩ := h
  refine zq_a_last (D := D) hx hb hK hP hD hS 1 1 rfl rfl hi_1 rfl zd_Registers_add_16 (fun H locs hP hD hS => ?_)
  have hP : va_P D vwCl (W_Registers_add kT ad rn (vp_updL rc rn.toNatClampNeg (zq_j_lushr (-1) (64 - p0))) rm) H := hP
  have hD : va_D A (W_Registers_add kT ad rn (vp_updL rc rn.toNatClampNeg (zq_j_lushr (-1) (64 - p0))) rm) := hD
  refine lv_aload_n hx hb zd_Registers_add_17 rfl (lv_at hl 0 rfl) ?_
  refine va_get (D := D) (ci := 0) (v := .ref (ad 4)) (C := zR_Registers) (T := zF_Registers) (N := 4) hx hb ht zi_Registers hown hK hP 0 rfl rfl 2 (by decide) (ht _ zw_123) (fun _ h9 => h9) rfl zd_Registers_add_18 ?_
  refine lv_aload_n hx hb zd_Registers_add_21 rfl (lv_at hl 0 rfl) ?_
  refine va_get (D := D) (ci := 0) (v := .int rn) (C := zR_Registers) (T := zF_Registers) (N := 4) hx hb ht zi_Registers hown hK hP 0 rfl rfl 3 (by decide) (ht _ zw_121) (fun _ h9 => h9) rfl zd_Registers_add_22 ?_
  refine lv_iconst (v := 1) hx hb zd_Registers_add_25 (by decide) ?_
  obtain ⟨hi_2, h⟩ := h
  refine zq_a_zast (D := D) hx hb hK hP hD hS 2 2 rfl rfl hi_2 rfl zd_Registers_add_26 (fun H locs hP hD hS => ?_)
  have hP : va_P D vwCl (W_Registers_add kT ad rn (vp_updL rc rn.toNatClampNeg (zq_j_lushr (-1) (64 - p0))) (upd rm rn.toNatClampNeg (vp_nar .boolean 1))) H := hP
  have hD : va_D A (W_Registers_add kT ad rn (vp_updL rc rn.toNatClampNeg (zq_j_lushr (-1) (64 - p0))) (upd rm rn.toNatClampNeg (vp_nar .boolean 1))) := hD
  refine lv_aload_n hx hb zd_Registers_add_27 rfl (lv_at hl 0 rfl) ?_
  refine lv_dup hx hb zd_Registers_add_28 rfl ?_
  refine va_get (D := D) (ci := 0) (v := .int rn) (C := zR_Registers) (T := zF_Registers) (N := 4) hx hb ht zi_Registers hown hK hP 0 rfl rfl 3 (by decide) (ht _ zw_121) (fun _ h9 => h9) rfl zd_Registers_add_29 ?_
  refine lv_iconst (v := 1) hx hb zd_Registers_add_32 (by decide) ?_
  refine lv_iadd hx hb zd_Registers_add_33 ?_
  refine va_put (D := D) (ci := 0) (v := .int (rn + 1)) (ty := .int) (C := zR_Registers) (T := zF_Registers) (N := 4) hx hb ht zi_Registers zt_Registers zt_Registers_ok zn_Registers hown hK hP hD hS 0 rfl rfl 3 (by decide) (ht _ zw_121) (fun _ h9 => h9) rfl (by decide +kernel) rfl rfl (Nat.le_of_ble_eq_true rfl) zd_Registers_add_34 (fun H locs hP hD hS => ?_)
  have hP : va_P D vwCl (W_Registers_add kT ad (rn + 1) (vp_updL rc rn.toNatClampNeg (zq_j_lushr (-1) (64 - p0))) (upd rm rn.toNatClampNeg (vp_nar .boolean 1))) H := hP
  have hD : va_D A (W_Registers_add kT ad (rn + 1) (vp_updL rc rn.toNatClampNeg (zq_j_lushr (-1) (64 - p0))) (upd rm rn.toNatClampNeg (vp_nar .boolean 1))) := hD
  refine lv_aload_n hx hb zd_Registers_add_37 rfl (lv_at hl 0 rfl) ?_
  refine va_get (D := D) (ci := 0) (v := .int (rn + 1)) (C := zR_Registers) (T := zF_Registers) (N := 4) hx hb ht zi_Registers hown hK hP 0 rfl rfl 3 (by decide) (ht _ zw_121) (fun _ h9 => h9) rfl zd_Registers_add_38 ?_
  refine lv_iconst (v := 1) hx hb zd_Registers_add_41 (by decide) ?_
  refine lv_isub hx hb zd_Registers_add_42 ?_
  exact hret ((rn + 1) - 1)  _ H locs 43 ls ⟨(rn + 1), (vp_updL rc rn.toNatClampNeg (zq_j_lushr (-1) (64 - p0))), (upd rm rn.toNatClampNeg (vp_nar .boolean 1)), rfl, h⟩ hP rfl hS zd_Registers_add_43
abbrev W_Registers_has (kT : Nat → ClassId) (ad : Nat → Nat) (rn : Int32) : va_W := [(ad 1, .inr (0, [.ref (ad 2), .ref (ad 3), .ref (ad 4), .int rn]))]
def wp_Registers_has (rn : Int32) (p0 : Int32) (post : Int32 → Prop) : Prop := (if p0 < 0 then post 0  else (if rn ≤ p0 then post 0  else post 1 ))
set_option maxHeartbeats 4000000 in
set_option maxRecDepth 100000 in
theorem c_Registers_has (l : Launch) (D : va_G) (kT : Nat → ClassId) (ad : Nat → Nat) (rn : Int32) (p0 : Int32) (post : Int32 → Prop) (h : wp_Registers_has rn p0 post) : zq_Mi l zy_Registers_has zs_Registers_has ({ frames := 0, cells := 0, slots := 0, locals := 0 }) D kT [.ref (ad 1), .int p0] (W_Registers_has kT ad rn) (fun r w' => w' = (W_Registers_has kT ad rn) ∧ post r ) := by
  refine zq_Mz_of (cc := zb_Registers_has) (maxL := 2) (own := zR_Registers) (by decide) rfl rfl (Nat.le_of_ble_eq_true rfl) ?_
  intro p e s m AV below meth c A QQ H locs ls hx hb hml hown ht hE hA hret hP hD hS hl
  have hK := hE.1
  have hl : lv_has ls 2 [(0, .ref (ad 1)), (1, .int p0)] := hl
  refine lv_iload_n hx hb zd_Registers_has_0 rfl (lv_at hl 1 rfl) ?_
  refine lv_if_lt (tgt := 16) hx hb zd_Registers_has_1 (by decide) (fun c_1 => ?_) (fun c_1 => ?_)
  · have h := zq_it c_1 h
    refine lv_iconst (v := 0) hx hb zd_Registers_has_16 (by decide) ?_
    exact hret 0 rfl _ H locs 17 ls ⟨rfl, h⟩ hP rfl hS zd_Registers_has_17
  · have h := zq_if c_1 h
    refine lv_iload_n hx hb zd_Registers_has_4 rfl (lv_at hl 1 rfl) ?_
    refine lv_aload_n hx hb zd_Registers_has_5 rfl (lv_at hl 0 rfl) ?_
    refine va_get (D := D) (ci := 0) (v := .int rn) (C := zR_Registers) (T := zF_Registers) (N := 4) hx hb ht zi_Registers hown hK hP 0 rfl rfl 3 (by decide) (ht _ zw_121) (fun _ h9 => h9) rfl zd_Registers_has_6 ?_
    refine lv_icmp_ge (tgt := 16) hx hb zd_Registers_has_9 (by decide) (fun c_2 => ?_) (fun c_2 => ?_)
    · have h := zq_it c_2 h
      refine lv_iconst (v := 0) hx hb zd_Registers_has_16 (by decide) ?_
      exact hret 0 rfl _ H locs 17 ls ⟨rfl, h⟩ hP rfl hS zd_Registers_has_17
    · have h := zq_if c_2 h
      refine lv_iconst (v := 1) hx hb zd_Registers_has_12 (by decide) ?_
      refine lv_goto (tgt := 17) hx hb zd_Registers_has_13 (by decide) ?_
      exact hret 1 rfl _ H locs 17 ls ⟨rfl, h⟩ hP rfl hS zd_Registers_has_17
abbrev W_Registers_valueOf (kT : Nat → ClassId) (ad : Nat → Nat) (rn : Int32) (rv : Nat → Int64) : va_W := [(ad 1, .inr (0, [.ref (ad 2), .ref (ad 3), .ref (ad 4), .int rn])), (ad 3, .inl (kT 1, 24, .inr (.inl rv)))]
def wp_Registers_valueOf (rn : Int32) (rv : Nat → Int64) (p0 : Int32) (post : Int64 → Prop) : Prop := vp_in p0 24 ∧ post (rv p0.toNatClampNeg) 
set_option maxHeartbeats 4000000 in
set_option maxRecDepth 100000 in
theorem c_Registers_valueOf (l : Launch) (D : va_G) (kT : Nat → ClassId) (ad : Nat → Nat) (rn : Int32) (rv : Nat → Int64) (p0 : Int32) (post : Int64 → Prop) (h : wp_Registers_valueOf rn rv p0 post) : zq_Ml l zy_Registers_valueOf zs_Registers_valueOf ({ frames := 0, cells := 0, slots := 0, locals := 0 }) D kT [.ref (ad 1), .int p0] (W_Registers_valueOf kT ad rn rv) (fun r w' => w' = (W_Registers_valueOf kT ad rn rv) ∧ post r ) := by
  refine zq_Ml_of (cc := zb_Registers_valueOf) (maxL := 2) (own := zR_Registers) (by decide) rfl rfl (Nat.le_of_ble_eq_true rfl) ?_
  intro p e s m AV below meth c A QQ H locs ls hx hb hml hown ht hE hA hret hP hD hS hl
  have hK := hE.1
  have hl : lv_has ls 2 [(0, .ref (ad 1)), (1, .int p0)] := hl
  refine lv_aload_n hx hb zd_Registers_valueOf_0 rfl (lv_at hl 0 rfl) ?_
  refine va_get (D := D) (ci := 0) (v := .ref (ad 3)) (C := zR_Registers) (T := zF_Registers) (N := 4) hx hb ht zi_Registers hown hK hP 0 rfl rfl 1 (by decide) (ht _ zw_124) (fun _ h9 => h9) rfl zd_Registers_valueOf_1 ?_
  refine lv_iload_n hx hb zd_Registers_valueOf_4 rfl (lv_at hl 1 rfl) ?_
  obtain ⟨hi_1, h⟩ := h
  refine zq_a_lald (D := D) hx hb hK hP 1 1 rfl rfl hi_1 rfl zd_Registers_valueOf_5 ?_
  exact hret (rv p0.toNatClampNeg)  _ H locs 6 ls ⟨rfl, h⟩ hP rfl hS zd_Registers_valueOf_6
abbrev W_Registers_isMarked (kT : Nat → ClassId) (ad : Nat → Nat) (rn : Int32) (rm : Nat → Int32) : va_W := [(ad 1, .inr (0, [.ref (ad 2), .ref (ad 3), .ref (ad 4), .int rn])), (ad 4, .inl (kT 2, 24, .inl rm))]
def wp_Registers_isMarked (rn : Int32) (rm : Nat → Int32) (p0 : Int32) (post : Int32 → Prop) : Prop := vp_in p0 24 ∧ zq_bz (rm p0.toNatClampNeg) ∧ post (rm p0.toNatClampNeg) 
set_option maxHeartbeats 4000000 in
set_option maxRecDepth 100000 in
theorem c_Registers_isMarked (l : Launch) (D : va_G) (kT : Nat → ClassId) (ad : Nat → Nat) (rn : Int32) (rm : Nat → Int32) (p0 : Int32) (post : Int32 → Prop) (h : wp_Registers_isMarked rn rm p0 post) : zq_Mi l zy_Registers_isMarked zs_Registers_isMarked ({ frames := 0, cells := 0, slots := 0, locals := 0 }) D kT [.ref (ad 1), .int p0] (W_Registers_isMarked kT ad rn rm) (fun r w' => w' = (W_Registers_isMarked kT ad rn rm) ∧ post r ) := by
  refine zq_Mz_of (cc := zb_Registers_isMarked) (maxL := 2) (own := zR_Registers) (by decide) rfl rfl (Nat.le_of_ble_eq_true rfl) ?_
  intro p e s m AV below meth c A QQ H locs ls hx hb hml hown ht hE hA hret hP hD hS hl
  have hK := hE.1
  have hl : lv_has ls 2 [(0, .ref (ad 1)), (1, .int p0)] := hl
  refine lv_aload_n hx hb zd_Registers_isMarked_0 rfl (lv_at hl 0 rfl) ?_
  refine va_get (D := D) (ci := 0) (v := .ref (ad 4)) (C := zR_Registers) (T := zF_Registers) (N := 4) hx hb ht zi_Registers hown hK hP 0 rfl rfl 2 (by decide) (ht _ zw_123) (fun _ h9 => h9) rfl zd_Registers_isMarked_1 ?_
  refine lv_iload_n hx hb zd_Registers_isMarked_4 rfl (lv_at hl 1 rfl) ?_
  obtain ⟨hi_1, h⟩ := h
  refine zq_a_zald (D := D) hx hb hK hP 1 2 rfl rfl hi_1 rfl zd_Registers_isMarked_5 ?_
  obtain ⟨hb_2, h⟩ := h
  exact hret (rm p0.toNatClampNeg) (zq_bzn hb_2) _ H locs 6 ls ⟨rfl, h⟩ hP rfl hS zd_Registers_isMarked_6
abbrev W_Registers_put (kT : Nat → ClassId) (ad : Nat → Nat) (rn : Int32) (rc : Nat → Int64) (rv : Nat → Int64) (rm : Nat → Int32) : va_W := [(ad 1, .inr (0, [.ref (ad 2), .ref (ad 3), .ref (ad 4), .int rn])), (ad 2, .inl (kT 1, 24, .inr (.inl rc))), (ad 3, .inl (kT 1, 24, .inr (.inl rv))), (ad 4, .inl (kT 2, 24, .inl rm))]
def wp_Registers_put (rn : Int32) (rc : Nat → Int64) (rv : Nat → Int64) (rm : Nat → Int32) (p0 : Int32) (p1 : Int64) (p2 : Int32) (post : (Nat → Int64) → (Nat → Int32) → Prop) : Prop := vp_in p0 24 ∧ vp_in p0 24 ∧ vp_in p0 24 ∧ post  (vp_updL rv p0.toNatClampNeg (p1 &&& (rc p0.toNatClampNeg))) (upd rm p0.toNatClampNeg (vp_nar .boolean p2))
set_option maxHeartbeats 4000000 in
set_option maxRecDepth 100000 in
theorem c_Registers_put (l : Launch) (D : va_G) (kT : Nat → ClassId) (ad : Nat → Nat) (rn : Int32) (rc : Nat → Int64) (rv : Nat → Int64) (rm : Nat → Int32) (p0 : Int32) (p1 : Int64) (p2 : Int32) (post : (Nat → Int64) → (Nat → Int32) → Prop) (h : wp_Registers_put rn rc rv rm p0 p1 p2 post) : zq_Mv l zy_Registers_put zs_Registers_put ({ frames := 0, cells := 0, slots := 0, locals := 0 }) D kT [.ref (ad 1), .int p0, .long p1, .int p2] (W_Registers_put kT ad rn rc rv rm) (fun w' => ∃ (rv' : Nat → Int64) (rm' : Nat → Int32), w' = (W_Registers_put kT ad rn rc rv' rm') ∧ post  rv' rm') := by
  refine zq_Mv_of (cc := zb_Registers_put) (maxL := 5) (own := zR_Registers) (by decide) rfl rfl (Nat.le_of_ble_eq_true rfl) ?_
  intro p e s m AV below meth c A QQ H locs ls hx hb hml hown ht hE hA hret hP hD hS hl
  have hK := hE.1
  have hl : lv_has ls 5 [(0, .ref (ad 1)), (1, .int p0), (2, .long p1), (4, .int p2)] := hl
  refine lv_aload_n hx hb zd_Registers_put_0 rfl (lv_at hl 0 rfl) ?_
  refine va_get (D := D) (ci := 0) (v := .ref (ad 3)) (C := zR_Registers) (T := zF_Registers) (N := 4) hx hb ht zi_Registers hown hK hP 0 rfl rfl 1 (by decide) (ht _ zw_124) (fun _ h9 => h9) rfl zd_Registers_put_1 ?_
  refine lv_iload_n hx hb zd_Registers_put_4 rfl (lv_at hl 1 rfl) ?_
  refine lv_lload_n hx hb zd_Registers_put_5 rfl (lv_at hl 2 rfl) ?_
  refine lv_aload_n hx hb zd_Registers_put_6 rfl (lv_at hl 0 rfl) ?_
  refine va_get (D := D) (ci := 0) (v := .ref (ad 2)) (C := zR_Registers) (T := zF_Registers) (N := 4) hx hb ht zi_Registers hown hK hP 0 rfl rfl 0 (by decide) (ht _ zw_120) (fun _ h9 => h9) rfl zd_Registers_put_7 ?_
  refine lv_iload_n hx hb zd_Registers_put_10 rfl (lv_at hl 1 rfl) ?_
  obtain ⟨hi_1, h⟩ := h
  refine zq_a_lald (D := D) hx hb hK hP 1 1 rfl rfl hi_1 rfl zd_Registers_put_11 ?_
  refine lv_land hx hb zd_Registers_put_12 ?_
  obtain ⟨hi_2, h⟩ := h
  refine zq_a_last (D := D) hx hb hK hP hD hS 2 1 rfl rfl hi_2 rfl zd_Registers_put_13 (fun H locs hP hD hS => ?_)
  have hP : va_P D vwCl (W_Registers_put kT ad rn rc (vp_updL rv p0.toNatClampNeg (p1 &&& (rc p0.toNatClampNeg))) rm) H := hP
  have hD : va_D A (W_Registers_put kT ad rn rc (vp_updL rv p0.toNatClampNeg (p1 &&& (rc p0.toNatClampNeg))) rm) := hD
  refine lv_aload_n hx hb zd_Registers_put_14 rfl (lv_at hl 0 rfl) ?_
  refine va_get (D := D) (ci := 0) (v := .ref (ad 4)) (C := zR_Registers) (T := zF_Registers) (N := 4) hx hb ht zi_Registers hown hK hP 0 rfl rfl 2 (by decide) (ht _ zw_123) (fun _ h9 => h9) rfl zd_Registers_put_15 ?_
  refine lv_iload_n hx hb zd_Registers_put_18 rfl (lv_at hl 1 rfl) ?_
  refine lv_iload hx hb zd_Registers_put_19 (lv_at hl 3 rfl) ?_
  obtain ⟨hi_3, h⟩ := h
  refine zq_a_zast (D := D) hx hb hK hP hD hS 3 2 rfl rfl hi_3 rfl zd_Registers_put_21 (fun H locs hP hD hS => ?_)
  have hP : va_P D vwCl (W_Registers_put kT ad rn rc (vp_updL rv p0.toNatClampNeg (p1 &&& (rc p0.toNatClampNeg))) (upd rm p0.toNatClampNeg (vp_nar .boolean p2))) H := hP
  have hD : va_D A (W_Registers_put kT ad rn rc (vp_updL rv p0.toNatClampNeg (p1 &&& (rc p0.toNatClampNeg))) (upd rm p0.toNatClampNeg (vp_nar .boolean p2))) := hD
  exact hret  _ H locs 22 ls ⟨(vp_updL rv p0.toNatClampNeg (p1 &&& (rc p0.toNatClampNeg))), (upd rm p0.toNatClampNeg (vp_nar .boolean p2)), rfl, h⟩ hP rfl hS zd_Registers_put_22
abbrev W_Registers_placeNow (kT : Nat → ClassId) (ad : Nat → Nat) (rn : Int32) (rv : Nat → Int64) : va_W := [(ad 1, .inr (0, [.ref (ad 2), .ref (ad 3), .ref (ad 4), .int rn])), (ad 3, .inl (kT 1, 24, .inr (.inl rv)))]
def wp_Registers_placeNow (rn : Int32) (rv : Nat → Int64)  (post : Int32 → Prop) : Prop := post (zq_j_l2i (rv 0)) 
set_option maxHeartbeats 4000000 in
set_option maxRecDepth 100000 in
theorem c_Registers_placeNow (l : Launch) (D : va_G) (kT : Nat → ClassId) (ad : Nat → Nat) (rn : Int32) (rv : Nat → Int64)  (post : Int32 → Prop) (h : wp_Registers_placeNow rn rv  post) : zq_Mi l zy_Registers_placeNow zs_Registers_placeNow ({ frames := 0, cells := 0, slots := 0, locals := 0 }) D kT [.ref (ad 1)] (W_Registers_placeNow kT ad rn rv) (fun r w' => w' = (W_Registers_placeNow kT ad rn rv) ∧ post r ) := by
  refine zq_Mi_of (cc := zb_Registers_placeNow) (maxL := 1) (own := zR_Registers) (by decide) rfl rfl (Nat.le_of_ble_eq_true rfl) ?_
  intro p e s m AV below meth c A QQ H locs ls hx hb hml hown ht hE hA hret hP hD hS hl
  have hK := hE.1
  have hl : lv_has ls 1 [(0, .ref (ad 1))] := hl
  refine lv_aload_n hx hb zd_Registers_placeNow_0 rfl (lv_at hl 0 rfl) ?_
  refine va_get (D := D) (ci := 0) (v := .ref (ad 3)) (C := zR_Registers) (T := zF_Registers) (N := 4) hx hb ht zi_Registers hown hK hP 0 rfl rfl 1 (by decide) (ht _ zw_124) (fun _ h9 => h9) rfl zd_Registers_placeNow_1 ?_
  refine lv_iconst (v := 0) hx hb zd_Registers_placeNow_4 (by decide) ?_
  refine zq_a_lald (D := D) (j := 0) hx hb hK hP 1 1 rfl rfl (zq_in (by decide)) (by decide) zd_Registers_placeNow_5 ?_
  refine lv_l2i (v := (zq_j_l2i (rv 0))) hx hb zd_Registers_placeNow_6 rfl ?_
  exact hret (zq_j_l2i (rv 0))  _ H locs 7 ls ⟨rfl, h⟩ hP rfl hS zd_Registers_placeNow_7
abbrev W_Registers_movePlace (kT : Nat → ClassId) (ad : Nat → Nat) (rn : Int32) (rc : Nat → Int64) (rv : Nat → Int64) (rm : Nat → Int32) : va_W := [(ad 1, .inr (0, [.ref (ad 2), .ref (ad 3), .ref (ad 4), .int rn])), (ad 2, .inl (kT 1, 24, .inr (.inl rc))), (ad 3, .inl (kT 1, 24, .inr (.inl rv))), (ad 4, .inl (kT 2, 24, .inl rm))]
def wp_Registers_movePlace (rn : Int32) (rc : Nat → Int64) (rv : Nat → Int64) (rm : Nat → Int32) (p0 : Int32) (post : (Nat → Int64) → (Nat → Int32) → Prop) : Prop := wp_Registers_put rn rc rv rm 0 (zq_j_i2l p0) (rm 0) (fun rv_1 rm_2 => post  rv_1 rm_2)
set_option maxHeartbeats 4000000 in
set_option maxRecDepth 100000 in
theorem c_Registers_movePlace (l : Launch) (D : va_G) (kT : Nat → ClassId) (ad : Nat → Nat) (rn : Int32) (rc : Nat → Int64) (rv : Nat → Int64) (rm : Nat → Int32) (p0 : Int32) (post : (Nat → Int64) → (Nat → Int32) → Prop) (h : wp_Registers_movePlace rn rc rv rm p0 post) : zq_Mv l zy_Registers_movePlace zs_Registers_movePlace ({ frames := 1, cells := 0, slots := 0, locals := 24 }) D kT [.ref (ad 1), .int p0] (W_Registers_movePlace kT ad rn rc rv rm) (fun w' => ∃ (rv' : Nat → Int64) (rm' : Nat → Int32), w' = (W_Registers_movePlace kT ad rn rc rv' rm') ∧ post  rv' rm') := by
  refine zq_Mv_of (cc := zb_Registers_movePlace) (maxL := 2) (own := zR_Registers) (by decide) rfl rfl (Nat.le_of_ble_eq_true rfl) ?_
  intro p e s m AV below meth c A QQ H locs ls hx hb hml hown ht hE hA hret hP hD hS hl
  have hK := hE.1
  have hl : lv_has ls 2 [(0, .ref (ad 1)), (1, .int p0)] := hl
  refine lv_aload_n hx hb zd_Registers_movePlace_0 rfl (lv_at hl 0 rfl) ?_
  refine lv_iconst (v := 0) hx hb zd_Registers_movePlace_1 (by decide) ?_
  refine lv_iload_n hx hb zd_Registers_movePlace_2 rfl (lv_at hl 1 rfl) ?_
  refine lv_i2l (v := (zq_j_i2l p0)) hx hb zd_Registers_movePlace_3 rfl ?_
  refine lv_aload_n hx hb zd_Registers_movePlace_4 rfl (lv_at hl 0 rfl) ?_
  refine va_get (D := D) (ci := 0) (v := .ref (ad 4)) (C := zR_Registers) (T := zF_Registers) (N := 4) hx hb ht zi_Registers hown hK hP 0 rfl rfl 2 (by decide) (ht _ zw_123) (fun _ h9 => h9) rfl zd_Registers_movePlace_5 ?_
  refine lv_iconst (v := 0) hx hb zd_Registers_movePlace_8 (by decide) ?_
  refine zq_a_zald (D := D) (j := 0) hx hb hK hP 3 2 rfl rfl (zq_in (by decide)) (by decide) zd_Registers_movePlace_9 ?_
  refine zq_c_Vv (rest := []) ⟨hx, hb, hml, hown, ht⟩ (c_Registers_put l D kT ad rn rc rv rm 0 (zq_j_i2l p0) (rm 0) _ h) (cwV 3 ht (zq_gV zw_125 zw_126 zw_127 zw_128 zw_129) rfl rfl rfl zh_Registers_put ⟨Nat.le_of_ble_eq_true rfl, Nat.le_of_ble_eq_true rfl⟩) hE hP hD hS hA [0, 1, 2, 3] rfl rfl 0 rfl rfl rfl rfl hl.1 (Nat.le_of_ble_eq_true rfl) rfl zd_Registers_movePlace_10 ⟨Nat.zero_le _, Nat.zero_le _⟩ (fun w1 H locs hw hP hD hS => ?_)
  obtain ⟨rv_1, rm_2, rfl, h⟩ := hw
  have hP : va_P D vwCl (W_Registers_movePlace kT ad rn rc rv_1 rm_2) H := hP
  have hD : va_D A (W_Registers_movePlace kT ad rn rc rv_1 rm_2) := hD
  exact hret  _ H locs 13 ls ⟨rv_1, rm_2, rfl, h⟩ hP rfl hS zd_Registers_movePlace_13
end

-- ===== PART A: goes FIRST, ahead of the names: the tables' words, and 'selects' of the private methods out of them =====
/-- a private method of a class that the tables say can be made, by its rows of tables_1 -/
def lw_okq (q : MethodName × Nat) : Prop := (q.1.cls ≠ "java/lang/invoke/MethodHandle" ∧ q.1.cls ≠ "java/lang/invoke/VarHandle") ∧ Cond.instantiable q.1.cls q.2 ∈ tables_1 ∧ Cond.privateMethod q.1 ∈ tables_1 ∧ Cond.instanceMethod q.1 ∈ tables_1
theorem lw_p0 : lw_okq (⟨"java/lang/Throwable", "fillInStackTrace", "(I)Ljava/lang/Throwable;"⟩, 6) := ⟨⟨by decide +kernel, by decide +kernel⟩, List.mem_of_getElem? (i := 374) (by decide +kernel), List.mem_of_getElem? (i := 372) (by decide +kernel), List.mem_of_getElem? (i := 373) (by decide +kernel)⟩
theorem lw_p1 : lw_okq (⟨"PlainSteps$Machine", "interruptBy", "(I)V"⟩, 11) := ⟨⟨by decide +kernel, by decide +kernel⟩, List.mem_of_getElem? (i := 254) (by decide +kernel), List.mem_of_getElem? (i := 567) (by decide +kernel), List.mem_of_getElem? (i := 568) (by decide +kernel)⟩
theorem lw_p2 : lw_okq (⟨"PlainSteps$Machine", "failWith", "(II)V"⟩, 11) := ⟨⟨by decide +kernel, by decide +kernel⟩, List.mem_of_getElem? (i := 254) (by decide +kernel), List.mem_of_getElem? (i := 600) (by decide +kernel), List.mem_of_getElem? (i := 601) (by decide +kernel)⟩
theorem lw_p3 : lw_okq (⟨"PlainSteps$Work", "prepare", "(II)V"⟩, 14) := ⟨⟨by decide +kernel, by decide +kernel⟩, List.mem_of_getElem? (i := 178) (by decide +kernel), List.mem_of_getElem? (i := 621) (by decide +kernel), List.mem_of_getElem? (i := 622) (by decide +kernel)⟩
theorem lw_p4 : lw_okq (⟨"PlainSteps$Work", "doTransfer", "(I)I"⟩, 14) := ⟨⟨by decide +kernel, by decide +kernel⟩, List.mem_of_getElem? (i := 178) (by decide +kernel), List.mem_of_getElem? (i := 633) (by decide +kernel), List.mem_of_getElem? (i := 634) (by decide +kernel)⟩
theorem lw_p5 : lw_okq (⟨"PlainSteps$Operands", "readField", "(II)J"⟩, 7) := ⟨⟨by decide +kernel, by decide +kernel⟩, List.mem_of_getElem? (i := 62) (by decide +kernel), List.mem_of_getElem? (i := 641) (by decide +kernel), List.mem_of_getElem? (i := 642) (by decide +kernel)⟩
theorem lw_p6 : lw_okq (⟨"PlainSteps$Work", "divide", "(IJJII)I"⟩, 14) := ⟨⟨by decide +kernel, by decide +kernel⟩, List.mem_of_getElem? (i := 178) (by decide +kernel), List.mem_of_getElem? (i := 657) (by decide +kernel), List.mem_of_getElem? (i := 658) (by decide +kernel)⟩
theorem lw_p7 : lw_okq (⟨"PlainSteps$Work", "write", "(IIJ)V"⟩, 14) := ⟨⟨by decide +kernel, by decide +kernel⟩, List.mem_of_getElem? (i := 178) (by decide +kernel), List.mem_of_getElem? (i := 668) (by decide +kernel), List.mem_of_getElem? (i := 669) (by decide +kernel)⟩
theorem lw_p8 : lw_okq (⟨"PlainSteps$Work", "load", "(ZJII)I"⟩, 14) := ⟨⟨by decide +kernel, by decide +kernel⟩, List.mem_of_getElem? (i := 178) (by decide +kernel), List.mem_of_getElem? (i := 695) (by decide +kernel), List.mem_of_getElem? (i := 696) (by decide +kernel)⟩
theorem lw_p9 : lw_okq (⟨"PlainSteps$Work", "store", "(ZJJ)I"⟩, 14) := ⟨⟨by decide +kernel, by decide +kernel⟩, List.mem_of_getElem? (i := 178) (by decide +kernel), List.mem_of_getElem? (i := 703) (by decide +kernel), List.mem_of_getElem? (i := 704) (by decide +kernel)⟩
theorem lw_p10 : lw_okq (⟨"PlainSteps$Work", "goBack", "()I"⟩, 14) := ⟨⟨by decide +kernel, by decide +kernel⟩, List.mem_of_getElem? (i := 178) (by decide +kernel), List.mem_of_getElem? (i := 708) (by decide +kernel), List.mem_of_getElem? (i := 709) (by decide +kernel)⟩
theorem lw_p11 : lw_okq (⟨"PlainSteps$Work", "writeWhatWaits", "()V"⟩, 14) := ⟨⟨by decide +kernel, by decide +kernel⟩, List.mem_of_getElem? (i := 178) (by decide +kernel), List.mem_of_getElem? (i := 720) (by decide +kernel), List.mem_of_getElem? (i := 721) (by decide +kernel)⟩
theorem lw_p12 : lw_okq (⟨"PlainSteps$Work", "takeBack", "()V"⟩, 14) := ⟨⟨by decide +kernel, by decide +kernel⟩, List.mem_of_getElem? (i := 178) (by decide +kernel), List.mem_of_getElem? (i := 730) (by decide +kernel), List.mem_of_getElem? (i := 731) (by decide +kernel)⟩
theorem lw_p13 : lw_okq (⟨"PlainSteps$Machine", "settlePlace", "(IZ)V"⟩, 11) := ⟨⟨by decide +kernel, by decide +kernel⟩, List.mem_of_getElem? (i := 254) (by decide +kernel), List.mem_of_getElem? (i := 743) (by decide +kernel), List.mem_of_getElem? (i := 744) (by decide +kernel)⟩
theorem lw_p14 : lw_okq (⟨"PlainStepsModel", "goes", "(ZZ)Z"⟩, 52) := ⟨⟨by decide +kernel, by decide +kernel⟩, List.mem_of_getElem? (i := 816) (by decide +kernel), List.mem_of_getElem? (i := 991) (by decide +kernel), List.mem_of_getElem? (i := 992) (by decide +kernel)⟩
theorem lw_p15 : lw_okq (⟨"PlainStepsModel", "isOperand", "(I)Z"⟩, 52) := ⟨⟨by decide +kernel, by decide +kernel⟩, List.mem_of_getElem? (i := 816) (by decide +kernel), List.mem_of_getElem? (i := 1009) (by decide +kernel), List.mem_of_getElem? (i := 1010) (by decide +kernel)⟩
def lw_privs_1 : List (MethodName × Nat) := [(⟨"java/lang/Throwable", "fillInStackTrace", "(I)Ljava/lang/Throwable;"⟩, 6), (⟨"PlainSteps$Machine", "interruptBy", "(I)V"⟩, 11), (⟨"PlainSteps$Machine", "failWith", "(II)V"⟩, 11), (⟨"PlainSteps$Work", "prepare", "(II)V"⟩, 14), (⟨"PlainSteps$Work", "doTransfer", "(I)I"⟩, 14), (⟨"PlainSteps$Operands", "readField", "(II)J"⟩, 7), (⟨"PlainSteps$Work", "divide", "(IJJII)I"⟩, 14), (⟨"PlainSteps$Work", "write", "(IIJ)V"⟩, 14), (⟨"PlainSteps$Work", "load", "(ZJII)I"⟩, 14), (⟨"PlainSteps$Work", "store", "(ZJJ)I"⟩, 14), (⟨"PlainSteps$Work", "goBack", "()I"⟩, 14), (⟨"PlainSteps$Work", "writeWhatWaits", "()V"⟩, 14), (⟨"PlainSteps$Work", "takeBack", "()V"⟩, 14), (⟨"PlainSteps$Machine", "settlePlace", "(IZ)V"⟩, 11), (⟨"PlainStepsModel", "goes", "(ZZ)Z"⟩, 52), (⟨"PlainStepsModel", "isOperand", "(I)Z"⟩, 52)]
theorem lw_r1 : ∀ q ∈ lw_privs_1, lw_okq q := List.forall_mem_cons.mpr ⟨lw_p0, List.forall_mem_cons.mpr ⟨lw_p1, List.forall_mem_cons.mpr ⟨lw_p2, List.forall_mem_cons.mpr ⟨lw_p3, List.forall_mem_cons.mpr ⟨lw_p4, List.forall_mem_cons.mpr ⟨lw_p5, List.forall_mem_cons.mpr ⟨lw_p6, List.forall_mem_cons.mpr ⟨lw_p7, List.forall_mem_cons.mpr ⟨lw_p8, List.forall_mem_cons.mpr ⟨lw_p9, List.forall_mem_cons.mpr ⟨lw_p10, List.forall_mem_cons.mpr ⟨lw_p11, List.forall_mem_cons.mpr ⟨lw_p12, List.forall_mem_cons.mpr ⟨lw_p13, List.forall_mem_cons.mpr ⟨lw_p14, List.forall_mem_cons.mpr ⟨lw_p15, fun _ h => absurd h List.not_mem_nil⟩⟩⟩⟩⟩⟩⟩⟩⟩⟩⟩⟩⟩⟩⟩⟩
theorem lw_p16 : lw_okq (⟨"PlainStepsModel", "stepOnce", "()V"⟩, 52) := ⟨⟨by decide +kernel, by decide +kernel⟩, List.mem_of_getElem? (i := 816) (by decide +kernel), List.mem_of_getElem? (i := 1035) (by decide +kernel), List.mem_of_getElem? (i := 1036) (by decide +kernel)⟩
theorem lw_p17 : lw_okq (⟨"PlainStepsModel", "waitingLine", "()I"⟩, 52) := ⟨⟨by decide +kernel, by decide +kernel⟩, List.mem_of_getElem? (i := 816) (by decide +kernel), List.mem_of_getElem? (i := 1039) (by decide +kernel), List.mem_of_getElem? (i := 1040) (by decide +kernel)⟩
theorem lw_p18 : lw_okq (⟨"PlainStepsModel", "doInstruction", "()V"⟩, 52) := ⟨⟨by decide +kernel, by decide +kernel⟩, List.mem_of_getElem? (i := 816) (by decide +kernel), List.mem_of_getElem? (i := 1043) (by decide +kernel), List.mem_of_getElem? (i := 1044) (by decide +kernel)⟩
theorem lw_p19 : lw_okq (⟨"PlainStepsModel", "takeFault", "(I)V"⟩, 52) := ⟨⟨by decide +kernel, by decide +kernel⟩, List.mem_of_getElem? (i := 816) (by decide +kernel), List.mem_of_getElem? (i := 1047) (by decide +kernel), List.mem_of_getElem? (i := 1048) (by decide +kernel)⟩
theorem lw_p20 : lw_okq (⟨"PlainStepsModel", "keep", "(III)Z"⟩, 52) := ⟨⟨by decide +kernel, by decide +kernel⟩, List.mem_of_getElem? (i := 816) (by decide +kernel), List.mem_of_getElem? (i := 1051) (by decide +kernel), List.mem_of_getElem? (i := 1052) (by decide +kernel)⟩
theorem lw_p21 : lw_okq (⟨"PlainStepsModel", "find", "()I"⟩, 52) := ⟨⟨by decide +kernel, by decide +kernel⟩, List.mem_of_getElem? (i := 816) (by decide +kernel), List.mem_of_getElem? (i := 1055) (by decide +kernel), List.mem_of_getElem? (i := 1056) (by decide +kernel)⟩
theorem lw_p22 : lw_okq (⟨"PlainStepsModel", "save", "()V"⟩, 52) := ⟨⟨by decide +kernel, by decide +kernel⟩, List.mem_of_getElem? (i := 816) (by decide +kernel), List.mem_of_getElem? (i := 1059) (by decide +kernel), List.mem_of_getElem? (i := 1060) (by decide +kernel)⟩
theorem lw_p23 : lw_okq (⟨"PlainStepsModel", "doAll", "(I)V"⟩, 52) := ⟨⟨by decide +kernel, by decide +kernel⟩, List.mem_of_getElem? (i := 816) (by decide +kernel), List.mem_of_getElem? (i := 1064) (by decide +kernel), List.mem_of_getElem? (i := 1065) (by decide +kernel)⟩
theorem lw_p24 : lw_okq (⟨"PlainStepsModel", "doTransfer", "(II)V"⟩, 52) := ⟨⟨by decide +kernel, by decide +kernel⟩, List.mem_of_getElem? (i := 816) (by decide +kernel), List.mem_of_getElem? (i := 1068) (by decide +kernel), List.mem_of_getElem? (i := 1069) (by decide +kernel)⟩
theorem lw_p25 : lw_okq (⟨"PlainStepsModel", "operand", "(II)J"⟩, 52) := ⟨⟨by decide +kernel, by decide +kernel⟩, List.mem_of_getElem? (i := 816) (by decide +kernel), List.mem_of_getElem? (i := 1072) (by decide +kernel), List.mem_of_getElem? (i := 1073) (by decide +kernel)⟩
theorem lw_p26 : lw_okq (⟨"PlainStepsModel", "isParallel", "(I)Z"⟩, 52) := ⟨⟨by decide +kernel, by decide +kernel⟩, List.mem_of_getElem? (i := 816) (by decide +kernel), List.mem_of_getElem? (i := 1076) (by decide +kernel), List.mem_of_getElem? (i := 1077) (by decide +kernel)⟩
theorem lw_p27 : lw_okq (⟨"PlainStepsModel", "store", "(IJJI)V"⟩, 52) := ⟨⟨by decide +kernel, by decide +kernel⟩, List.mem_of_getElem? (i := 816) (by decide +kernel), List.mem_of_getElem? (i := 1081) (by decide +kernel), List.mem_of_getElem? (i := 1082) (by decide +kernel)⟩
theorem lw_p28 : lw_okq (⟨"PlainStepsModel", "isThere", "(JI)Z"⟩, 52) := ⟨⟨by decide +kernel, by decide +kernel⟩, List.mem_of_getElem? (i := 816) (by decide +kernel), List.mem_of_getElem? (i := 1085) (by decide +kernel), List.mem_of_getElem? (i := 1086) (by decide +kernel)⟩
theorem lw_p29 : lw_okq (⟨"PlainStepsModel", "later", "(IIJZ)V"⟩, 52) := ⟨⟨by decide +kernel, by decide +kernel⟩, List.mem_of_getElem? (i := 816) (by decide +kernel), List.mem_of_getElem? (i := 1089) (by decide +kernel), List.mem_of_getElem? (i := 1090) (by decide +kernel)⟩
theorem lw_p30 : lw_okq (⟨"PlainStepsModel", "setMemory", "(IJI)V"⟩, 52) := ⟨⟨by decide +kernel, by decide +kernel⟩, List.mem_of_getElem? (i := 816) (by decide +kernel), List.mem_of_getElem? (i := 1093) (by decide +kernel), List.mem_of_getElem? (i := 1094) (by decide +kernel)⟩
theorem lw_p31 : lw_okq (⟨"PlainStepsModel", "markOnly", "(II)V"⟩, 52) := ⟨⟨by decide +kernel, by decide +kernel⟩, List.mem_of_getElem? (i := 816) (by decide +kernel), List.mem_of_getElem? (i := 1097) (by decide +kernel), List.mem_of_getElem? (i := 1098) (by decide +kernel)⟩
def lw_privs_2 : List (MethodName × Nat) := [(⟨"PlainStepsModel", "stepOnce", "()V"⟩, 52), (⟨"PlainStepsModel", "waitingLine", "()I"⟩, 52), (⟨"PlainStepsModel", "doInstruction", "()V"⟩, 52), (⟨"PlainStepsModel", "takeFault", "(I)V"⟩, 52), (⟨"PlainStepsModel", "keep", "(III)Z"⟩, 52), (⟨"PlainStepsModel", "find", "()I"⟩, 52), (⟨"PlainStepsModel", "save", "()V"⟩, 52), (⟨"PlainStepsModel", "doAll", "(I)V"⟩, 52), (⟨"PlainStepsModel", "doTransfer", "(II)V"⟩, 52), (⟨"PlainStepsModel", "operand", "(II)J"⟩, 52), (⟨"PlainStepsModel", "isParallel", "(I)Z"⟩, 52), (⟨"PlainStepsModel", "store", "(IJJI)V"⟩, 52), (⟨"PlainStepsModel", "isThere", "(JI)Z"⟩, 52), (⟨"PlainStepsModel", "later", "(IIJZ)V"⟩, 52), (⟨"PlainStepsModel", "setMemory", "(IJI)V"⟩, 52), (⟨"PlainStepsModel", "markOnly", "(II)V"⟩, 52)]
theorem lw_r2 : ∀ q ∈ lw_privs_2, lw_okq q := List.forall_mem_cons.mpr ⟨lw_p16, List.forall_mem_cons.mpr ⟨lw_p17, List.forall_mem_cons.mpr ⟨lw_p18, List.forall_mem_cons.mpr ⟨lw_p19, List.forall_mem_cons.mpr ⟨lw_p20, List.forall_mem_cons.mpr ⟨lw_p21, List.forall_mem_cons.mpr ⟨lw_p22, List.forall_mem_cons.mpr ⟨lw_p23, List.forall_mem_cons.mpr ⟨lw_p24, List.forall_mem_cons.mpr ⟨lw_p25, List.forall_mem_cons.mpr ⟨lw_p26, List.forall_mem_cons.mpr ⟨lw_p27, List.forall_mem_cons.mpr ⟨lw_p28, List.forall_mem_cons.mpr ⟨lw_p29, List.forall_mem_cons.mpr ⟨lw_p30, List.forall_mem_cons.mpr ⟨lw_p31, fun _ h => absurd h List.not_mem_nil⟩⟩⟩⟩⟩⟩⟩⟩⟩⟩⟩⟩⟩⟩⟩⟩
theorem lw_p32 : lw_okq (⟨"PlainStepsModel", "back", "()V"⟩, 52) := ⟨⟨by decide +kernel, by decide +kernel⟩, List.mem_of_getElem? (i := 816) (by decide +kernel), List.mem_of_getElem? (i := 1101) (by decide +kernel), List.mem_of_getElem? (i := 1102) (by decide +kernel)⟩
theorem lw_p33 : lw_okq (⟨"PlainStepsModel", "compute", "(IIJJ)V"⟩, 52) := ⟨⟨by decide +kernel, by decide +kernel⟩, List.mem_of_getElem? (i := 816) (by decide +kernel), List.mem_of_getElem? (i := 1105) (by decide +kernel), List.mem_of_getElem? (i := 1106) (by decide +kernel)⟩
theorem lw_p34 : lw_okq (⟨"PlainStepsModel", "isMarked", "(II)Z"⟩, 52) := ⟨⟨by decide +kernel, by decide +kernel⟩, List.mem_of_getElem? (i := 816) (by decide +kernel), List.mem_of_getElem? (i := 1109) (by decide +kernel), List.mem_of_getElem? (i := 1110) (by decide +kernel)⟩
theorem lw_p35 : lw_okq (⟨"PlainStepsModel", "result", "(IIJZ)V"⟩, 52) := ⟨⟨by decide +kernel, by decide +kernel⟩, List.mem_of_getElem? (i := 816) (by decide +kernel), List.mem_of_getElem? (i := 1124) (by decide +kernel), List.mem_of_getElem? (i := 1125) (by decide +kernel)⟩
theorem lw_p36 : lw_okq (⟨"PlainStepsModel", "cut", "(IJ)J"⟩, 52) := ⟨⟨by decide +kernel, by decide +kernel⟩, List.mem_of_getElem? (i := 816) (by decide +kernel), List.mem_of_getElem? (i := 1128) (by decide +kernel), List.mem_of_getElem? (i := 1129) (by decide +kernel)⟩
theorem lw_p37 : lw_okq (⟨"PlainStepsModel", "setRegister", "(IJZ)V"⟩, 52) := ⟨⟨by decide +kernel, by decide +kernel⟩, List.mem_of_getElem? (i := 816) (by decide +kernel), List.mem_of_getElem? (i := 1132) (by decide +kernel), List.mem_of_getElem? (i := 1133) (by decide +kernel)⟩
theorem lw_p38 : lw_okq (⟨"PlainStepsModel", "writeAll", "()V"⟩, 52) := ⟨⟨by decide +kernel, by decide +kernel⟩, List.mem_of_getElem? (i := 816) (by decide +kernel), List.mem_of_getElem? (i := 1136) (by decide +kernel), List.mem_of_getElem? (i := 1137) (by decide +kernel)⟩
theorem lw_p39 : lw_okq (⟨"PlainStepsModel", "restore", "()V"⟩, 52) := ⟨⟨by decide +kernel, by decide +kernel⟩, List.mem_of_getElem? (i := 816) (by decide +kernel), List.mem_of_getElem? (i := 1140) (by decide +kernel), List.mem_of_getElem? (i := 1141) (by decide +kernel)⟩
theorem lw_p40 : lw_okq (⟨"PlainStepsModel", "comePlace", "(I)V"⟩, 52) := ⟨⟨by decide +kernel, by decide +kernel⟩, List.mem_of_getElem? (i := 816) (by decide +kernel), List.mem_of_getElem? (i := 1144) (by decide +kernel), List.mem_of_getElem? (i := 1145) (by decide +kernel)⟩
theorem lw_p41 : lw_okq (⟨"PlainStepsModel", "isRegister", "(I)Z"⟩, 52) := ⟨⟨by decide +kernel, by decide +kernel⟩, List.mem_of_getElem? (i := 816) (by decide +kernel), List.mem_of_getElem? (i := 1152) (by decide +kernel), List.mem_of_getElem? (i := 1153) (by decide +kernel)⟩
def lw_privs_3 : List (MethodName × Nat) := [(⟨"PlainStepsModel", "back", "()V"⟩, 52), (⟨"PlainStepsModel", "compute", "(IIJJ)V"⟩, 52), (⟨"PlainStepsModel", "isMarked", "(II)Z"⟩, 52), (⟨"PlainStepsModel", "result", "(IIJZ)V"⟩, 52), (⟨"PlainStepsModel", "cut", "(IJ)J"⟩, 52), (⟨"PlainStepsModel", "setRegister", "(IJZ)V"⟩, 52), (⟨"PlainStepsModel", "writeAll", "()V"⟩, 52), (⟨"PlainStepsModel", "restore", "()V"⟩, 52), (⟨"PlainStepsModel", "comePlace", "(I)V"⟩, 52), (⟨"PlainStepsModel", "isRegister", "(I)Z"⟩, 52)]
theorem lw_r3 : ∀ q ∈ lw_privs_3, lw_okq q := List.forall_mem_cons.mpr ⟨lw_p32, List.forall_mem_cons.mpr ⟨lw_p33, List.forall_mem_cons.mpr ⟨lw_p34, List.forall_mem_cons.mpr ⟨lw_p35, List.forall_mem_cons.mpr ⟨lw_p36, List.forall_mem_cons.mpr ⟨lw_p37, List.forall_mem_cons.mpr ⟨lw_p38, List.forall_mem_cons.mpr ⟨lw_p39, List.forall_mem_cons.mpr ⟨lw_p40, List.forall_mem_cons.mpr ⟨lw_p41, fun _ h => absurd h List.not_mem_nil⟩⟩⟩⟩⟩⟩⟩⟩⟩⟩
def lw_privs : List (MethodName × Nat) := lw_privs_1 ++ (lw_privs_2 ++ (lw_privs_3))
def lw_tbl : List Cond := k2_sels lw_privs ++ tables_1
theorem lw_privs_ok : ∀ q ∈ lw_privs, lw_okq q := by
  show ∀ q ∈ lw_privs_1 ++ (lw_privs_2 ++ (lw_privs_3)), lw_okq q
  exact List.forall_mem_append.mpr ⟨lw_r1, List.forall_mem_append.mpr ⟨lw_r2, lw_r3⟩⟩
/-! the words that every method here is given: those of the tables that stay -/
def zq_W : List Cond := lw_tbl.filter goodWord
theorem zq_Wg {w : Cond} (h : w ∈ zq_W) : goodWord w = true := (List.mem_filter.mp h).2
theorem zq_gW {w : Cond} (h : w ∈ zq_W) : w ∈ zq_W ∧ ((w.onTables && w.keeps) = true ∨ ∃ ty, w = .arrayClass ty) := ⟨h, good_of_word (zq_Wg h)⟩
theorem zq_gI {y : MethodName} {b : ByteArray} {n : Nat} {r : Option FieldType} (h : Cond.code y b n r ∈ zq_W) : GoodIn zq_W (.code y b n r :: zq_W) := fun w hw => by
  rcases List.mem_cons.mp hw with rfl | hw
  · exact zq_gW h
  · exact zq_gW hw
theorem zq_gV {own C : String} {idx : Nat} {y : MethodName} {b : ByteArray} {n : Nat} {r : Option FieldType} (h1 : Cond.methodLink own idx y ∈ zq_W) (h2 : Cond.instanceMethod y ∈ zq_W) (h3 : Cond.selects C y y ∈ zq_W) (h4 : Cond.initialized C ∈ zq_W) (h5 : Cond.code y b n r ∈ zq_W) : GoodIn zq_W (wsV own idx C y (.code y b n r :: zq_W)) := fun w hw => by
  unfold wsV at hw
  rcases List.mem_append.mp hw with hw | hw
  · simp only [List.mem_cons, List.not_mem_nil, or_false] at hw
    rcases hw with rfl | rfl | rfl | rfl
    · exact zq_gW h1
    · exact zq_gW h2
    · exact zq_gW h3
    · exact zq_gW h4
  · exact zq_gI h5 w hw
theorem zq_gS {own : String} {idx : Nat} {y : MethodName} {b : ByteArray} {n : Nat} {r : Option FieldType} (h1 : Cond.methodLink own idx y ∈ zq_W) (h2 : Cond.static y ∈ zq_W) (h3 : Cond.initialized own ∈ zq_W) (h5 : Cond.code y b n r ∈ zq_W) : GoodIn zq_W (wsS own idx y (.code y b n r :: zq_W)) := fun w hw => by
  unfold wsS at hw
  rcases List.mem_append.mp hw with hw | hw
  · simp only [List.mem_cons, List.not_mem_nil, or_false] at hw
    rcases hw with rfl | rfl | rfl
    · exact zq_gW h1
    · exact zq_gW h2
    · exact zq_gW h3
  · exact zq_gI h5 w hw
abbrev zR_Registers : String := "PlainSteps$Registers"
def zF_Registers : u_T := fun k => match k with
  | 0 => ("PlainSteps$Registers", "cuts", "[J", true)
  | 1 => ("PlainSteps$Registers", "values", "[J", true)
  | 2 => ("PlainSteps$Registers", "marks", "[Z", true)
  | _ => ("PlainSteps$Registers", "count", "I", false)
def zt_Registers : Nat → FieldType := fun k => match k with
  | 0 => (.array .long)
  | 1 => (.array .long)
  | 2 => (.array .boolean)
  | _ => .int
theorem zn_Registers : ∀ a, a < 4 → ∀ b, b < 4 → a ≠ b → (zF_Registers a).2.1 ≠ (zF_Registers b).2.1 := by decide +kernel
theorem zt_Registers_ok : ∀ k, k < 4 → parseFieldDescriptor (zF_Registers k).2.2.1 = some (zt_Registers k) := by decide +kernel
abbrev zR_Bytes : String := "PlainSteps$Bytes"
def zF_Bytes : u_T := fun k => match k with
  | _ => ("PlainSteps$Bytes", "cells", "[B", true)
def zt_Bytes : Nat → FieldType := fun k => match k with
  | _ => (.array .byte)
theorem zn_Bytes : ∀ a, a < 1 → ∀ b, b < 1 → a ≠ b → (zF_Bytes a).2.1 ≠ (zF_Bytes b).2.1 := by decide +kernel
theorem zt_Bytes_ok : ∀ k, k < 1 → parseFieldDescriptor (zF_Bytes k).2.2.1 = some (zt_Bytes k) := by decide +kernel
abbrev zR_Operands : String := "PlainSteps$Operands"
def zF_Operands : u_T := fun k => match k with
  | 0 => ("PlainSteps$Operands", "registers", "LPlainSteps$Registers;", true)
  | 1 => ("PlainSteps$Operands", "constants", "[J", true)
  | 2 => ("PlainSteps$Operands", "fieldFrom", "[I", true)
  | 3 => ("PlainSteps$Operands", "fieldTo", "[I", true)
  | 4 => ("PlainSteps$Operands", "fieldSign", "[Z", true)
  | 5 => ("PlainSteps$Operands", "constantCount", "I", false)
  | _ => ("PlainSteps$Operands", "fieldCount", "I", false)
def zt_Operands : Nat → FieldType := fun k => match k with
  | 0 => (.object "PlainSteps$Registers")
  | 1 => (.array .long)
  | 2 => (.array .int)
  | 3 => (.array .int)
  | 4 => (.array .boolean)
  | 5 => .int
  | _ => .int
theorem zn_Operands : ∀ a, a < 7 → ∀ b, b < 7 → a ≠ b → (zF_Operands a).2.1 ≠ (zF_Operands b).2.1 := by decide +kernel
theorem zt_Operands_ok : ∀ k, k < 7 → parseFieldDescriptor (zF_Operands k).2.2.1 = some (zt_Operands k) := by decide +kernel
abbrev zR_Program : String := "PlainSteps$Program"
def zF_Program : u_T := fun k => match k with
  | 0 => ("PlainSteps$Program", "ops", "[I", true)
  | 1 => ("PlainSteps$Program", "firsts", "[I", true)
  | 2 => ("PlainSteps$Program", "seconds", "[I", true)
  | 3 => ("PlainSteps$Program", "targets", "[I", true)
  | 4 => ("PlainSteps$Program", "transferCount", "I", false)
  | 5 => ("PlainSteps$Program", "masks", "[I", true)
  | 6 => ("PlainSteps$Program", "values", "[I", true)
  | 7 => ("PlainSteps$Program", "ways", "[I", true)
  | 8 => ("PlainSteps$Program", "starts", "[I", true)
  | 9 => ("PlainSteps$Program", "ends", "[I", true)
  | _ => ("PlainSteps$Program", "instructionCount", "I", false)
def zt_Program : Nat → FieldType := fun k => match k with
  | 0 => (.array .int)
  | 1 => (.array .int)
  | 2 => (.array .int)
  | 3 => (.array .int)
  | 4 => .int
  | 5 => (.array .int)
  | 6 => (.array .int)
  | 7 => (.array .int)
  | 8 => (.array .int)
  | 9 => (.array .int)
  | _ => .int
theorem zn_Program : ∀ a, a < 11 → ∀ b, b < 11 → a ≠ b → (zF_Program a).2.1 ≠ (zF_Program b).2.1 := by decide +kernel
theorem zt_Program_ok : ∀ k, k < 11 → parseFieldDescriptor (zF_Program k).2.2.1 = some (zt_Program k) := by decide +kernel
abbrev zR_Kept : String := "PlainSteps$Kept"
def zF_Kept : u_T := fun k => match k with
  | 0 => ("PlainSteps$Kept", "places", "[I", true)
  | 1 => ("PlainSteps$Kept", "levels", "[I", true)
  | 2 => ("PlainSteps$Kept", "count", "I", false)
  | _ => ("PlainSteps$Kept", "level", "I", false)
def zt_Kept : Nat → FieldType := fun k => match k with
  | 0 => (.array .int)
  | 1 => (.array .int)
  | 2 => .int
  | _ => .int
theorem zn_Kept : ∀ a, a < 4 → ∀ b, b < 4 → a ≠ b → (zF_Kept a).2.1 ≠ (zF_Kept b).2.1 := by decide +kernel
theorem zt_Kept_ok : ∀ k, k < 4 → parseFieldDescriptor (zF_Kept k).2.2.1 = some (zt_Kept k) := by decide +kernel
abbrev zR_Lines : String := "PlainSteps$Lines"
def zF_Lines : u_T := fun k => match k with
  | 0 => ("PlainSteps$Lines", "on", "[Z", true)
  | _ => ("PlainSteps$Lines", "ranks", "[I", true)
def zt_Lines : Nat → FieldType := fun k => match k with
  | 0 => (.array .boolean)
  | _ => (.array .int)
theorem zn_Lines : ∀ a, a < 2 → ∀ b, b < 2 → a ≠ b → (zF_Lines a).2.1 ≠ (zF_Lines b).2.1 := by decide +kernel
theorem zt_Lines_ok : ∀ k, k < 2 → parseFieldDescriptor (zF_Lines k).2.2.1 = some (zt_Lines k) := by decide +kernel
abbrev zR_Writes : String := "PlainSteps$Writes"
def zF_Writes : u_T := fun k => match k with
  | 0 => ("PlainSteps$Writes", "registers", "LPlainSteps$Registers;", true)
  | 1 => ("PlainSteps$Writes", "bytes", "LPlainSteps$Bytes;", true)
  | 2 => ("PlainSteps$Writes", "forms", "[I", true)
  | 3 => ("PlainSteps$Writes", "targets", "[I", true)
  | 4 => ("PlainSteps$Writes", "values", "[J", true)
  | _ => ("PlainSteps$Writes", "count", "I", false)
def zt_Writes : Nat → FieldType := fun k => match k with
  | 0 => (.object "PlainSteps$Registers")
  | 1 => (.object "PlainSteps$Bytes")
  | 2 => (.array .int)
  | 3 => (.array .int)
  | 4 => (.array .long)
  | _ => .int
theorem zn_Writes : ∀ a, a < 6 → ∀ b, b < 6 → a ≠ b → (zF_Writes a).2.1 ≠ (zF_Writes b).2.1 := by decide +kernel
theorem zt_Writes_ok : ∀ k, k < 6 → parseFieldDescriptor (zF_Writes k).2.2.1 = some (zt_Writes k) := by decide +kernel
abbrev zR_Work : String := "PlainSteps$Work"
def zF_Work : u_T := fun k => match k with
  | 0 => ("PlainSteps$Work", "registers", "LPlainSteps$Registers;", true)
  | 1 => ("PlainSteps$Work", "bytes", "LPlainSteps$Bytes;", true)
  | 2 => ("PlainSteps$Work", "operands", "LPlainSteps$Operands;", true)
  | 3 => ("PlainSteps$Work", "program", "LPlainSteps$Program;", true)
  | 4 => ("PlainSteps$Work", "kept", "LPlainSteps$Kept;", true)
  | 5 => ("PlainSteps$Work", "writes", "LPlainSteps$Writes;", true)
  | 6 => ("PlainSteps$Work", "counts", "[I", true)
  | 7 => ("PlainSteps$Work", "word", "I", false)
  | 8 => ("PlainSteps$Work", "parallel", "Z", false)
  | 9 => ("PlainSteps$Work", "restoring", "Z", false)
  | 10 => ("PlainSteps$Work", "wrotePlace", "Z", false)
  | 11 => ("PlainSteps$Work", "ended", "Z", false)
  | 12 => ("PlainSteps$Work", "halts", "Z", false)
  | _ => ("PlainSteps$Work", "backPlace", "I", false)
def zt_Work : Nat → FieldType := fun k => match k with
  | 0 => (.object "PlainSteps$Registers")
  | 1 => (.object "PlainSteps$Bytes")
  | 2 => (.object "PlainSteps$Operands")
  | 3 => (.object "PlainSteps$Program")
  | 4 => (.object "PlainSteps$Kept")
  | 5 => (.object "PlainSteps$Writes")
  | 6 => (.array .int)
  | 7 => .int
  | 8 => .boolean
  | 9 => .boolean
  | 10 => .boolean
  | 11 => .boolean
  | 12 => .boolean
  | _ => .int
theorem zn_Work : ∀ a, a < 14 → ∀ b, b < 14 → a ≠ b → (zF_Work a).2.1 ≠ (zF_Work b).2.1 := by decide +kernel
theorem zt_Work_ok : ∀ k, k < 14 → parseFieldDescriptor (zF_Work k).2.2.1 = some (zt_Work k) := by decide +kernel
abbrev zR_Machine : String := "PlainSteps$Machine"
def zF_Machine : u_T := fun k => match k with
  | 0 => ("PlainSteps$Machine", "registers", "LPlainSteps$Registers;", true)
  | 1 => ("PlainSteps$Machine", "bytes", "LPlainSteps$Bytes;", true)
  | 2 => ("PlainSteps$Machine", "program", "LPlainSteps$Program;", true)
  | 3 => ("PlainSteps$Machine", "kept", "LPlainSteps$Kept;", true)
  | 4 => ("PlainSteps$Machine", "lines", "LPlainSteps$Lines;", true)
  | 5 => ("PlainSteps$Machine", "work", "LPlainSteps$Work;", true)
  | 6 => ("PlainSteps$Machine", "counts", "[I", true)
  | 7 => ("PlainSteps$Machine", "waitingPlace", "I", false)
  | 8 => ("PlainSteps$Machine", "halt", "I", false)
  | 9 => ("PlainSteps$Machine", "faultKind", "I", false)
  | _ => ("PlainSteps$Machine", "faultPlace", "I", false)
def zt_Machine : Nat → FieldType := fun k => match k with
  | 0 => (.object "PlainSteps$Registers")
  | 1 => (.object "PlainSteps$Bytes")
  | 2 => (.object "PlainSteps$Program")
  | 3 => (.object "PlainSteps$Kept")
  | 4 => (.object "PlainSteps$Lines")
  | 5 => (.object "PlainSteps$Work")
  | 6 => (.array .int)
  | 7 => .int
  | 8 => .int
  | 9 => .int
  | _ => .int
theorem zn_Machine : ∀ a, a < 11 → ∀ b, b < 11 → a ≠ b → (zF_Machine a).2.1 ≠ (zF_Machine b).2.1 := by decide +kernel
theorem zt_Machine_ok : ∀ k, k < 11 → parseFieldDescriptor (zF_Machine k).2.2.1 = some (zt_Machine k) := by decide +kernel
abbrev zR_PS : String := "PlainSteps"
def zF_PS : u_T := fun k => match k with
  | 0 => ("PlainSteps", "registers", "LPlainSteps$Registers;", true)
  | 1 => ("PlainSteps", "bytes", "LPlainSteps$Bytes;", true)
  | 2 => ("PlainSteps", "operands", "LPlainSteps$Operands;", true)
  | 3 => ("PlainSteps", "program", "LPlainSteps$Program;", true)
  | 4 => ("PlainSteps", "kept", "LPlainSteps$Kept;", true)
  | 5 => ("PlainSteps", "lines", "LPlainSteps$Lines;", true)
  | 6 => ("PlainSteps", "machine", "LPlainSteps$Machine;", true)
  | _ => ("PlainSteps", "counts", "[I", true)
def zt_PS : Nat → FieldType := fun k => match k with
  | 0 => (.object "PlainSteps$Registers")
  | 1 => (.object "PlainSteps$Bytes")
  | 2 => (.object "PlainSteps$Operands")
  | 3 => (.object "PlainSteps$Program")
  | 4 => (.object "PlainSteps$Kept")
  | 5 => (.object "PlainSteps$Lines")
  | 6 => (.object "PlainSteps$Machine")
  | _ => (.array .int)
theorem zn_PS : ∀ a, a < 8 → ∀ b, b < 8 → a ≠ b → (zF_PS a).2.1 ≠ (zF_PS b).2.1 := by decide +kernel
theorem zt_PS_ok : ∀ k, k < 8 → parseFieldDescriptor (zF_PS k).2.2.1 = some (zt_PS k) := by decide +kernel
abbrev zR_M : String := "PlainStepsModel"
def zF_M : u_T := fun k => match k with
  | 0 => ("PlainStepsModel", "thrown", "I", false)
  | 1 => ("PlainStepsModel", "registers", "I", false)
  | 2 => ("PlainStepsModel", "width", "[I", true)
  | 3 => ("PlainStepsModel", "value", "[J", true)
  | 4 => ("PlainStepsModel", "before", "[J", true)
  | 5 => ("PlainStepsModel", "saved", "[J", true)
  | 6 => ("PlainStepsModel", "marked", "[Z", true)
  | 7 => ("PlainStepsModel", "markedBefore", "[Z", true)
  | 8 => ("PlainStepsModel", "markedSaved", "[Z", true)
  | 9 => ("PlainStepsModel", "memory", "[B", true)
  | 10 => ("PlainStepsModel", "memorySaved", "[B", true)
  | 11 => ("PlainStepsModel", "constants", "I", false)
  | 12 => ("PlainStepsModel", "fields", "I", false)
  | 13 => ("PlainStepsModel", "transfers", "I", false)
  | 14 => ("PlainStepsModel", "instructions", "I", false)
  | 15 => ("PlainStepsModel", "constant", "[J", true)
  | 16 => ("PlainStepsModel", "from", "[I", true)
  | 17 => ("PlainStepsModel", "to", "[I", true)
  | 18 => ("PlainStepsModel", "signed", "[Z", true)
  | 19 => ("PlainStepsModel", "op", "[I", true)
  | 20 => ("PlainStepsModel", "first", "[I", true)
  | 21 => ("PlainStepsModel", "second", "[I", true)
  | 22 => ("PlainStepsModel", "target", "[I", true)
  | 23 => ("PlainStepsModel", "mask", "[I", true)
  | 24 => ("PlainStepsModel", "pattern", "[I", true)
  | 25 => ("PlainStepsModel", "how", "[I", true)
  | 26 => ("PlainStepsModel", "begin", "[I", true)
  | 27 => ("PlainStepsModel", "on", "[Z", true)
  | 28 => ("PlainStepsModel", "rank", "[I", true)
  | 29 => ("PlainStepsModel", "level", "I", false)
  | 30 => ("PlainStepsModel", "kept", "I", false)
  | 31 => ("PlainStepsModel", "levelSaved", "I", false)
  | 32 => ("PlainStepsModel", "keptSaved", "I", false)
  | 33 => ("PlainStepsModel", "keptPlace", "[I", true)
  | 34 => ("PlainStepsModel", "keptLevel", "[I", true)
  | 35 => ("PlainStepsModel", "word", "I", false)
  | 36 => ("PlainStepsModel", "stands", "I", false)
  | 37 => ("PlainStepsModel", "fault", "I", false)
  | 38 => ("PlainStepsModel", "ends", "Z", false)
  | 39 => ("PlainStepsModel", "halts", "Z", false)
  | 40 => ("PlainStepsModel", "wrote", "Z", false)
  | 41 => ("PlainStepsModel", "waits", "Z", false)
  | 42 => ("PlainStepsModel", "waitsPlace", "J", false)
  | 43 => ("PlainStepsModel", "writes", "I", false)
  | 44 => ("PlainStepsModel", "writeTo", "[I", true)
  | 45 => ("PlainStepsModel", "writeAt", "[I", true)
  | 46 => ("PlainStepsModel", "writeValue", "[J", true)
  | 47 => ("PlainStepsModel", "writeMark", "[Z", true)
  | 48 => ("PlainStepsModel", "halted", "I", false)
  | 49 => ("PlainStepsModel", "latest", "I", false)
  | 50 => ("PlainStepsModel", "latestPlace", "I", false)
  | _ => ("PlainStepsModel", "count", "[I", true)
def zt_M : Nat → FieldType := fun k => match k with
  | 0 => .int
  | 1 => .int
  | 2 => (.array .int)
  | 3 => (.array .long)
  | 4 => (.array .long)
  | 5 => (.array .long)
  | 6 => (.array .boolean)
  | 7 => (.array .boolean)
  | 8 => (.array .boolean)
  | 9 => (.array .byte)
  | 10 => (.array .byte)
  | 11 => .int
  | 12 => .int
  | 13 => .int
  | 14 => .int
  | 15 => (.array .long)
  | 16 => (.array .int)
  | 17 => (.array .int)
  | 18 => (.array .boolean)
  | 19 => (.array .int)
  | 20 => (.array .int)
  | 21 => (.array .int)
  | 22 => (.array .int)
  | 23 => (.array .int)
  | 24 => (.array .int)
  | 25 => (.array .int)
  | 26 => (.array .int)
  | 27 => (.array .boolean)
  | 28 => (.array .int)
  | 29 => .int
  | 30 => .int
  | 31 => .int
  | 32 => .int
  | 33 => (.array .int)
  | 34 => (.array .int)
  | 35 => .int
  | 36 => .int
  | 37 => .int
  | 38 => .boolean
  | 39 => .boolean
  | 40 => .boolean
  | 41 => .boolean
  | 42 => .long
  | 43 => .int
  | 44 => (.array .int)
  | 45 => (.array .int)
  | 46 => (.array .long)
  | 47 => (.array .boolean)
  | 48 => .int
  | 49 => .int
  | 50 => .int
  | _ => (.array .int)
theorem zn_M : ∀ a, a < 52 → ∀ b, b < 52 → a ≠ b → (zF_M a).2.1 ≠ (zF_M b).2.1 := by decide +kernel
theorem zt_M_ok : ∀ k, k < 52 → parseFieldDescriptor (zF_M k).2.2.1 = some (zt_M k) := by decide +kernel
abbrev vwCl : List vw_C := [(zR_Registers, zF_Registers, 4), (zR_Bytes, zF_Bytes, 1), (zR_Operands, zF_Operands, 7), (zR_Program, zF_Program, 11), (zR_Kept, zF_Kept, 4), (zR_Lines, zF_Lines, 2), (zR_Writes, zF_Writes, 6), (zR_Work, zF_Work, 14), (zR_Machine, zF_Machine, 11), (zR_PS, zF_PS, 8), (zR_M, zF_M, 52)]
abbrev zy_Registers_init : MethodName := ⟨"PlainSteps$Registers", "<init>", "()V"⟩
abbrev zb_Registers_init : ByteArray := prog_8_method_1_code
abbrev zs_Registers_init : List Cond := .code zy_Registers_init zb_Registers_init 1 none :: zq_W
abbrev zy_Registers_add : MethodName := ⟨"PlainSteps$Registers", "add", "(I)I"⟩
abbrev zb_Registers_add : ByteArray := prog_8_method_2_code
abbrev zs_Registers_add : List Cond := .code zy_Registers_add zb_Registers_add 2 (some .int) :: zq_W
abbrev zy_Registers_has : MethodName := ⟨"PlainSteps$Registers", "has", "(I)Z"⟩
abbrev zb_Registers_has : ByteArray := prog_8_method_3_code
abbrev zs_Registers_has : List Cond := .code zy_Registers_has zb_Registers_has 2 (some .boolean) :: zq_W
abbrev zy_Registers_valueOf : MethodName := ⟨"PlainSteps$Registers", "valueOf", "(I)J"⟩
abbrev zb_Registers_valueOf : ByteArray := prog_8_method_4_code
abbrev zs_Registers_valueOf : List Cond := .code zy_Registers_valueOf zb_Registers_valueOf 2 (some .long) :: zq_W
abbrev zy_Registers_isMarked : MethodName := ⟨"PlainSteps$Registers", "isMarked", "(I)Z"⟩
abbrev zb_Registers_isMarked : ByteArray := prog_8_method_5_code
abbrev zs_Registers_isMarked : List Cond := .code zy_Registers_isMarked zb_Registers_isMarked 2 (some .boolean) :: zq_W
abbrev zy_Registers_put : MethodName := ⟨"PlainSteps$Registers", "put", "(IJZ)V"⟩
abbrev zb_Registers_put : ByteArray := prog_8_method_6_code
abbrev zs_Registers_put : List Cond := .code zy_Registers_put zb_Registers_put 5 none :: zq_W
abbrev zy_Registers_placeNow : MethodName := ⟨"PlainSteps$Registers", "placeNow", "()I"⟩
abbrev zb_Registers_placeNow : ByteArray := prog_8_method_7_code
abbrev zs_Registers_placeNow : List Cond := .code zy_Registers_placeNow zb_Registers_placeNow 1 (some .int) :: zq_W
abbrev zy_Registers_movePlace : MethodName := ⟨"PlainSteps$Registers", "movePlace", "(I)V"⟩
abbrev zb_Registers_movePlace : ByteArray := prog_8_method_8_code
abbrev zs_Registers_movePlace : List Cond := .code zy_Registers_movePlace zb_Registers_movePlace 2 none :: zq_W
abbrev zy_Bytes_init : MethodName := ⟨"PlainSteps$Bytes", "<init>", "()V"⟩
abbrev zb_Bytes_init : ByteArray := prog_2_method_1_code
abbrev zs_Bytes_init : List Cond := .code zy_Bytes_init zb_Bytes_init 1 none :: zq_W
abbrev zy_Bytes_hasByte : MethodName := ⟨"PlainSteps$Bytes", "hasByte", "(J)Z"⟩
abbrev zb_Bytes_hasByte : ByteArray := prog_2_method_2_code
abbrev zs_Bytes_hasByte : List Cond := .code zy_Bytes_hasByte zb_Bytes_hasByte 3 (some .boolean) :: zq_W
abbrev zy_Bytes_hasWord : MethodName := ⟨"PlainSteps$Bytes", "hasWord", "(J)Z"⟩
abbrev zb_Bytes_hasWord : ByteArray := prog_2_method_3_code
abbrev zs_Bytes_hasWord : List Cond := .code zy_Bytes_hasWord zb_Bytes_hasWord 3 (some .boolean) :: zq_W
abbrev zy_Bytes_byteOf : MethodName := ⟨"PlainSteps$Bytes", "byteOf", "(I)I"⟩
abbrev zb_Bytes_byteOf : ByteArray := prog_2_method_4_code
abbrev zs_Bytes_byteOf : List Cond := .code zy_Bytes_byteOf zb_Bytes_byteOf 2 (some .int) :: zq_W
abbrev zy_Bytes_wordOf : MethodName := ⟨"PlainSteps$Bytes", "wordOf", "(I)I"⟩
abbrev zb_Bytes_wordOf : ByteArray := prog_2_method_5_code
abbrev zs_Bytes_wordOf : List Cond := .code zy_Bytes_wordOf zb_Bytes_wordOf 2 (some .int) :: zq_W
abbrev zy_Bytes_putByte : MethodName := ⟨"PlainSteps$Bytes", "putByte", "(IJ)V"⟩
abbrev zb_Bytes_putByte : ByteArray := prog_2_method_6_code
abbrev zs_Bytes_putByte : List Cond := .code zy_Bytes_putByte zb_Bytes_putByte 4 none :: zq_W
abbrev zy_Bytes_putWord : MethodName := ⟨"PlainSteps$Bytes", "putWord", "(IJ)V"⟩
abbrev zb_Bytes_putWord : ByteArray := prog_2_method_7_code
abbrev zs_Bytes_putWord : List Cond := .code zy_Bytes_putWord zb_Bytes_putWord 4 none :: zq_W
abbrev zy_Operands_init : MethodName := ⟨"PlainSteps$Operands", "<init>", "(LPlainSteps$Registers;)V"⟩
abbrev zb_Operands_init : ByteArray := prog_6_method_1_code
abbrev zs_Operands_init : List Cond := .code zy_Operands_init zb_Operands_init 2 none :: zq_W
abbrev zy_Operands_addConstant : MethodName := ⟨"PlainSteps$Operands", "addConstant", "(J)I"⟩
abbrev zb_Operands_addConstant : ByteArray := prog_6_method_2_code
abbrev zs_Operands_addConstant : List Cond := .code zy_Operands_addConstant zb_Operands_addConstant 3 (some .int) :: zq_W
abbrev zy_Operands_addField : MethodName := ⟨"PlainSteps$Operands", "addField", "(IIZ)I"⟩
abbrev zb_Operands_addField : ByteArray := prog_6_method_3_code
abbrev zs_Operands_addField : List Cond := .code zy_Operands_addField zb_Operands_addField 4 (some .int) :: zq_W
abbrev zy_Operands_has : MethodName := ⟨"PlainSteps$Operands", "has", "(I)Z"⟩
abbrev zb_Operands_has : ByteArray := prog_6_method_4_code
abbrev zs_Operands_has : List Cond := .code zy_Operands_has zb_Operands_has 2 (some .boolean) :: zq_W
abbrev zy_Operands_read : MethodName := ⟨"PlainSteps$Operands", "read", "(II)J"⟩
abbrev zb_Operands_read : ByteArray := prog_6_method_5_code
abbrev zs_Operands_read : List Cond := .code zy_Operands_read zb_Operands_read 3 (some .long) :: zq_W
abbrev zy_Operands_readField : MethodName := ⟨"PlainSteps$Operands", "readField", "(II)J"⟩
abbrev zb_Operands_readField : ByteArray := prog_6_method_6_code
abbrev zs_Operands_readField : List Cond := .code zy_Operands_readField zb_Operands_readField 7 (some .long) :: zq_W
abbrev zy_Operands_isMarked : MethodName := ⟨"PlainSteps$Operands", "isMarked", "(I)Z"⟩
abbrev zb_Operands_isMarked : ByteArray := prog_6_method_7_code
abbrev zs_Operands_isMarked : List Cond := .code zy_Operands_isMarked zb_Operands_isMarked 2 (some .boolean) :: zq_W
abbrev zy_Program_init : MethodName := ⟨"PlainSteps$Program", "<init>", "()V"⟩
abbrev zb_Program_init : ByteArray := prog_7_method_1_code
abbrev zs_Program_init : List Cond := .code zy_Program_init zb_Program_init 1 none :: zq_W
abbrev zy_Program_addTransfer : MethodName := ⟨"PlainSteps$Program", "addTransfer", "(IIII)I"⟩
abbrev zb_Program_addTransfer : ByteArray := prog_7_method_2_code
abbrev zs_Program_addTransfer : List Cond := .code zy_Program_addTransfer zb_Program_addTransfer 5 (some .int) :: zq_W
abbrev zy_Program_addInstruction : MethodName := ⟨"PlainSteps$Program", "addInstruction", "(III)I"⟩
abbrev zb_Program_addInstruction : ByteArray := prog_7_method_3_code
abbrev zs_Program_addInstruction : List Cond := .code zy_Program_addInstruction zb_Program_addInstruction 4 (some .int) :: zq_W
abbrev zy_Program_find : MethodName := ⟨"PlainSteps$Program", "find", "(I)I"⟩
abbrev zb_Program_find : ByteArray := prog_7_method_4_code
abbrev zs_Program_find : List Cond := .code zy_Program_find zb_Program_find 3 (some .int) :: zq_W
abbrev zy_Program_is : MethodName := ⟨"PlainSteps$Program", "is", "(II)Z"⟩
abbrev zb_Program_is : ByteArray := prog_7_method_5_code
abbrev zs_Program_is : List Cond := .code zy_Program_is zb_Program_is 3 (some .boolean) :: zq_W
abbrev zy_Kept_init : MethodName := ⟨"PlainSteps$Kept", "<init>", "()V"⟩
abbrev zb_Kept_init : ByteArray := prog_3_method_1_code
abbrev zs_Kept_init : List Cond := .code zy_Kept_init zb_Kept_init 1 none :: zq_W
abbrev zy_Kept_isFull : MethodName := ⟨"PlainSteps$Kept", "isFull", "()Z"⟩
abbrev zb_Kept_isFull : ByteArray := prog_3_method_2_code
abbrev zs_Kept_isFull : List Cond := .code zy_Kept_isFull zb_Kept_isFull 1 (some .boolean) :: zq_W
abbrev zy_Kept_keep : MethodName := ⟨"PlainSteps$Kept", "keep", "(II)V"⟩
abbrev zb_Kept_keep : ByteArray := prog_3_method_3_code
abbrev zs_Kept_keep : List Cond := .code zy_Kept_keep zb_Kept_keep 3 none :: zq_W
abbrev zy_Kept_goBack : MethodName := ⟨"PlainSteps$Kept", "goBack", "()I"⟩
abbrev zb_Kept_goBack : ByteArray := prog_3_method_4_code
abbrev zs_Kept_goBack : List Cond := .code zy_Kept_goBack zb_Kept_goBack 1 (some .int) :: zq_W
abbrev zy_Kept_restore : MethodName := ⟨"PlainSteps$Kept", "restore", "(II)V"⟩
abbrev zb_Kept_restore : ByteArray := prog_3_method_5_code
abbrev zs_Kept_restore : List Cond := .code zy_Kept_restore zb_Kept_restore 3 none :: zq_W
abbrev zy_Lines_init : MethodName := ⟨"PlainSteps$Lines", "<init>", "()V"⟩
abbrev zb_Lines_init : ByteArray := prog_4_method_1_code
abbrev zs_Lines_init : List Cond := .code zy_Lines_init zb_Lines_init 2 none :: zq_W
abbrev zy_Lines_has : MethodName := ⟨"PlainSteps$Lines", "has", "(I)Z"⟩
abbrev zb_Lines_has : ByteArray := prog_4_method_2_code
abbrev zs_Lines_has : List Cond := .code zy_Lines_has zb_Lines_has 2 (some .boolean) :: zq_W
abbrev zy_Lines_turn : MethodName := ⟨"PlainSteps$Lines", "turn", "(IZ)Z"⟩
abbrev zb_Lines_turn : ByteArray := prog_4_method_3_code
abbrev zs_Lines_turn : List Cond := .code zy_Lines_turn zb_Lines_turn 4 (some .boolean) :: zq_W
abbrev zy_Lines_giveRank : MethodName := ⟨"PlainSteps$Lines", "giveRank", "(II)I"⟩
abbrev zb_Lines_giveRank : ByteArray := prog_4_method_4_code
abbrev zs_Lines_giveRank : List Cond := .code zy_Lines_giveRank zb_Lines_giveRank 4 (some .int) :: zq_W
abbrev zy_Lines_rankOf : MethodName := ⟨"PlainSteps$Lines", "rankOf", "(I)I"⟩
abbrev zb_Lines_rankOf : ByteArray := prog_4_method_5_code
abbrev zs_Lines_rankOf : List Cond := .code zy_Lines_rankOf zb_Lines_rankOf 2 (some .int) :: zq_W
abbrev zy_Lines_mostUrgent : MethodName := ⟨"PlainSteps$Lines", "mostUrgent", "(I)I"⟩
abbrev zb_Lines_mostUrgent : ByteArray := prog_4_method_6_code
abbrev zs_Lines_mostUrgent : List Cond := .code zy_Lines_mostUrgent zb_Lines_mostUrgent 5 (some .int) :: zq_W
abbrev zy_Writes_init : MethodName := ⟨"PlainSteps$Writes", "<init>", "(LPlainSteps$Registers;LPlainSteps$Bytes;)V"⟩
abbrev zb_Writes_init : ByteArray := prog_10_method_1_code
abbrev zs_Writes_init : List Cond := .code zy_Writes_init zb_Writes_init 3 none :: zq_W
abbrev zy_Writes_clear : MethodName := ⟨"PlainSteps$Writes", "clear", "()V"⟩
abbrev zb_Writes_clear : ByteArray := prog_10_method_2_code
abbrev zs_Writes_clear : List Cond := .code zy_Writes_clear zb_Writes_clear 1 none :: zq_W
abbrev zy_Writes_note : MethodName := ⟨"PlainSteps$Writes", "note", "(IIJ)V"⟩
abbrev zb_Writes_note : ByteArray := prog_10_method_3_code
abbrev zs_Writes_note : List Cond := .code zy_Writes_note zb_Writes_note 5 none :: zq_W
abbrev zy_Writes_noteReverse : MethodName := ⟨"PlainSteps$Writes", "noteReverse", "(II)V"⟩
abbrev zb_Writes_noteReverse : ByteArray := prog_10_method_4_code
abbrev zs_Writes_noteReverse : List Cond := .code zy_Writes_noteReverse zb_Writes_noteReverse 3 none :: zq_W
abbrev zy_Writes_perform : MethodName := ⟨"PlainSteps$Writes", "perform", "(IIJ)V"⟩
abbrev zb_Writes_perform : ByteArray := prog_10_method_5_code
abbrev zs_Writes_perform : List Cond := .code zy_Writes_perform zb_Writes_perform 5 none :: zq_W
abbrev zy_Writes_performInOrder : MethodName := ⟨"PlainSteps$Writes", "performInOrder", "()V"⟩
abbrev zb_Writes_performInOrder : ByteArray := prog_10_method_6_code
abbrev zs_Writes_performInOrder : List Cond := .code zy_Writes_performInOrder zb_Writes_performInOrder 2 none :: zq_W
abbrev zy_Writes_performBackwards : MethodName := ⟨"PlainSteps$Writes", "performBackwards", "()V"⟩
abbrev zb_Writes_performBackwards : ByteArray := prog_10_method_7_code
abbrev zs_Writes_performBackwards : List Cond := .code zy_Writes_performBackwards zb_Writes_performBackwards 2 none :: zq_W
abbrev zy_Work_init : MethodName := ⟨"PlainSteps$Work", "<init>", "(LPlainSteps$Registers;LPlainSteps$Bytes;LPlainSteps$Operands;LPlainSteps$Program;LPlainSteps$Kept;[I)V"⟩
abbrev zb_Work_init : ByteArray := prog_9_method_1_code
abbrev zs_Work_init : List Cond := .code zy_Work_init zb_Work_init 7 none :: zq_W
abbrev zy_Work_carryOut : MethodName := ⟨"PlainSteps$Work", "carryOut", "(II)I"⟩
abbrev zb_Work_carryOut : ByteArray := prog_9_method_2_code
abbrev zs_Work_carryOut : List Cond := .code zy_Work_carryOut zb_Work_carryOut 7 (some .int) :: zq_W
abbrev zy_Work_prepare : MethodName := ⟨"PlainSteps$Work", "prepare", "(II)V"⟩
abbrev zb_Work_prepare : ByteArray := prog_9_method_3_code
abbrev zs_Work_prepare : List Cond := .code zy_Work_prepare zb_Work_prepare 3 none :: zq_W
abbrev zy_Work_writeWhatWaits : MethodName := ⟨"PlainSteps$Work", "writeWhatWaits", "()V"⟩
abbrev zb_Work_writeWhatWaits : ByteArray := prog_9_method_4_code
abbrev zs_Work_writeWhatWaits : List Cond := .code zy_Work_writeWhatWaits zb_Work_writeWhatWaits 1 none :: zq_W
abbrev zy_Work_takeBack : MethodName := ⟨"PlainSteps$Work", "takeBack", "()V"⟩
abbrev zb_Work_takeBack : ByteArray := prog_9_method_5_code
abbrev zs_Work_takeBack : List Cond := .code zy_Work_takeBack zb_Work_takeBack 1 none :: zq_W
abbrev zy_Work_doTransfer : MethodName := ⟨"PlainSteps$Work", "doTransfer", "(I)I"⟩
abbrev zb_Work_doTransfer : ByteArray := prog_9_method_6_code
abbrev zs_Work_doTransfer : List Cond := .code zy_Work_doTransfer zb_Work_doTransfer 10 (some .int) :: zq_W
abbrev zy_Work_divide : MethodName := ⟨"PlainSteps$Work", "divide", "(IJJII)I"⟩
abbrev zb_Work_divide : ByteArray := prog_9_method_7_code
abbrev zs_Work_divide : List Cond := .code zy_Work_divide zb_Work_divide 10 (some .int) :: zq_W
abbrev zy_Work_load : MethodName := ⟨"PlainSteps$Work", "load", "(ZJII)I"⟩
abbrev zb_Work_load : ByteArray := prog_9_method_8_code
abbrev zs_Work_load : List Cond := .code zy_Work_load zb_Work_load 7 (some .int) :: zq_W
abbrev zy_Work_store : MethodName := ⟨"PlainSteps$Work", "store", "(ZJJ)I"⟩
abbrev zb_Work_store : ByteArray := prog_9_method_9_code
abbrev zs_Work_store : List Cond := .code zy_Work_store zb_Work_store 6 (some .int) :: zq_W
abbrev zy_Work_goBack : MethodName := ⟨"PlainSteps$Work", "goBack", "()I"⟩
abbrev zb_Work_goBack : ByteArray := prog_9_method_10_code
abbrev zs_Work_goBack : List Cond := .code zy_Work_goBack zb_Work_goBack 2 (some .int) :: zq_W
abbrev zy_Work_write : MethodName := ⟨"PlainSteps$Work", "write", "(IIJ)V"⟩
abbrev zb_Work_write : ByteArray := prog_9_method_11_code
abbrev zs_Work_write : List Cond := .code zy_Work_write zb_Work_write 5 none :: zq_W
abbrev zy_Work_result : MethodName := ⟨"PlainSteps$Work", "result", "(IJJ)J"⟩
abbrev zb_Work_result : ByteArray := prog_9_method_12_code
abbrev zs_Work_result : List Cond := .code zy_Work_result zb_Work_result 5 (some .long) :: zq_W
abbrev zy_Work_isBelow : MethodName := ⟨"PlainSteps$Work", "isBelow", "(JJ)Z"⟩
abbrev zb_Work_isBelow : ByteArray := prog_9_method_13_code
abbrev zs_Work_isBelow : List Cond := .code zy_Work_isBelow zb_Work_isBelow 4 (some .boolean) :: zq_W
abbrev zy_Work_quotient : MethodName := ⟨"PlainSteps$Work", "quotient", "(JJ)J"⟩
abbrev zb_Work_quotient : ByteArray := prog_9_method_14_code
abbrev zs_Work_quotient : List Cond := .code zy_Work_quotient zb_Work_quotient 6 (some .long) :: zq_W
abbrev zy_Machine_init : MethodName := ⟨"PlainSteps$Machine", "<init>", "(LPlainSteps$Registers;LPlainSteps$Bytes;LPlainSteps$Program;LPlainSteps$Kept;LPlainSteps$Lines;LPlainSteps$Work;[I)V"⟩
abbrev zb_Machine_init : ByteArray := prog_5_method_1_code
abbrev zs_Machine_init : List Cond := .code zy_Machine_init zb_Machine_init 8 none :: zq_W
abbrev zy_Machine_loseWaiting : MethodName := ⟨"PlainSteps$Machine", "loseWaiting", "()V"⟩
abbrev zb_Machine_loseWaiting : ByteArray := prog_5_method_2_code
abbrev zs_Machine_loseWaiting : List Cond := .code zy_Machine_loseWaiting zb_Machine_loseWaiting 1 none :: zq_W
abbrev zy_Machine_takeStep : MethodName := ⟨"PlainSteps$Machine", "takeStep", "()V"⟩
abbrev zb_Machine_takeStep : ByteArray := prog_5_method_3_code
abbrev zs_Machine_takeStep : List Cond := .code zy_Machine_takeStep zb_Machine_takeStep 6 none :: zq_W
abbrev zy_Machine_interruptBy : MethodName := ⟨"PlainSteps$Machine", "interruptBy", "(I)V"⟩
abbrev zb_Machine_interruptBy : ByteArray := prog_5_method_4_code
abbrev zs_Machine_interruptBy : List Cond := .code zy_Machine_interruptBy zb_Machine_interruptBy 2 none :: zq_W
abbrev zy_Machine_settlePlace : MethodName := ⟨"PlainSteps$Machine", "settlePlace", "(IZ)V"⟩
abbrev zb_Machine_settlePlace : ByteArray := prog_5_method_5_code
abbrev zs_Machine_settlePlace : List Cond := .code zy_Machine_settlePlace zb_Machine_settlePlace 4 none :: zq_W
abbrev zy_Machine_failWith : MethodName := ⟨"PlainSteps$Machine", "failWith", "(II)V"⟩
abbrev zb_Machine_failWith : ByteArray := prog_5_method_6_code
abbrev zs_Machine_failWith : List Cond := .code zy_Machine_failWith zb_Machine_failWith 3 none :: zq_W
abbrev zy_PS_init : MethodName := ⟨"PlainSteps", "<init>", "()V"⟩
abbrev zb_PS_init : ByteArray := prog_1_method_1_code
abbrev zs_PS_init : List Cond := .code zy_PS_init zb_PS_init 2 none :: zq_W
abbrev zy_PS_register : MethodName := ⟨"PlainSteps", "register", "(I)I"⟩
abbrev zb_PS_register : ByteArray := prog_1_method_2_code
abbrev zs_PS_register : List Cond := .code zy_PS_register zb_PS_register 2 (some .int) :: zq_W
abbrev zy_PS_constant : MethodName := ⟨"PlainSteps", "constant", "(J)I"⟩
abbrev zb_PS_constant : ByteArray := prog_1_method_3_code
abbrev zs_PS_constant : List Cond := .code zy_PS_constant zb_PS_constant 3 (some .int) :: zq_W
abbrev zy_PS_field : MethodName := ⟨"PlainSteps", "field", "(IIZ)I"⟩
abbrev zb_PS_field : ByteArray := prog_1_method_4_code
abbrev zs_PS_field : List Cond := .code zy_PS_field zb_PS_field 4 (some .int) :: zq_W
abbrev zy_PS_transfer : MethodName := ⟨"PlainSteps", "transfer", "(IIII)I"⟩
abbrev zb_PS_transfer : ByteArray := prog_1_method_5_code
abbrev zs_PS_transfer : List Cond := .code zy_PS_transfer zb_PS_transfer 5 (some .int) :: zq_W
abbrev zy_PS_instruction : MethodName := ⟨"PlainSteps", "instruction", "(III)I"⟩
abbrev zb_PS_instruction : ByteArray := prog_1_method_6_code
abbrev zs_PS_instruction : List Cond := .code zy_PS_instruction zb_PS_instruction 4 (some .int) :: zq_W
abbrev zy_PS_memory : MethodName := ⟨"PlainSteps", "memory", "(II)I"⟩
abbrev zb_PS_memory : ByteArray := prog_1_method_7_code
abbrev zs_PS_memory : List Cond := .code zy_PS_memory zb_PS_memory 4 (some .int) :: zq_W
abbrev zy_PS_byteAt : MethodName := ⟨"PlainSteps", "byteAt", "(I)I"⟩
abbrev zb_PS_byteAt : ByteArray := prog_1_method_8_code
abbrev zs_PS_byteAt : List Cond := .code zy_PS_byteAt zb_PS_byteAt 2 (some .int) :: zq_W
abbrev zy_PS_step : MethodName := ⟨"PlainSteps", "step", "(I)I"⟩
abbrev zb_PS_step : ByteArray := prog_1_method_9_code
abbrev zs_PS_step : List Cond := .code zy_PS_step zb_PS_step 3 (some .int) :: zq_W
abbrev zy_PS_set : MethodName := ⟨"PlainSteps", "set", "(IJ)J"⟩
abbrev zb_PS_set : ByteArray := prog_1_method_10_code
abbrev zs_PS_set : List Cond := .code zy_PS_set zb_PS_set 6 (some .long) :: zq_W
abbrev zy_PS_get : MethodName := ⟨"PlainSteps", "get", "(I)J"⟩
abbrev zb_PS_get : ByteArray := prog_1_method_11_code
abbrev zs_PS_get : List Cond := .code zy_PS_get zb_PS_get 2 (some .long) :: zq_W
abbrev zy_PS_mark : MethodName := ⟨"PlainSteps", "mark", "(I)Z"⟩
abbrev zb_PS_mark : ByteArray := prog_1_method_12_code
abbrev zs_PS_mark : List Cond := .code zy_PS_mark zb_PS_mark 2 (some .boolean) :: zq_W
abbrev zy_PS_line : MethodName := ⟨"PlainSteps", "line", "(IZ)Z"⟩
abbrev zb_PS_line : ByteArray := prog_1_method_13_code
abbrev zs_PS_line : List Cond := .code zy_PS_line zb_PS_line 3 (some .boolean) :: zq_W
abbrev zy_PS_enable : MethodName := ⟨"PlainSteps", "enable", "(II)I"⟩
abbrev zb_PS_enable : ByteArray := prog_1_method_14_code
abbrev zs_PS_enable : List Cond := .code zy_PS_enable zb_PS_enable 3 (some .int) :: zq_W
abbrev zy_PS_fault : MethodName := ⟨"PlainSteps", "fault", "(I)I"⟩
abbrev zb_PS_fault : ByteArray := prog_1_method_15_code
abbrev zs_PS_fault : List Cond := .code zy_PS_fault zb_PS_fault 2 (some .int) :: zq_W
abbrev zy_PS_halted : MethodName := ⟨"PlainSteps", "halted", "()I"⟩
abbrev zb_PS_halted : ByteArray := prog_1_method_16_code
abbrev zs_PS_halted : List Cond := .code zy_PS_halted zb_PS_halted 1 (some .int) :: zq_W
abbrev zy_PS_counter : MethodName := ⟨"PlainSteps", "counter", "(I)I"⟩
abbrev zb_PS_counter : ByteArray := prog_1_method_17_code
abbrev zs_PS_counter : List Cond := .code zy_PS_counter zb_PS_counter 2 (some .int) :: zq_W
abbrev zy_M_init : MethodName := ⟨"PlainStepsModel", "<init>", "()V"⟩
abbrev zb_M_init : ByteArray := prog_12_method_1_code
abbrev zs_M_init : List Cond := .code zy_M_init zb_M_init 2 none :: zq_W
abbrev zy_M_thrown : MethodName := ⟨"PlainStepsModel", "thrown", "()I"⟩
abbrev zb_M_thrown : ByteArray := prog_12_method_2_code
abbrev zs_M_thrown : List Cond := .code zy_M_thrown zb_M_thrown 1 (some .int) :: zq_W
abbrev zy_M_in : MethodName := ⟨"PlainStepsModel", "in", "(JJJ)Z"⟩
abbrev zb_M_in : ByteArray := prog_12_method_3_code
abbrev zs_M_in : List Cond := .code zy_M_in zb_M_in 6 (some .boolean) :: zq_W
abbrev zy_M_goes : MethodName := ⟨"PlainStepsModel", "goes", "(ZZ)Z"⟩
abbrev zb_M_goes : ByteArray := prog_12_method_4_code
abbrev zs_M_goes : List Cond := .code zy_M_goes zb_M_goes 3 (some .boolean) :: zq_W
abbrev zy_M_cut : MethodName := ⟨"PlainStepsModel", "cut", "(IJ)J"⟩
abbrev zb_M_cut : ByteArray := prog_12_method_5_code
abbrev zs_M_cut : List Cond := .code zy_M_cut zb_M_cut 4 (some .long) :: zq_W
abbrev zy_M_register : MethodName := ⟨"PlainStepsModel", "register", "(I)I"⟩
abbrev zb_M_register : ByteArray := prog_12_method_6_code
abbrev zs_M_register : List Cond := .code zy_M_register zb_M_register 2 (some .int) :: zq_W
abbrev zy_M_constant : MethodName := ⟨"PlainStepsModel", "constant", "(J)I"⟩
abbrev zb_M_constant : ByteArray := prog_12_method_7_code
abbrev zs_M_constant : List Cond := .code zy_M_constant zb_M_constant 3 (some .int) :: zq_W
abbrev zy_M_field : MethodName := ⟨"PlainStepsModel", "field", "(IIZ)I"⟩
abbrev zb_M_field : ByteArray := prog_12_method_8_code
abbrev zs_M_field : List Cond := .code zy_M_field zb_M_field 4 (some .int) :: zq_W
abbrev zy_M_isOperand : MethodName := ⟨"PlainStepsModel", "isOperand", "(I)Z"⟩
abbrev zb_M_isOperand : ByteArray := prog_12_method_9_code
abbrev zs_M_isOperand : List Cond := .code zy_M_isOperand zb_M_isOperand 2 (some .boolean) :: zq_W
abbrev zy_M_transfer : MethodName := ⟨"PlainStepsModel", "transfer", "(IIII)I"⟩
abbrev zb_M_transfer : ByteArray := prog_12_method_10_code
abbrev zs_M_transfer : List Cond := .code zy_M_transfer zb_M_transfer 5 (some .int) :: zq_W
abbrev zy_M_instruction : MethodName := ⟨"PlainStepsModel", "instruction", "(III)I"⟩
abbrev zb_M_instruction : ByteArray := prog_12_method_11_code
abbrev zs_M_instruction : List Cond := .code zy_M_instruction zb_M_instruction 4 (some .int) :: zq_W
abbrev zy_M_memory : MethodName := ⟨"PlainStepsModel", "memory", "(II)I"⟩
abbrev zb_M_memory : ByteArray := prog_12_method_12_code
abbrev zs_M_memory : List Cond := .code zy_M_memory zb_M_memory 4 (some .int) :: zq_W
abbrev zy_M_byteAt : MethodName := ⟨"PlainStepsModel", "byteAt", "(I)I"⟩
abbrev zb_M_byteAt : ByteArray := prog_12_method_13_code
abbrev zs_M_byteAt : List Cond := .code zy_M_byteAt zb_M_byteAt 2 (some .int) :: zq_W
abbrev zy_M_keep : MethodName := ⟨"PlainStepsModel", "keep", "(III)Z"⟩
abbrev zb_M_keep : ByteArray := prog_12_method_14_code
abbrev zs_M_keep : List Cond := .code zy_M_keep zb_M_keep 4 (some .boolean) :: zq_W
abbrev zy_M_takeFault : MethodName := ⟨"PlainStepsModel", "takeFault", "(I)V"⟩
abbrev zb_M_takeFault : ByteArray := prog_12_method_15_code
abbrev zs_M_takeFault : List Cond := .code zy_M_takeFault zb_M_takeFault 2 none :: zq_W
abbrev zy_M_waitingLine : MethodName := ⟨"PlainStepsModel", "waitingLine", "()I"⟩
abbrev zb_M_waitingLine : ByteArray := prog_12_method_16_code
abbrev zs_M_waitingLine : List Cond := .code zy_M_waitingLine zb_M_waitingLine 3 (some .int) :: zq_W
abbrev zy_M_isParallel : MethodName := ⟨"PlainStepsModel", "isParallel", "(I)Z"⟩
abbrev zb_M_isParallel : ByteArray := prog_12_method_17_code
abbrev zs_M_isParallel : List Cond := .code zy_M_isParallel zb_M_isParallel 2 (some .boolean) :: zq_W
abbrev zy_M_operand : MethodName := ⟨"PlainStepsModel", "operand", "(II)J"⟩
abbrev zb_M_operand : ByteArray := prog_12_method_18_code
abbrev zs_M_operand : List Cond := .code zy_M_operand zb_M_operand 7 (some .long) :: zq_W
abbrev zy_M_isMarked : MethodName := ⟨"PlainStepsModel", "isMarked", "(II)Z"⟩
abbrev zb_M_isMarked : ByteArray := prog_12_method_19_code
abbrev zs_M_isMarked : List Cond := .code zy_M_isMarked zb_M_isMarked 3 (some .boolean) :: zq_W
abbrev zy_M_setRegister : MethodName := ⟨"PlainStepsModel", "setRegister", "(IJZ)V"⟩
abbrev zb_M_setRegister : ByteArray := prog_12_method_20_code
abbrev zs_M_setRegister : List Cond := .code zy_M_setRegister zb_M_setRegister 5 none :: zq_W
abbrev zy_M_setMemory : MethodName := ⟨"PlainStepsModel", "setMemory", "(IJI)V"⟩
abbrev zb_M_setMemory : ByteArray := prog_12_method_21_code
abbrev zs_M_setMemory : List Cond := .code zy_M_setMemory zb_M_setMemory 5 none :: zq_W
abbrev zy_M_later : MethodName := ⟨"PlainStepsModel", "later", "(IIJZ)V"⟩
abbrev zb_M_later : ByteArray := prog_12_method_22_code
abbrev zs_M_later : List Cond := .code zy_M_later zb_M_later 6 none :: zq_W
abbrev zy_M_result : MethodName := ⟨"PlainStepsModel", "result", "(IIJZ)V"⟩
abbrev zb_M_result : ByteArray := prog_12_method_23_code
abbrev zs_M_result : List Cond := .code zy_M_result zb_M_result 8 none :: zq_W
abbrev zy_M_markOnly : MethodName := ⟨"PlainStepsModel", "markOnly", "(II)V"⟩
abbrev zb_M_markOnly : ByteArray := prog_12_method_24_code
abbrev zs_M_markOnly : List Cond := .code zy_M_markOnly zb_M_markOnly 3 none :: zq_W
abbrev zy_M_writeAll : MethodName := ⟨"PlainStepsModel", "writeAll", "()V"⟩
abbrev zb_M_writeAll : ByteArray := prog_12_method_25_code
abbrev zs_M_writeAll : List Cond := .code zy_M_writeAll zb_M_writeAll 3 none :: zq_W
abbrev zy_M_isLess : MethodName := ⟨"PlainStepsModel", "isLess", "(JJ)Z"⟩
abbrev zb_M_isLess : ByteArray := prog_12_method_26_code
abbrev zs_M_isLess : List Cond := .code zy_M_isLess zb_M_isLess 4 (some .boolean) :: zq_W
abbrev zy_M_quotient : MethodName := ⟨"PlainStepsModel", "quotient", "(JJ)J"⟩
abbrev zb_M_quotient : ByteArray := prog_12_method_27_code
abbrev zs_M_quotient : List Cond := .code zy_M_quotient zb_M_quotient 8 (some .long) :: zq_W
abbrev zy_M_simple : MethodName := ⟨"PlainStepsModel", "simple", "(IJJ)J"⟩
abbrev zb_M_simple : ByteArray := prog_12_method_28_code
abbrev zs_M_simple : List Cond := .code zy_M_simple zb_M_simple 5 (some .long) :: zq_W
abbrev zy_M_isThere : MethodName := ⟨"PlainStepsModel", "isThere", "(JI)Z"⟩
abbrev zb_M_isThere : ByteArray := prog_12_method_29_code
abbrev zs_M_isThere : List Cond := .code zy_M_isThere zb_M_isThere 4 (some .boolean) :: zq_W
abbrev zy_M_compute : MethodName := ⟨"PlainStepsModel", "compute", "(IIJJ)V"⟩
abbrev zb_M_compute : ByteArray := prog_12_method_30_code
abbrev zs_M_compute : List Cond := .code zy_M_compute zb_M_compute 10 none :: zq_W
abbrev zy_M_store : MethodName := ⟨"PlainStepsModel", "store", "(IJJI)V"⟩
abbrev zb_M_store : ByteArray := prog_12_method_31_code
abbrev zs_M_store : List Cond := .code zy_M_store zb_M_store 7 none :: zq_W
abbrev zy_M_back : MethodName := ⟨"PlainStepsModel", "back", "()V"⟩
abbrev zb_M_back : ByteArray := prog_12_method_32_code
abbrev zs_M_back : List Cond := .code zy_M_back zb_M_back 1 none :: zq_W
abbrev zy_M_doTransfer : MethodName := ⟨"PlainStepsModel", "doTransfer", "(II)V"⟩
abbrev zb_M_doTransfer : ByteArray := prog_12_method_33_code
abbrev zs_M_doTransfer : List Cond := .code zy_M_doTransfer zb_M_doTransfer 7 none :: zq_W
abbrev zy_M_save : MethodName := ⟨"PlainStepsModel", "save", "()V"⟩
abbrev zb_M_save : ByteArray := prog_12_method_34_code
abbrev zs_M_save : List Cond := .code zy_M_save zb_M_save 2 none :: zq_W
abbrev zy_M_restore : MethodName := ⟨"PlainStepsModel", "restore", "()V"⟩
abbrev zb_M_restore : ByteArray := prog_12_method_35_code
abbrev zs_M_restore : List Cond := .code zy_M_restore zb_M_restore 2 none :: zq_W
abbrev zy_M_find : MethodName := ⟨"PlainStepsModel", "find", "()I"⟩
abbrev zb_M_find : ByteArray := prog_12_method_36_code
abbrev zs_M_find : List Cond := .code zy_M_find zb_M_find 2 (some .int) :: zq_W
abbrev zy_M_doAll : MethodName := ⟨"PlainStepsModel", "doAll", "(I)V"⟩
abbrev zb_M_doAll : ByteArray := prog_12_method_37_code
abbrev zs_M_doAll : List Cond := .code zy_M_doAll zb_M_doAll 3 none :: zq_W
abbrev zy_M_comePlace : MethodName := ⟨"PlainStepsModel", "comePlace", "(I)V"⟩
abbrev zb_M_comePlace : ByteArray := prog_12_method_38_code
abbrev zs_M_comePlace : List Cond := .code zy_M_comePlace zb_M_comePlace 5 none :: zq_W
abbrev zy_M_doInstruction : MethodName := ⟨"PlainStepsModel", "doInstruction", "()V"⟩
abbrev zb_M_doInstruction : ByteArray := prog_12_method_39_code
abbrev zs_M_doInstruction : List Cond := .code zy_M_doInstruction zb_M_doInstruction 3 none :: zq_W
abbrev zy_M_stepOnce : MethodName := ⟨"PlainStepsModel", "stepOnce", "()V"⟩
abbrev zb_M_stepOnce : ByteArray := prog_12_method_40_code
abbrev zs_M_stepOnce : List Cond := .code zy_M_stepOnce zb_M_stepOnce 2 none :: zq_W
abbrev zy_M_step : MethodName := ⟨"PlainStepsModel", "step", "(I)I"⟩
abbrev zb_M_step : ByteArray := prog_12_method_41_code
abbrev zs_M_step : List Cond := .code zy_M_step zb_M_step 3 (some .int) :: zq_W
abbrev zy_M_isRegister : MethodName := ⟨"PlainStepsModel", "isRegister", "(I)Z"⟩
abbrev zb_M_isRegister : ByteArray := prog_12_method_42_code
abbrev zs_M_isRegister : List Cond := .code zy_M_isRegister zb_M_isRegister 2 (some .boolean) :: zq_W
abbrev zy_M_set : MethodName := ⟨"PlainStepsModel", "set", "(IJ)J"⟩
abbrev zb_M_set : ByteArray := prog_12_method_43_code
abbrev zs_M_set : List Cond := .code zy_M_set zb_M_set 6 (some .long) :: zq_W
abbrev zy_M_get : MethodName := ⟨"PlainStepsModel", "get", "(I)J"⟩
abbrev zb_M_get : ByteArray := prog_12_method_44_code
abbrev zs_M_get : List Cond := .code zy_M_get zb_M_get 2 (some .long) :: zq_W
abbrev zy_M_mark : MethodName := ⟨"PlainStepsModel", "mark", "(I)Z"⟩
abbrev zb_M_mark : ByteArray := prog_12_method_45_code
abbrev zs_M_mark : List Cond := .code zy_M_mark zb_M_mark 2 (some .boolean) :: zq_W
abbrev zy_M_line : MethodName := ⟨"PlainStepsModel", "line", "(IZ)Z"⟩
abbrev zb_M_line : ByteArray := prog_12_method_46_code
abbrev zs_M_line : List Cond := .code zy_M_line zb_M_line 4 (some .boolean) :: zq_W
abbrev zy_M_enable : MethodName := ⟨"PlainStepsModel", "enable", "(II)I"⟩
abbrev zb_M_enable : ByteArray := prog_12_method_47_code
abbrev zs_M_enable : List Cond := .code zy_M_enable zb_M_enable 4 (some .int) :: zq_W
abbrev zy_M_fault : MethodName := ⟨"PlainStepsModel", "fault", "(I)I"⟩
abbrev zb_M_fault : ByteArray := prog_12_method_48_code
abbrev zs_M_fault : List Cond := .code zy_M_fault zb_M_fault 2 (some .int) :: zq_W
abbrev zy_M_halted : MethodName := ⟨"PlainStepsModel", "halted", "()I"⟩
abbrev zb_M_halted : ByteArray := prog_12_method_49_code
abbrev zs_M_halted : List Cond := .code zy_M_halted zb_M_halted 1 (some .int) :: zq_W
abbrev zy_M_counter : MethodName := ⟨"PlainStepsModel", "counter", "(I)I"⟩
abbrev zb_M_counter : ByteArray := prog_12_method_50_code
abbrev zs_M_counter : List Cond := .code zy_M_counter zb_M_counter 2 (some .int) :: zq_W
abbrev zy_L_register : MethodName := ⟨"PlainStepsLaw", "register", "(LPlainSteps;I[J)I"⟩
abbrev zb_L_register : ByteArray := method_3_code
abbrev zy_L_constant : MethodName := ⟨"PlainStepsLaw", "constant", "(LPlainSteps;J[J)I"⟩
abbrev zb_L_constant : ByteArray := method_4_code
abbrev zy_L_field : MethodName := ⟨"PlainStepsLaw", "field", "(LPlainSteps;IIZ[J)I"⟩
abbrev zb_L_field : ByteArray := method_5_code
abbrev zy_L_transfer : MethodName := ⟨"PlainStepsLaw", "transfer", "(LPlainSteps;IIII[J)I"⟩
abbrev zb_L_transfer : ByteArray := method_6_code
abbrev zy_L_instruction : MethodName := ⟨"PlainStepsLaw", "instruction", "(LPlainSteps;III[J)I"⟩
abbrev zb_L_instruction : ByteArray := method_7_code
abbrev zy_L_memory : MethodName := ⟨"PlainStepsLaw", "memory", "(LPlainSteps;II[J)I"⟩
abbrev zb_L_memory : ByteArray := method_8_code
abbrev zy_L_byteAt : MethodName := ⟨"PlainStepsLaw", "byteAt", "(LPlainSteps;I[J)I"⟩
abbrev zb_L_byteAt : ByteArray := method_9_code
abbrev zy_L_step : MethodName := ⟨"PlainStepsLaw", "step", "(LPlainSteps;I[J)I"⟩
abbrev zb_L_step : ByteArray := method_10_code
abbrev zy_L_set : MethodName := ⟨"PlainStepsLaw", "set", "(LPlainSteps;IJ[J)I"⟩
abbrev zb_L_set : ByteArray := method_11_code
abbrev zy_L_get : MethodName := ⟨"PlainStepsLaw", "get", "(LPlainSteps;I[J)I"⟩
abbrev zb_L_get : ByteArray := method_12_code
abbrev zy_L_mark : MethodName := ⟨"PlainStepsLaw", "mark", "(LPlainSteps;I[J)I"⟩
abbrev zb_L_mark : ByteArray := method_13_code
abbrev zy_L_line : MethodName := ⟨"PlainStepsLaw", "line", "(LPlainSteps;IZ[J)I"⟩
abbrev zb_L_line : ByteArray := method_14_code
abbrev zy_L_enable : MethodName := ⟨"PlainStepsLaw", "enable", "(LPlainSteps;II[J)I"⟩
abbrev zb_L_enable : ByteArray := method_15_code
abbrev zy_L_fault : MethodName := ⟨"PlainStepsLaw", "fault", "(LPlainSteps;I[J)I"⟩
abbrev zb_L_fault : ByteArray := method_16_code
abbrev zy_L_counter : MethodName := ⟨"PlainStepsLaw", "counter", "(LPlainSteps;I[J)I"⟩
abbrev zb_L_counter : ByteArray := method_17_code
theorem zw_0 : (.laysFinal "PlainSteps$Registers" "PlainSteps$Registers" "cuts" "[J" : Cond) ∈ zq_W := List.mem_filter.mpr ⟨List.mem_append_right _ (List.mem_append_left _ (List.mem_of_getElem? (i := 39) rfl)), rfl⟩
theorem zw_1 : (.laysFinal "PlainSteps$Registers" "PlainSteps$Registers" "values" "[J" : Cond) ∈ zq_W := List.mem_filter.mpr ⟨List.mem_append_right _ (List.mem_append_left _ (List.mem_of_getElem? (i := 41) rfl)), rfl⟩
theorem zw_2 : (.laysFinal "PlainSteps$Registers" "PlainSteps$Registers" "marks" "[Z" : Cond) ∈ zq_W := List.mem_filter.mpr ⟨List.mem_append_right _ (List.mem_append_left _ (List.mem_of_getElem? (i := 43) rfl)), rfl⟩
theorem zw_3 : (.lays "PlainSteps$Registers" "PlainSteps$Registers" "count" "I" : Cond) ∈ zq_W := List.mem_filter.mpr ⟨List.mem_append_right _ (List.mem_append_left _ (List.mem_of_getElem? (i := 45) rfl)), rfl⟩
theorem zw_4 : (.laysFinal "PlainSteps$Bytes" "PlainSteps$Bytes" "cells" "[B" : Cond) ∈ zq_W := List.mem_filter.mpr ⟨List.mem_append_right _ (List.mem_append_left _ (List.mem_of_getElem? (i := 57) rfl)), rfl⟩
theorem zw_5 : (.laysFinal "PlainSteps$Operands" "PlainSteps$Operands" "registers" "LPlainSteps$Registers;" : Cond) ∈ zq_W := List.mem_filter.mpr ⟨List.mem_append_right _ (List.mem_append_left _ (List.mem_of_getElem? (i := 76) rfl)), rfl⟩
theorem zw_6 : (.laysFinal "PlainSteps$Operands" "PlainSteps$Operands" "constants" "[J" : Cond) ∈ zq_W := List.mem_filter.mpr ⟨List.mem_append_right _ (List.mem_append_left _ (List.mem_of_getElem? (i := 78) rfl)), rfl⟩
theorem zw_7 : (.laysFinal "PlainSteps$Operands" "PlainSteps$Operands" "fieldFrom" "[I" : Cond) ∈ zq_W := List.mem_filter.mpr ⟨List.mem_append_right _ (List.mem_append_left _ (List.mem_of_getElem? (i := 80) rfl)), rfl⟩
theorem zw_8 : (.laysFinal "PlainSteps$Operands" "PlainSteps$Operands" "fieldTo" "[I" : Cond) ∈ zq_W := List.mem_filter.mpr ⟨List.mem_append_right _ (List.mem_append_left _ (List.mem_of_getElem? (i := 82) rfl)), rfl⟩
theorem zw_9 : (.laysFinal "PlainSteps$Operands" "PlainSteps$Operands" "fieldSign" "[Z" : Cond) ∈ zq_W := List.mem_filter.mpr ⟨List.mem_append_right _ (List.mem_append_left _ (List.mem_of_getElem? (i := 84) rfl)), rfl⟩
theorem zw_10 : (.lays "PlainSteps$Operands" "PlainSteps$Operands" "constantCount" "I" : Cond) ∈ zq_W := List.mem_filter.mpr ⟨List.mem_append_right _ (List.mem_append_left _ (List.mem_of_getElem? (i := 86) rfl)), rfl⟩
theorem zw_11 : (.lays "PlainSteps$Operands" "PlainSteps$Operands" "fieldCount" "I" : Cond) ∈ zq_W := List.mem_filter.mpr ⟨List.mem_append_right _ (List.mem_append_left _ (List.mem_of_getElem? (i := 88) rfl)), rfl⟩
theorem zw_12 : (.laysFinal "PlainSteps$Program" "PlainSteps$Program" "ops" "[I" : Cond) ∈ zq_W := List.mem_filter.mpr ⟨List.mem_append_right _ (List.mem_append_left _ (List.mem_of_getElem? (i := 117) rfl)), rfl⟩
theorem zw_13 : (.laysFinal "PlainSteps$Program" "PlainSteps$Program" "firsts" "[I" : Cond) ∈ zq_W := List.mem_filter.mpr ⟨List.mem_append_right _ (List.mem_append_left _ (List.mem_of_getElem? (i := 119) rfl)), rfl⟩
theorem zw_14 : (.laysFinal "PlainSteps$Program" "PlainSteps$Program" "seconds" "[I" : Cond) ∈ zq_W := List.mem_filter.mpr ⟨List.mem_append_right _ (List.mem_append_left _ (List.mem_of_getElem? (i := 121) rfl)), rfl⟩
theorem zw_15 : (.laysFinal "PlainSteps$Program" "PlainSteps$Program" "targets" "[I" : Cond) ∈ zq_W := List.mem_filter.mpr ⟨List.mem_append_right _ (List.mem_append_left _ (List.mem_of_getElem? (i := 123) rfl)), rfl⟩
theorem zw_16 : (.lays "PlainSteps$Program" "PlainSteps$Program" "transferCount" "I" : Cond) ∈ zq_W := List.mem_filter.mpr ⟨List.mem_append_right _ (List.mem_append_left _ (List.mem_of_getElem? (i := 125) rfl)), rfl⟩
theorem zw_17 : (.laysFinal "PlainSteps$Program" "PlainSteps$Program" "masks" "[I" : Cond) ∈ zq_W := List.mem_filter.mpr ⟨List.mem_append_right _ (List.mem_append_left _ (List.mem_of_getElem? (i := 127) rfl)), rfl⟩
theorem zw_18 : (.laysFinal "PlainSteps$Program" "PlainSteps$Program" "values" "[I" : Cond) ∈ zq_W := List.mem_filter.mpr ⟨List.mem_append_right _ (List.mem_append_left _ (List.mem_of_getElem? (i := 129) rfl)), rfl⟩
theorem zw_19 : (.laysFinal "PlainSteps$Program" "PlainSteps$Program" "ways" "[I" : Cond) ∈ zq_W := List.mem_filter.mpr ⟨List.mem_append_right _ (List.mem_append_left _ (List.mem_of_getElem? (i := 131) rfl)), rfl⟩
theorem zw_20 : (.laysFinal "PlainSteps$Program" "PlainSteps$Program" "starts" "[I" : Cond) ∈ zq_W := List.mem_filter.mpr ⟨List.mem_append_right _ (List.mem_append_left _ (List.mem_of_getElem? (i := 133) rfl)), rfl⟩
theorem zw_21 : (.laysFinal "PlainSteps$Program" "PlainSteps$Program" "ends" "[I" : Cond) ∈ zq_W := List.mem_filter.mpr ⟨List.mem_append_right _ (List.mem_append_left _ (List.mem_of_getElem? (i := 135) rfl)), rfl⟩
theorem zw_22 : (.lays "PlainSteps$Program" "PlainSteps$Program" "instructionCount" "I" : Cond) ∈ zq_W := List.mem_filter.mpr ⟨List.mem_append_right _ (List.mem_append_left _ (List.mem_of_getElem? (i := 137) rfl)), rfl⟩
theorem zw_23 : (.laysFinal "PlainSteps$Kept" "PlainSteps$Kept" "places" "[I" : Cond) ∈ zq_W := List.mem_filter.mpr ⟨List.mem_append_right _ (List.mem_append_left _ (List.mem_of_getElem? (i := 155) rfl)), rfl⟩
theorem zw_24 : (.laysFinal "PlainSteps$Kept" "PlainSteps$Kept" "levels" "[I" : Cond) ∈ zq_W := List.mem_filter.mpr ⟨List.mem_append_right _ (List.mem_append_left _ (List.mem_of_getElem? (i := 157) rfl)), rfl⟩
theorem zw_25 : (.lays "PlainSteps$Kept" "PlainSteps$Kept" "count" "I" : Cond) ∈ zq_W := List.mem_filter.mpr ⟨List.mem_append_right _ (List.mem_append_left _ (List.mem_of_getElem? (i := 159) rfl)), rfl⟩
theorem zw_26 : (.lays "PlainSteps$Kept" "PlainSteps$Kept" "level" "I" : Cond) ∈ zq_W := List.mem_filter.mpr ⟨List.mem_append_right _ (List.mem_append_left _ (List.mem_of_getElem? (i := 161) rfl)), rfl⟩
theorem zw_27 : (.laysFinal "PlainSteps$Lines" "PlainSteps$Lines" "on" "[Z" : Cond) ∈ zq_W := List.mem_filter.mpr ⟨List.mem_append_right _ (List.mem_append_left _ (List.mem_of_getElem? (i := 172) rfl)), rfl⟩
theorem zw_28 : (.laysFinal "PlainSteps$Lines" "PlainSteps$Lines" "ranks" "[I" : Cond) ∈ zq_W := List.mem_filter.mpr ⟨List.mem_append_right _ (List.mem_append_left _ (List.mem_of_getElem? (i := 174) rfl)), rfl⟩
theorem zw_29 : (.laysFinal "PlainSteps$Writes" "PlainSteps$Writes" "registers" "LPlainSteps$Registers;" : Cond) ∈ zq_W := List.mem_filter.mpr ⟨List.mem_append_right _ (List.mem_append_left _ (List.mem_of_getElem? (i := 195) rfl)), rfl⟩
theorem zw_30 : (.laysFinal "PlainSteps$Writes" "PlainSteps$Writes" "bytes" "LPlainSteps$Bytes;" : Cond) ∈ zq_W := List.mem_filter.mpr ⟨List.mem_append_right _ (List.mem_append_left _ (List.mem_of_getElem? (i := 197) rfl)), rfl⟩
theorem zw_31 : (.laysFinal "PlainSteps$Writes" "PlainSteps$Writes" "forms" "[I" : Cond) ∈ zq_W := List.mem_filter.mpr ⟨List.mem_append_right _ (List.mem_append_left _ (List.mem_of_getElem? (i := 199) rfl)), rfl⟩
theorem zw_32 : (.laysFinal "PlainSteps$Writes" "PlainSteps$Writes" "targets" "[I" : Cond) ∈ zq_W := List.mem_filter.mpr ⟨List.mem_append_right _ (List.mem_append_left _ (List.mem_of_getElem? (i := 201) rfl)), rfl⟩
theorem zw_33 : (.laysFinal "PlainSteps$Writes" "PlainSteps$Writes" "values" "[J" : Cond) ∈ zq_W := List.mem_filter.mpr ⟨List.mem_append_right _ (List.mem_append_left _ (List.mem_of_getElem? (i := 203) rfl)), rfl⟩
theorem zw_34 : (.lays "PlainSteps$Writes" "PlainSteps$Writes" "count" "I" : Cond) ∈ zq_W := List.mem_filter.mpr ⟨List.mem_append_right _ (List.mem_append_left _ (List.mem_of_getElem? (i := 205) rfl)), rfl⟩
theorem zw_35 : (.laysFinal "PlainSteps$Work" "PlainSteps$Work" "registers" "LPlainSteps$Registers;" : Cond) ∈ zq_W := List.mem_filter.mpr ⟨List.mem_append_right _ (List.mem_append_left _ (List.mem_of_getElem? (i := 224) rfl)), rfl⟩
theorem zw_36 : (.laysFinal "PlainSteps$Work" "PlainSteps$Work" "bytes" "LPlainSteps$Bytes;" : Cond) ∈ zq_W := List.mem_filter.mpr ⟨List.mem_append_right _ (List.mem_append_left _ (List.mem_of_getElem? (i := 226) rfl)), rfl⟩
theorem zw_37 : (.laysFinal "PlainSteps$Work" "PlainSteps$Work" "operands" "LPlainSteps$Operands;" : Cond) ∈ zq_W := List.mem_filter.mpr ⟨List.mem_append_right _ (List.mem_append_left _ (List.mem_of_getElem? (i := 228) rfl)), rfl⟩
theorem zw_38 : (.laysFinal "PlainSteps$Work" "PlainSteps$Work" "program" "LPlainSteps$Program;" : Cond) ∈ zq_W := List.mem_filter.mpr ⟨List.mem_append_right _ (List.mem_append_left _ (List.mem_of_getElem? (i := 230) rfl)), rfl⟩
theorem zw_39 : (.laysFinal "PlainSteps$Work" "PlainSteps$Work" "kept" "LPlainSteps$Kept;" : Cond) ∈ zq_W := List.mem_filter.mpr ⟨List.mem_append_right _ (List.mem_append_left _ (List.mem_of_getElem? (i := 232) rfl)), rfl⟩
theorem zw_40 : (.laysFinal "PlainSteps$Work" "PlainSteps$Work" "writes" "LPlainSteps$Writes;" : Cond) ∈ zq_W := List.mem_filter.mpr ⟨List.mem_append_right _ (List.mem_append_left _ (List.mem_of_getElem? (i := 234) rfl)), rfl⟩
theorem zw_41 : (.laysFinal "PlainSteps$Work" "PlainSteps$Work" "counts" "[I" : Cond) ∈ zq_W := List.mem_filter.mpr ⟨List.mem_append_right _ (List.mem_append_left _ (List.mem_of_getElem? (i := 236) rfl)), rfl⟩
theorem zw_42 : (.lays "PlainSteps$Work" "PlainSteps$Work" "word" "I" : Cond) ∈ zq_W := List.mem_filter.mpr ⟨List.mem_append_right _ (List.mem_append_left _ (List.mem_of_getElem? (i := 238) rfl)), rfl⟩
theorem zw_43 : (.lays "PlainSteps$Work" "PlainSteps$Work" "parallel" "Z" : Cond) ∈ zq_W := List.mem_filter.mpr ⟨List.mem_append_right _ (List.mem_append_right _ (List.mem_append_left _ (List.mem_of_getElem? (i := 0) rfl))), rfl⟩
theorem zw_44 : (.lays "PlainSteps$Work" "PlainSteps$Work" "restoring" "Z" : Cond) ∈ zq_W := List.mem_filter.mpr ⟨List.mem_append_right _ (List.mem_append_right _ (List.mem_append_left _ (List.mem_of_getElem? (i := 2) rfl))), rfl⟩
theorem zw_45 : (.lays "PlainSteps$Work" "PlainSteps$Work" "wrotePlace" "Z" : Cond) ∈ zq_W := List.mem_filter.mpr ⟨List.mem_append_right _ (List.mem_append_right _ (List.mem_append_left _ (List.mem_of_getElem? (i := 4) rfl))), rfl⟩
theorem zw_46 : (.lays "PlainSteps$Work" "PlainSteps$Work" "ended" "Z" : Cond) ∈ zq_W := List.mem_filter.mpr ⟨List.mem_append_right _ (List.mem_append_right _ (List.mem_append_left _ (List.mem_of_getElem? (i := 6) rfl))), rfl⟩
theorem zw_47 : (.lays "PlainSteps$Work" "PlainSteps$Work" "halts" "Z" : Cond) ∈ zq_W := List.mem_filter.mpr ⟨List.mem_append_right _ (List.mem_append_right _ (List.mem_append_left _ (List.mem_of_getElem? (i := 8) rfl))), rfl⟩
theorem zw_48 : (.lays "PlainSteps$Work" "PlainSteps$Work" "backPlace" "I" : Cond) ∈ zq_W := List.mem_filter.mpr ⟨List.mem_append_right _ (List.mem_append_right _ (List.mem_append_left _ (List.mem_of_getElem? (i := 10) rfl))), rfl⟩
theorem zw_49 : (.laysFinal "PlainSteps$Machine" "PlainSteps$Machine" "registers" "LPlainSteps$Registers;" : Cond) ∈ zq_W := List.mem_filter.mpr ⟨List.mem_append_right _ (List.mem_append_right _ (List.mem_append_left _ (List.mem_of_getElem? (i := 33) rfl))), rfl⟩
theorem zw_50 : (.laysFinal "PlainSteps$Machine" "PlainSteps$Machine" "bytes" "LPlainSteps$Bytes;" : Cond) ∈ zq_W := List.mem_filter.mpr ⟨List.mem_append_right _ (List.mem_append_right _ (List.mem_append_left _ (List.mem_of_getElem? (i := 35) rfl))), rfl⟩
theorem zw_51 : (.laysFinal "PlainSteps$Machine" "PlainSteps$Machine" "program" "LPlainSteps$Program;" : Cond) ∈ zq_W := List.mem_filter.mpr ⟨List.mem_append_right _ (List.mem_append_right _ (List.mem_append_left _ (List.mem_of_getElem? (i := 37) rfl))), rfl⟩
theorem zw_52 : (.laysFinal "PlainSteps$Machine" "PlainSteps$Machine" "kept" "LPlainSteps$Kept;" : Cond) ∈ zq_W := List.mem_filter.mpr ⟨List.mem_append_right _ (List.mem_append_right _ (List.mem_append_left _ (List.mem_of_getElem? (i := 39) rfl))), rfl⟩
theorem zw_53 : (.laysFinal "PlainSteps$Machine" "PlainSteps$Machine" "lines" "LPlainSteps$Lines;" : Cond) ∈ zq_W := List.mem_filter.mpr ⟨List.mem_append_right _ (List.mem_append_right _ (List.mem_append_left _ (List.mem_of_getElem? (i := 41) rfl))), rfl⟩
theorem zw_54 : (.laysFinal "PlainSteps$Machine" "PlainSteps$Machine" "work" "LPlainSteps$Work;" : Cond) ∈ zq_W := List.mem_filter.mpr ⟨List.mem_append_right _ (List.mem_append_right _ (List.mem_append_left _ (List.mem_of_getElem? (i := 43) rfl))), rfl⟩
theorem zw_55 : (.laysFinal "PlainSteps$Machine" "PlainSteps$Machine" "counts" "[I" : Cond) ∈ zq_W := List.mem_filter.mpr ⟨List.mem_append_right _ (List.mem_append_right _ (List.mem_append_left _ (List.mem_of_getElem? (i := 45) rfl))), rfl⟩
theorem zw_56 : (.lays "PlainSteps$Machine" "PlainSteps$Machine" "waitingPlace" "I" : Cond) ∈ zq_W := List.mem_filter.mpr ⟨List.mem_append_right _ (List.mem_append_right _ (List.mem_append_left _ (List.mem_of_getElem? (i := 47) rfl))), rfl⟩
theorem zw_57 : (.lays "PlainSteps$Machine" "PlainSteps$Machine" "halt" "I" : Cond) ∈ zq_W := List.mem_filter.mpr ⟨List.mem_append_right _ (List.mem_append_right _ (List.mem_append_left _ (List.mem_of_getElem? (i := 49) rfl))), rfl⟩
theorem zw_58 : (.lays "PlainSteps$Machine" "PlainSteps$Machine" "faultKind" "I" : Cond) ∈ zq_W := List.mem_filter.mpr ⟨List.mem_append_right _ (List.mem_append_right _ (List.mem_append_left _ (List.mem_of_getElem? (i := 51) rfl))), rfl⟩
theorem zw_59 : (.lays "PlainSteps$Machine" "PlainSteps$Machine" "faultPlace" "I" : Cond) ∈ zq_W := List.mem_filter.mpr ⟨List.mem_append_right _ (List.mem_append_right _ (List.mem_append_left _ (List.mem_of_getElem? (i := 53) rfl))), rfl⟩
theorem zw_60 : (.laysFinal "PlainSteps" "PlainSteps" "registers" "LPlainSteps$Registers;" : Cond) ∈ zq_W := List.mem_filter.mpr ⟨List.mem_append_right _ (List.mem_append_right _ (List.mem_append_left _ (List.mem_of_getElem? (i := 64) rfl))), rfl⟩
theorem zw_61 : (.laysFinal "PlainSteps" "PlainSteps" "bytes" "LPlainSteps$Bytes;" : Cond) ∈ zq_W := List.mem_filter.mpr ⟨List.mem_append_right _ (List.mem_append_right _ (List.mem_append_left _ (List.mem_of_getElem? (i := 66) rfl))), rfl⟩
theorem zw_62 : (.laysFinal "PlainSteps" "PlainSteps" "operands" "LPlainSteps$Operands;" : Cond) ∈ zq_W := List.mem_filter.mpr ⟨List.mem_append_right _ (List.mem_append_right _ (List.mem_append_left _ (List.mem_of_getElem? (i := 68) rfl))), rfl⟩
theorem zw_63 : (.laysFinal "PlainSteps" "PlainSteps" "program" "LPlainSteps$Program;" : Cond) ∈ zq_W := List.mem_filter.mpr ⟨List.mem_append_right _ (List.mem_append_right _ (List.mem_append_left _ (List.mem_of_getElem? (i := 70) rfl))), rfl⟩
theorem zw_64 : (.laysFinal "PlainSteps" "PlainSteps" "kept" "LPlainSteps$Kept;" : Cond) ∈ zq_W := List.mem_filter.mpr ⟨List.mem_append_right _ (List.mem_append_right _ (List.mem_append_left _ (List.mem_of_getElem? (i := 72) rfl))), rfl⟩
theorem zw_65 : (.laysFinal "PlainSteps" "PlainSteps" "lines" "LPlainSteps$Lines;" : Cond) ∈ zq_W := List.mem_filter.mpr ⟨List.mem_append_right _ (List.mem_append_right _ (List.mem_append_left _ (List.mem_of_getElem? (i := 74) rfl))), rfl⟩
theorem zw_66 : (.laysFinal "PlainSteps" "PlainSteps" "machine" "LPlainSteps$Machine;" : Cond) ∈ zq_W := List.mem_filter.mpr ⟨List.mem_append_right _ (List.mem_append_right _ (List.mem_append_left _ (List.mem_of_getElem? (i := 76) rfl))), rfl⟩
theorem zw_67 : (.laysFinal "PlainSteps" "PlainSteps" "counts" "[I" : Cond) ∈ zq_W := List.mem_filter.mpr ⟨List.mem_append_right _ (List.mem_append_right _ (List.mem_append_left _ (List.mem_of_getElem? (i := 78) rfl))), rfl⟩
theorem zw_68 : (.lays "PlainStepsModel" "PlainStepsModel" "thrown" "I" : Cond) ∈ zq_W := List.mem_filter.mpr ⟨List.mem_append_right _ (List.mem_append_right _ (List.mem_append_right _ (List.mem_append_right _ (List.mem_append_left _ (List.mem_of_getElem? (i := 153) rfl))))), rfl⟩
theorem zw_69 : (.lays "PlainStepsModel" "PlainStepsModel" "registers" "I" : Cond) ∈ zq_W := List.mem_filter.mpr ⟨List.mem_append_right _ (List.mem_append_right _ (List.mem_append_right _ (List.mem_append_right _ (List.mem_append_left _ (List.mem_of_getElem? (i := 155) rfl))))), rfl⟩
theorem zw_70 : (.laysFinal "PlainStepsModel" "PlainStepsModel" "width" "[I" : Cond) ∈ zq_W := List.mem_filter.mpr ⟨List.mem_append_right _ (List.mem_append_right _ (List.mem_append_right _ (List.mem_append_right _ (List.mem_append_left _ (List.mem_of_getElem? (i := 157) rfl))))), rfl⟩
theorem zw_71 : (.laysFinal "PlainStepsModel" "PlainStepsModel" "value" "[J" : Cond) ∈ zq_W := List.mem_filter.mpr ⟨List.mem_append_right _ (List.mem_append_right _ (List.mem_append_right _ (List.mem_append_right _ (List.mem_append_left _ (List.mem_of_getElem? (i := 159) rfl))))), rfl⟩
theorem zw_72 : (.laysFinal "PlainStepsModel" "PlainStepsModel" "before" "[J" : Cond) ∈ zq_W := List.mem_filter.mpr ⟨List.mem_append_right _ (List.mem_append_right _ (List.mem_append_right _ (List.mem_append_right _ (List.mem_append_left _ (List.mem_of_getElem? (i := 161) rfl))))), rfl⟩
theorem zw_73 : (.laysFinal "PlainStepsModel" "PlainStepsModel" "saved" "[J" : Cond) ∈ zq_W := List.mem_filter.mpr ⟨List.mem_append_right _ (List.mem_append_right _ (List.mem_append_right _ (List.mem_append_right _ (List.mem_append_left _ (List.mem_of_getElem? (i := 163) rfl))))), rfl⟩
theorem zw_74 : (.laysFinal "PlainStepsModel" "PlainStepsModel" "marked" "[Z" : Cond) ∈ zq_W := List.mem_filter.mpr ⟨List.mem_append_right _ (List.mem_append_right _ (List.mem_append_right _ (List.mem_append_right _ (List.mem_append_left _ (List.mem_of_getElem? (i := 165) rfl))))), rfl⟩
theorem zw_75 : (.laysFinal "PlainStepsModel" "PlainStepsModel" "markedBefore" "[Z" : Cond) ∈ zq_W := List.mem_filter.mpr ⟨List.mem_append_right _ (List.mem_append_right _ (List.mem_append_right _ (List.mem_append_right _ (List.mem_append_left _ (List.mem_of_getElem? (i := 167) rfl))))), rfl⟩
theorem zw_76 : (.laysFinal "PlainStepsModel" "PlainStepsModel" "markedSaved" "[Z" : Cond) ∈ zq_W := List.mem_filter.mpr ⟨List.mem_append_right _ (List.mem_append_right _ (List.mem_append_right _ (List.mem_append_right _ (List.mem_append_left _ (List.mem_of_getElem? (i := 169) rfl))))), rfl⟩
theorem zw_77 : (.laysFinal "PlainStepsModel" "PlainStepsModel" "memory" "[B" : Cond) ∈ zq_W := List.mem_filter.mpr ⟨List.mem_append_right _ (List.mem_append_right _ (List.mem_append_right _ (List.mem_append_right _ (List.mem_append_left _ (List.mem_of_getElem? (i := 171) rfl))))), rfl⟩
theorem zw_78 : (.laysFinal "PlainStepsModel" "PlainStepsModel" "memorySaved" "[B" : Cond) ∈ zq_W := List.mem_filter.mpr ⟨List.mem_append_right _ (List.mem_append_right _ (List.mem_append_right _ (List.mem_append_right _ (List.mem_append_left _ (List.mem_of_getElem? (i := 173) rfl))))), rfl⟩
theorem zw_79 : (.lays "PlainStepsModel" "PlainStepsModel" "constants" "I" : Cond) ∈ zq_W := List.mem_filter.mpr ⟨List.mem_append_right _ (List.mem_append_right _ (List.mem_append_right _ (List.mem_append_right _ (List.mem_append_left _ (List.mem_of_getElem? (i := 175) rfl))))), rfl⟩
theorem zw_80 : (.lays "PlainStepsModel" "PlainStepsModel" "fields" "I" : Cond) ∈ zq_W := List.mem_filter.mpr ⟨List.mem_append_right _ (List.mem_append_right _ (List.mem_append_right _ (List.mem_append_right _ (List.mem_append_left _ (List.mem_of_getElem? (i := 177) rfl))))), rfl⟩
theorem zw_81 : (.lays "PlainStepsModel" "PlainStepsModel" "transfers" "I" : Cond) ∈ zq_W := List.mem_filter.mpr ⟨List.mem_append_right _ (List.mem_append_right _ (List.mem_append_right _ (List.mem_append_right _ (List.mem_append_left _ (List.mem_of_getElem? (i := 179) rfl))))), rfl⟩
theorem zw_82 : (.lays "PlainStepsModel" "PlainStepsModel" "instructions" "I" : Cond) ∈ zq_W := List.mem_filter.mpr ⟨List.mem_append_right _ (List.mem_append_right _ (List.mem_append_right _ (List.mem_append_right _ (List.mem_append_left _ (List.mem_of_getElem? (i := 181) rfl))))), rfl⟩
theorem zw_83 : (.laysFinal "PlainStepsModel" "PlainStepsModel" "constant" "[J" : Cond) ∈ zq_W := List.mem_filter.mpr ⟨List.mem_append_right _ (List.mem_append_right _ (List.mem_append_right _ (List.mem_append_right _ (List.mem_append_left _ (List.mem_of_getElem? (i := 183) rfl))))), rfl⟩
theorem zw_84 : (.laysFinal "PlainStepsModel" "PlainStepsModel" "from" "[I" : Cond) ∈ zq_W := List.mem_filter.mpr ⟨List.mem_append_right _ (List.mem_append_right _ (List.mem_append_right _ (List.mem_append_right _ (List.mem_append_left _ (List.mem_of_getElem? (i := 185) rfl))))), rfl⟩
theorem zw_85 : (.laysFinal "PlainStepsModel" "PlainStepsModel" "to" "[I" : Cond) ∈ zq_W := List.mem_filter.mpr ⟨List.mem_append_right _ (List.mem_append_right _ (List.mem_append_right _ (List.mem_append_right _ (List.mem_append_left _ (List.mem_of_getElem? (i := 187) rfl))))), rfl⟩
theorem zw_86 : (.laysFinal "PlainStepsModel" "PlainStepsModel" "signed" "[Z" : Cond) ∈ zq_W := List.mem_filter.mpr ⟨List.mem_append_right _ (List.mem_append_right _ (List.mem_append_right _ (List.mem_append_right _ (List.mem_append_left _ (List.mem_of_getElem? (i := 189) rfl))))), rfl⟩
theorem zw_87 : (.laysFinal "PlainStepsModel" "PlainStepsModel" "op" "[I" : Cond) ∈ zq_W := List.mem_filter.mpr ⟨List.mem_append_right _ (List.mem_append_right _ (List.mem_append_right _ (List.mem_append_right _ (List.mem_append_left _ (List.mem_of_getElem? (i := 191) rfl))))), rfl⟩
theorem zw_88 : (.laysFinal "PlainStepsModel" "PlainStepsModel" "first" "[I" : Cond) ∈ zq_W := List.mem_filter.mpr ⟨List.mem_append_right _ (List.mem_append_right _ (List.mem_append_right _ (List.mem_append_right _ (List.mem_append_left _ (List.mem_of_getElem? (i := 193) rfl))))), rfl⟩
theorem zw_89 : (.laysFinal "PlainStepsModel" "PlainStepsModel" "second" "[I" : Cond) ∈ zq_W := List.mem_filter.mpr ⟨List.mem_append_right _ (List.mem_append_right _ (List.mem_append_right _ (List.mem_append_right _ (List.mem_append_left _ (List.mem_of_getElem? (i := 195) rfl))))), rfl⟩
theorem zw_90 : (.laysFinal "PlainStepsModel" "PlainStepsModel" "target" "[I" : Cond) ∈ zq_W := List.mem_filter.mpr ⟨List.mem_append_right _ (List.mem_append_right _ (List.mem_append_right _ (List.mem_append_right _ (List.mem_append_left _ (List.mem_of_getElem? (i := 197) rfl))))), rfl⟩
theorem zw_91 : (.laysFinal "PlainStepsModel" "PlainStepsModel" "mask" "[I" : Cond) ∈ zq_W := List.mem_filter.mpr ⟨List.mem_append_right _ (List.mem_append_right _ (List.mem_append_right _ (List.mem_append_right _ (List.mem_append_left _ (List.mem_of_getElem? (i := 199) rfl))))), rfl⟩
theorem zw_92 : (.laysFinal "PlainStepsModel" "PlainStepsModel" "pattern" "[I" : Cond) ∈ zq_W := List.mem_filter.mpr ⟨List.mem_append_right _ (List.mem_append_right _ (List.mem_append_right _ (List.mem_append_right _ (List.mem_append_left _ (List.mem_of_getElem? (i := 201) rfl))))), rfl⟩
theorem zw_93 : (.laysFinal "PlainStepsModel" "PlainStepsModel" "how" "[I" : Cond) ∈ zq_W := List.mem_filter.mpr ⟨List.mem_append_right _ (List.mem_append_right _ (List.mem_append_right _ (List.mem_append_right _ (List.mem_append_left _ (List.mem_of_getElem? (i := 203) rfl))))), rfl⟩
theorem zw_94 : (.laysFinal "PlainStepsModel" "PlainStepsModel" "begin" "[I" : Cond) ∈ zq_W := List.mem_filter.mpr ⟨List.mem_append_right _ (List.mem_append_right _ (List.mem_append_right _ (List.mem_append_right _ (List.mem_append_left _ (List.mem_of_getElem? (i := 205) rfl))))), rfl⟩
theorem zw_95 : (.laysFinal "PlainStepsModel" "PlainStepsModel" "on" "[Z" : Cond) ∈ zq_W := List.mem_filter.mpr ⟨List.mem_append_right _ (List.mem_append_right _ (List.mem_append_right _ (List.mem_append_right _ (List.mem_append_left _ (List.mem_of_getElem? (i := 207) rfl))))), rfl⟩
theorem zw_96 : (.laysFinal "PlainStepsModel" "PlainStepsModel" "rank" "[I" : Cond) ∈ zq_W := List.mem_filter.mpr ⟨List.mem_append_right _ (List.mem_append_right _ (List.mem_append_right _ (List.mem_append_right _ (List.mem_append_left _ (List.mem_of_getElem? (i := 209) rfl))))), rfl⟩
theorem zw_97 : (.lays "PlainStepsModel" "PlainStepsModel" "level" "I" : Cond) ∈ zq_W := List.mem_filter.mpr ⟨List.mem_append_right _ (List.mem_append_right _ (List.mem_append_right _ (List.mem_append_right _ (List.mem_append_left _ (List.mem_of_getElem? (i := 211) rfl))))), rfl⟩
theorem zw_98 : (.lays "PlainStepsModel" "PlainStepsModel" "kept" "I" : Cond) ∈ zq_W := List.mem_filter.mpr ⟨List.mem_append_right _ (List.mem_append_right _ (List.mem_append_right _ (List.mem_append_right _ (List.mem_append_left _ (List.mem_of_getElem? (i := 213) rfl))))), rfl⟩
theorem zw_99 : (.lays "PlainStepsModel" "PlainStepsModel" "levelSaved" "I" : Cond) ∈ zq_W := List.mem_filter.mpr ⟨List.mem_append_right _ (List.mem_append_right _ (List.mem_append_right _ (List.mem_append_right _ (List.mem_append_left _ (List.mem_of_getElem? (i := 215) rfl))))), rfl⟩
theorem zw_100 : (.lays "PlainStepsModel" "PlainStepsModel" "keptSaved" "I" : Cond) ∈ zq_W := List.mem_filter.mpr ⟨List.mem_append_right _ (List.mem_append_right _ (List.mem_append_right _ (List.mem_append_right _ (List.mem_append_left _ (List.mem_of_getElem? (i := 217) rfl))))), rfl⟩
theorem zw_101 : (.laysFinal "PlainStepsModel" "PlainStepsModel" "keptPlace" "[I" : Cond) ∈ zq_W := List.mem_filter.mpr ⟨List.mem_append_right _ (List.mem_append_right _ (List.mem_append_right _ (List.mem_append_right _ (List.mem_append_left _ (List.mem_of_getElem? (i := 219) rfl))))), rfl⟩
theorem zw_102 : (.laysFinal "PlainStepsModel" "PlainStepsModel" "keptLevel" "[I" : Cond) ∈ zq_W := List.mem_filter.mpr ⟨List.mem_append_right _ (List.mem_append_right _ (List.mem_append_right _ (List.mem_append_right _ (List.mem_append_left _ (List.mem_of_getElem? (i := 221) rfl))))), rfl⟩
theorem zw_103 : (.lays "PlainStepsModel" "PlainStepsModel" "word" "I" : Cond) ∈ zq_W := List.mem_filter.mpr ⟨List.mem_append_right _ (List.mem_append_right _ (List.mem_append_right _ (List.mem_append_right _ (List.mem_append_left _ (List.mem_of_getElem? (i := 223) rfl))))), rfl⟩
theorem zw_104 : (.lays "PlainStepsModel" "PlainStepsModel" "stands" "I" : Cond) ∈ zq_W := List.mem_filter.mpr ⟨List.mem_append_right _ (List.mem_append_right _ (List.mem_append_right _ (List.mem_append_right _ (List.mem_append_left _ (List.mem_of_getElem? (i := 225) rfl))))), rfl⟩
theorem zw_105 : (.lays "PlainStepsModel" "PlainStepsModel" "fault" "I" : Cond) ∈ zq_W := List.mem_filter.mpr ⟨List.mem_append_right _ (List.mem_append_right _ (List.mem_append_right _ (List.mem_append_right _ (List.mem_append_left _ (List.mem_of_getElem? (i := 227) rfl))))), rfl⟩
theorem zw_106 : (.lays "PlainStepsModel" "PlainStepsModel" "ends" "Z" : Cond) ∈ zq_W := List.mem_filter.mpr ⟨List.mem_append_right _ (List.mem_append_right _ (List.mem_append_right _ (List.mem_append_right _ (List.mem_append_left _ (List.mem_of_getElem? (i := 229) rfl))))), rfl⟩
theorem zw_107 : (.lays "PlainStepsModel" "PlainStepsModel" "halts" "Z" : Cond) ∈ zq_W := List.mem_filter.mpr ⟨List.mem_append_right _ (List.mem_append_right _ (List.mem_append_right _ (List.mem_append_right _ (List.mem_append_left _ (List.mem_of_getElem? (i := 231) rfl))))), rfl⟩
theorem zw_108 : (.lays "PlainStepsModel" "PlainStepsModel" "wrote" "Z" : Cond) ∈ zq_W := List.mem_filter.mpr ⟨List.mem_append_right _ (List.mem_append_right _ (List.mem_append_right _ (List.mem_append_right _ (List.mem_append_left _ (List.mem_of_getElem? (i := 233) rfl))))), rfl⟩
theorem zw_109 : (.lays "PlainStepsModel" "PlainStepsModel" "waits" "Z" : Cond) ∈ zq_W := List.mem_filter.mpr ⟨List.mem_append_right _ (List.mem_append_right _ (List.mem_append_right _ (List.mem_append_right _ (List.mem_append_left _ (List.mem_of_getElem? (i := 235) rfl))))), rfl⟩
theorem zw_110 : (.lays "PlainStepsModel" "PlainStepsModel" "waitsPlace" "J" : Cond) ∈ zq_W := List.mem_filter.mpr ⟨List.mem_append_right _ (List.mem_append_right _ (List.mem_append_right _ (List.mem_append_right _ (List.mem_append_left _ (List.mem_of_getElem? (i := 237) rfl))))), rfl⟩
theorem zw_111 : (.lays "PlainStepsModel" "PlainStepsModel" "writes" "I" : Cond) ∈ zq_W := List.mem_filter.mpr ⟨List.mem_append_right _ (List.mem_append_right _ (List.mem_append_right _ (List.mem_append_right _ (List.mem_append_left _ (List.mem_of_getElem? (i := 239) rfl))))), rfl⟩
theorem zw_112 : (.laysFinal "PlainStepsModel" "PlainStepsModel" "writeTo" "[I" : Cond) ∈ zq_W := List.mem_filter.mpr ⟨List.mem_append_right _ (List.mem_append_right _ (List.mem_append_right _ (List.mem_append_right _ (List.mem_append_right _ (List.mem_of_getElem? (i := 1) rfl))))), rfl⟩
theorem zw_113 : (.laysFinal "PlainStepsModel" "PlainStepsModel" "writeAt" "[I" : Cond) ∈ zq_W := List.mem_filter.mpr ⟨List.mem_append_right _ (List.mem_append_right _ (List.mem_append_right _ (List.mem_append_right _ (List.mem_append_right _ (List.mem_of_getElem? (i := 3) rfl))))), rfl⟩
theorem zw_114 : (.laysFinal "PlainStepsModel" "PlainStepsModel" "writeValue" "[J" : Cond) ∈ zq_W := List.mem_filter.mpr ⟨List.mem_append_right _ (List.mem_append_right _ (List.mem_append_right _ (List.mem_append_right _ (List.mem_append_right _ (List.mem_of_getElem? (i := 5) rfl))))), rfl⟩
theorem zw_115 : (.laysFinal "PlainStepsModel" "PlainStepsModel" "writeMark" "[Z" : Cond) ∈ zq_W := List.mem_filter.mpr ⟨List.mem_append_right _ (List.mem_append_right _ (List.mem_append_right _ (List.mem_append_right _ (List.mem_append_right _ (List.mem_of_getElem? (i := 7) rfl))))), rfl⟩
theorem zw_116 : (.lays "PlainStepsModel" "PlainStepsModel" "halted" "I" : Cond) ∈ zq_W := List.mem_filter.mpr ⟨List.mem_append_right _ (List.mem_append_right _ (List.mem_append_right _ (List.mem_append_right _ (List.mem_append_right _ (List.mem_of_getElem? (i := 9) rfl))))), rfl⟩
theorem zw_117 : (.lays "PlainStepsModel" "PlainStepsModel" "latest" "I" : Cond) ∈ zq_W := List.mem_filter.mpr ⟨List.mem_append_right _ (List.mem_append_right _ (List.mem_append_right _ (List.mem_append_right _ (List.mem_append_right _ (List.mem_of_getElem? (i := 11) rfl))))), rfl⟩
theorem zw_118 : (.lays "PlainStepsModel" "PlainStepsModel" "latestPlace" "I" : Cond) ∈ zq_W := List.mem_filter.mpr ⟨List.mem_append_right _ (List.mem_append_right _ (List.mem_append_right _ (List.mem_append_right _ (List.mem_append_right _ (List.mem_of_getElem? (i := 13) rfl))))), rfl⟩
theorem zw_119 : (.laysFinal "PlainStepsModel" "PlainStepsModel" "count" "[I" : Cond) ∈ zq_W := List.mem_filter.mpr ⟨List.mem_append_right _ (List.mem_append_right _ (List.mem_append_right _ (List.mem_append_right _ (List.mem_append_right _ (List.mem_of_getElem? (i := 15) rfl))))), rfl⟩
theorem zw_120 : (.fieldLink "PlainSteps$Registers" 9 "PlainSteps$Registers" "cuts" "[J" : Cond) ∈ zq_W := List.mem_filter.mpr ⟨List.mem_append_right _ (List.mem_append_left _ (List.mem_of_getElem? (i := 34) rfl)), rfl⟩
theorem zw_121 : (.fieldLink "PlainSteps$Registers" 24 "PlainSteps$Registers" "count" "I" : Cond) ∈ zq_W := List.mem_filter.mpr ⟨List.mem_append_right _ (List.mem_append_left _ (List.mem_of_getElem? (i := 37) rfl)), rfl⟩
theorem zw_122 : (.constantLong "PlainSteps$Registers" 28 (-1) : Cond) ∈ zq_W := List.mem_filter.mpr ⟨List.mem_append_right _ (List.mem_append_right _ (List.mem_append_left _ (List.mem_of_getElem? (i := 182) rfl))), rfl⟩
theorem zw_123 : (.fieldLink "PlainSteps$Registers" 18 "PlainSteps$Registers" "marks" "[Z" : Cond) ∈ zq_W := List.mem_filter.mpr ⟨List.mem_append_right _ (List.mem_append_left _ (List.mem_of_getElem? (i := 36) rfl)), rfl⟩
theorem zw_124 : (.fieldLink "PlainSteps$Registers" 15 "PlainSteps$Registers" "values" "[J" : Cond) ∈ zq_W := List.mem_filter.mpr ⟨List.mem_append_right _ (List.mem_append_left _ (List.mem_of_getElem? (i := 35) rfl)), rfl⟩
theorem zw_125 : (.methodLink "PlainSteps$Registers" 30 zy_Registers_put : Cond) ∈ zq_W := List.mem_filter.mpr ⟨List.mem_append_right _ (List.mem_append_right _ (List.mem_append_right _ (List.mem_append_left _ (List.mem_of_getElem? (i := 127) rfl)))), rfl⟩
theorem zw_126 : (.instanceMethod zy_Registers_put : Cond) ∈ zq_W := List.mem_filter.mpr ⟨List.mem_append_right _ (List.mem_append_right _ (List.mem_append_right _ (List.mem_append_left _ (List.mem_of_getElem? (i := 111) rfl)))), rfl⟩
theorem zw_127 : (.selects "PlainSteps$Registers" zy_Registers_put zy_Registers_put : Cond) ∈ zq_W := List.mem_filter.mpr ⟨List.mem_append_right _ (List.mem_append_right _ (List.mem_append_right _ (List.mem_append_left _ (List.mem_of_getElem? (i := 112) rfl)))), rfl⟩
theorem zw_128 : (.initialized "PlainSteps$Registers" : Cond) ∈ zq_W := List.mem_filter.mpr ⟨List.mem_append_right _ (List.mem_append_left _ (List.mem_of_getElem? (i := 2) rfl)), rfl⟩
theorem zw_129 : (.code zy_Registers_put zb_Registers_put 5 none : Cond) ∈ zq_W := List.mem_filter.mpr ⟨List.mem_append_right _ (List.mem_append_right _ (List.mem_append_right _ (List.mem_append_left _ (List.mem_of_getElem? (i := 113) rfl)))), rfl⟩
theorem zw_130 : (.constantLong "PlainSteps$Bytes" 15 (4096) : Cond) ∈ zq_W := List.mem_filter.mpr ⟨List.mem_append_right _ (List.mem_append_right _ (List.mem_append_right _ (List.mem_append_left _ (List.mem_of_getElem? (i := 20) rfl)))), rfl⟩
theorem zw_131 : (.methodLink "PlainSteps$Bytes" 17 zy_Bytes_hasByte : Cond) ∈ zq_W := List.mem_filter.mpr ⟨List.mem_append_right _ (List.mem_append_right _ (List.mem_append_right _ (List.mem_append_left _ (List.mem_of_getElem? (i := 118) rfl)))), rfl⟩
theorem zw_132 : (.instanceMethod zy_Bytes_hasByte : Cond) ∈ zq_W := List.mem_filter.mpr ⟨List.mem_append_right _ (List.mem_append_right _ (List.mem_append_right _ (List.mem_append_left _ (List.mem_of_getElem? (i := 17) rfl)))), rfl⟩
theorem zw_133 : (.selects "PlainSteps$Bytes" zy_Bytes_hasByte zy_Bytes_hasByte : Cond) ∈ zq_W := List.mem_filter.mpr ⟨List.mem_append_right _ (List.mem_append_right _ (List.mem_append_right _ (List.mem_append_left _ (List.mem_of_getElem? (i := 18) rfl)))), rfl⟩
theorem zw_134 : (.initialized "PlainSteps$Bytes" : Cond) ∈ zq_W := List.mem_filter.mpr ⟨List.mem_append_right _ (List.mem_append_left _ (List.mem_of_getElem? (i := 3) rfl)), rfl⟩
theorem zw_135 : (.code zy_Bytes_hasByte zb_Bytes_hasByte 3 (some .boolean) : Cond) ∈ zq_W := List.mem_filter.mpr ⟨List.mem_append_right _ (List.mem_append_right _ (List.mem_append_right _ (List.mem_append_left _ (List.mem_of_getElem? (i := 19) rfl)))), rfl⟩
theorem zw_136 : (.fieldLink "PlainSteps$Bytes" 9 "PlainSteps$Bytes" "cells" "[B" : Cond) ∈ zq_W := List.mem_filter.mpr ⟨List.mem_append_right _ (List.mem_append_left _ (List.mem_of_getElem? (i := 56) rfl)), rfl⟩
theorem zw_137 : (.fieldLink "PlainSteps$Operands" 9 "PlainSteps$Operands" "constants" "[J" : Cond) ∈ zq_W := List.mem_filter.mpr ⟨List.mem_append_right _ (List.mem_append_left _ (List.mem_of_getElem? (i := 68) rfl)), rfl⟩
theorem zw_138 : (.fieldLink "PlainSteps$Operands" 30 "PlainSteps$Operands" "constantCount" "I" : Cond) ∈ zq_W := List.mem_filter.mpr ⟨List.mem_append_right _ (List.mem_append_left _ (List.mem_of_getElem? (i := 72) rfl)), rfl⟩
theorem zw_139 : (.fieldLink "PlainSteps$Operands" 15 "PlainSteps$Operands" "fieldFrom" "[I" : Cond) ∈ zq_W := List.mem_filter.mpr ⟨List.mem_append_right _ (List.mem_append_left _ (List.mem_of_getElem? (i := 69) rfl)), rfl⟩
theorem zw_140 : (.fieldLink "PlainSteps$Operands" 34 "PlainSteps$Operands" "fieldCount" "I" : Cond) ∈ zq_W := List.mem_filter.mpr ⟨List.mem_append_right _ (List.mem_append_left _ (List.mem_of_getElem? (i := 74) rfl)), rfl⟩
theorem zw_141 : (.fieldLink "PlainSteps$Operands" 19 "PlainSteps$Operands" "fieldTo" "[I" : Cond) ∈ zq_W := List.mem_filter.mpr ⟨List.mem_append_right _ (List.mem_append_left _ (List.mem_of_getElem? (i := 70) rfl)), rfl⟩
theorem zw_142 : (.fieldLink "PlainSteps$Operands" 22 "PlainSteps$Operands" "fieldSign" "[Z" : Cond) ∈ zq_W := List.mem_filter.mpr ⟨List.mem_append_right _ (List.mem_append_left _ (List.mem_of_getElem? (i := 71) rfl)), rfl⟩
theorem zw_143 : (.fieldLink "PlainSteps$Operands" 26 "PlainSteps$Operands" "registers" "LPlainSteps$Registers;" : Cond) ∈ zq_W := List.mem_filter.mpr ⟨List.mem_append_right _ (List.mem_append_left _ (List.mem_of_getElem? (i := 67) rfl)), rfl⟩
theorem zw_144 : (.methodLink "PlainSteps$Operands" 37 zy_Registers_has : Cond) ∈ zq_W := List.mem_filter.mpr ⟨List.mem_append_right _ (List.mem_append_right _ (List.mem_append_left _ (List.mem_of_getElem? (i := 220) rfl))), rfl⟩
theorem zw_145 : (.instanceMethod zy_Registers_has : Cond) ∈ zq_W := List.mem_filter.mpr ⟨List.mem_append_right _ (List.mem_append_right _ (List.mem_append_left _ (List.mem_of_getElem? (i := 221) rfl))), rfl⟩
theorem zw_146 : (.selects "PlainSteps$Registers" zy_Registers_has zy_Registers_has : Cond) ∈ zq_W := List.mem_filter.mpr ⟨List.mem_append_right _ (List.mem_append_right _ (List.mem_append_left _ (List.mem_of_getElem? (i := 222) rfl))), rfl⟩
theorem zw_147 : (.code zy_Registers_has zb_Registers_has 2 (some .boolean) : Cond) ∈ zq_W := List.mem_filter.mpr ⟨List.mem_append_right _ (List.mem_append_right _ (List.mem_append_left _ (List.mem_of_getElem? (i := 223) rfl))), rfl⟩
theorem zw_148 : (.methodLink "PlainSteps$Operands" 47 zy_Registers_valueOf : Cond) ∈ zq_W := List.mem_filter.mpr ⟨List.mem_append_right _ (List.mem_append_right _ (List.mem_append_right _ (List.mem_append_left _ (List.mem_of_getElem? (i := 164) rfl)))), rfl⟩
theorem zw_149 : (.instanceMethod zy_Registers_valueOf : Cond) ∈ zq_W := List.mem_filter.mpr ⟨List.mem_append_right _ (List.mem_append_right _ (List.mem_append_right _ (List.mem_append_left _ (List.mem_of_getElem? (i := 165) rfl)))), rfl⟩
theorem zw_150 : (.selects "PlainSteps$Registers" zy_Registers_valueOf zy_Registers_valueOf : Cond) ∈ zq_W := List.mem_filter.mpr ⟨List.mem_append_right _ (List.mem_append_right _ (List.mem_append_right _ (List.mem_append_left _ (List.mem_of_getElem? (i := 166) rfl)))), rfl⟩
theorem zw_151 : (.code zy_Registers_valueOf zb_Registers_valueOf 2 (some .long) : Cond) ∈ zq_W := List.mem_filter.mpr ⟨List.mem_append_right _ (List.mem_append_right _ (List.mem_append_right _ (List.mem_append_left _ (List.mem_of_getElem? (i := 167) rfl)))), rfl⟩
theorem zw_152 : (.methodLink "PlainSteps$Operands" 43 zy_Operands_readField : Cond) ∈ zq_W := List.mem_filter.mpr ⟨List.mem_append_right _ (List.mem_append_right _ (List.mem_append_right _ (List.mem_append_left _ (List.mem_of_getElem? (i := 160) rfl)))), rfl⟩
theorem zw_153 : (.instanceMethod zy_Operands_readField : Cond) ∈ zq_W := List.mem_filter.mpr ⟨List.mem_append_right _ (List.mem_append_right _ (List.mem_append_right _ (List.mem_append_left _ (List.mem_of_getElem? (i := 162) rfl)))), rfl⟩
theorem zw_154 : (.selects "PlainSteps$Operands" zy_Operands_readField zy_Operands_readField : Cond) ∈ zq_W := List.mem_filter.mpr ⟨List.mem_append_left _ (List.mem_of_getElem? (i := 5) rfl), rfl⟩
theorem zw_155 : (.initialized "PlainSteps$Operands" : Cond) ∈ zq_W := List.mem_filter.mpr ⟨List.mem_append_right _ (List.mem_append_left _ (List.mem_of_getElem? (i := 4) rfl)), rfl⟩
theorem zw_156 : (.code zy_Operands_readField zb_Operands_readField 7 (some .long) : Cond) ∈ zq_W := List.mem_filter.mpr ⟨List.mem_append_right _ (List.mem_append_right _ (List.mem_append_right _ (List.mem_append_left _ (List.mem_of_getElem? (i := 163) rfl)))), rfl⟩
theorem zw_157 : (.methodLink "PlainSteps$Operands" 51 zy_Registers_isMarked : Cond) ∈ zq_W := List.mem_filter.mpr ⟨List.mem_append_right _ (List.mem_append_right _ (List.mem_append_right _ (List.mem_append_left _ (List.mem_of_getElem? (i := 172) rfl)))), rfl⟩
theorem zw_158 : (.instanceMethod zy_Registers_isMarked : Cond) ∈ zq_W := List.mem_filter.mpr ⟨List.mem_append_right _ (List.mem_append_right _ (List.mem_append_right _ (List.mem_append_left _ (List.mem_of_getElem? (i := 173) rfl)))), rfl⟩
theorem zw_159 : (.selects "PlainSteps$Registers" zy_Registers_isMarked zy_Registers_isMarked : Cond) ∈ zq_W := List.mem_filter.mpr ⟨List.mem_append_right _ (List.mem_append_right _ (List.mem_append_right _ (List.mem_append_left _ (List.mem_of_getElem? (i := 174) rfl)))), rfl⟩
theorem zw_160 : (.code zy_Registers_isMarked zb_Registers_isMarked 2 (some .boolean) : Cond) ∈ zq_W := List.mem_filter.mpr ⟨List.mem_append_right _ (List.mem_append_right _ (List.mem_append_right _ (List.mem_append_left _ (List.mem_of_getElem? (i := 175) rfl)))), rfl⟩
theorem zw_161 : (.fieldLink "PlainSteps$Program" 9 "PlainSteps$Program" "ops" "[I" : Cond) ∈ zq_W := List.mem_filter.mpr ⟨List.mem_append_right _ (List.mem_append_left _ (List.mem_of_getElem? (i := 98) rfl)), rfl⟩
theorem zw_162 : (.fieldLink "PlainSteps$Program" 39 "PlainSteps$Program" "transferCount" "I" : Cond) ∈ zq_W := List.mem_filter.mpr ⟨List.mem_append_right _ (List.mem_append_left _ (List.mem_of_getElem? (i := 106) rfl)), rfl⟩
theorem zw_163 : (.fieldLink "PlainSteps$Program" 15 "PlainSteps$Program" "firsts" "[I" : Cond) ∈ zq_W := List.mem_filter.mpr ⟨List.mem_append_right _ (List.mem_append_left _ (List.mem_of_getElem? (i := 100) rfl)), rfl⟩
theorem zw_164 : (.fieldLink "PlainSteps$Program" 18 "PlainSteps$Program" "seconds" "[I" : Cond) ∈ zq_W := List.mem_filter.mpr ⟨List.mem_append_right _ (List.mem_append_left _ (List.mem_of_getElem? (i := 102) rfl)), rfl⟩
theorem zw_165 : (.fieldLink "PlainSteps$Program" 21 "PlainSteps$Program" "targets" "[I" : Cond) ∈ zq_W := List.mem_filter.mpr ⟨List.mem_append_right _ (List.mem_append_left _ (List.mem_of_getElem? (i := 104) rfl)), rfl⟩
theorem zw_166 : (.fieldLink "PlainSteps$Program" 24 "PlainSteps$Program" "masks" "[I" : Cond) ∈ zq_W := List.mem_filter.mpr ⟨List.mem_append_right _ (List.mem_append_left _ (List.mem_of_getElem? (i := 108) rfl)), rfl⟩
theorem zw_167 : (.fieldLink "PlainSteps$Program" 43 "PlainSteps$Program" "instructionCount" "I" : Cond) ∈ zq_W := List.mem_filter.mpr ⟨List.mem_append_right _ (List.mem_append_left _ (List.mem_of_getElem? (i := 115) rfl)), rfl⟩
theorem zw_168 : (.fieldLink "PlainSteps$Program" 27 "PlainSteps$Program" "values" "[I" : Cond) ∈ zq_W := List.mem_filter.mpr ⟨List.mem_append_right _ (List.mem_append_left _ (List.mem_of_getElem? (i := 109) rfl)), rfl⟩
theorem zw_169 : (.fieldLink "PlainSteps$Program" 30 "PlainSteps$Program" "ways" "[I" : Cond) ∈ zq_W := List.mem_filter.mpr ⟨List.mem_append_right _ (List.mem_append_left _ (List.mem_of_getElem? (i := 110) rfl)), rfl⟩
theorem zw_170 : (.fieldLink "PlainSteps$Program" 33 "PlainSteps$Program" "starts" "[I" : Cond) ∈ zq_W := List.mem_filter.mpr ⟨List.mem_append_right _ (List.mem_append_left _ (List.mem_of_getElem? (i := 111) rfl)), rfl⟩
theorem zw_171 : (.fieldLink "PlainSteps$Program" 36 "PlainSteps$Program" "ends" "[I" : Cond) ∈ zq_W := List.mem_filter.mpr ⟨List.mem_append_right _ (List.mem_append_left _ (List.mem_of_getElem? (i := 113) rfl)), rfl⟩
theorem zw_172 : (.fieldLink "PlainSteps$Kept" 18 "PlainSteps$Kept" "count" "I" : Cond) ∈ zq_W := List.mem_filter.mpr ⟨List.mem_append_right _ (List.mem_append_left _ (List.mem_of_getElem? (i := 148) rfl)), rfl⟩
theorem zw_173 : (.fieldLink "PlainSteps$Kept" 9 "PlainSteps$Kept" "places" "[I" : Cond) ∈ zq_W := List.mem_filter.mpr ⟨List.mem_append_right _ (List.mem_append_left _ (List.mem_of_getElem? (i := 146) rfl)), rfl⟩
theorem zw_174 : (.fieldLink "PlainSteps$Kept" 15 "PlainSteps$Kept" "levels" "[I" : Cond) ∈ zq_W := List.mem_filter.mpr ⟨List.mem_append_right _ (List.mem_append_left _ (List.mem_of_getElem? (i := 147) rfl)), rfl⟩
theorem zw_175 : (.fieldLink "PlainSteps$Kept" 22 "PlainSteps$Kept" "level" "I" : Cond) ∈ zq_W := List.mem_filter.mpr ⟨List.mem_append_right _ (List.mem_append_left _ (List.mem_of_getElem? (i := 153) rfl)), rfl⟩
theorem zw_176 : (.fieldLink "PlainSteps$Lines" 9 "PlainSteps$Lines" "on" "[Z" : Cond) ∈ zq_W := List.mem_filter.mpr ⟨List.mem_append_right _ (List.mem_append_left _ (List.mem_of_getElem? (i := 170) rfl)), rfl⟩
theorem zw_177 : (.fieldLink "PlainSteps$Lines" 15 "PlainSteps$Lines" "ranks" "[I" : Cond) ∈ zq_W := List.mem_filter.mpr ⟨List.mem_append_right _ (List.mem_append_left _ (List.mem_of_getElem? (i := 171) rfl)), rfl⟩
theorem zw_178 : (.fieldLink "PlainSteps$Writes" 30 "PlainSteps$Writes" "count" "I" : Cond) ∈ zq_W := List.mem_filter.mpr ⟨List.mem_append_right _ (List.mem_append_left _ (List.mem_of_getElem? (i := 194) rfl)), rfl⟩
theorem zw_179 : (.fieldLink "PlainSteps$Writes" 9 "PlainSteps$Writes" "forms" "[I" : Cond) ∈ zq_W := List.mem_filter.mpr ⟨List.mem_append_right _ (List.mem_append_left _ (List.mem_of_getElem? (i := 191) rfl)), rfl⟩
theorem zw_180 : (.fieldLink "PlainSteps$Writes" 15 "PlainSteps$Writes" "targets" "[I" : Cond) ∈ zq_W := List.mem_filter.mpr ⟨List.mem_append_right _ (List.mem_append_left _ (List.mem_of_getElem? (i := 192) rfl)), rfl⟩
theorem zw_181 : (.fieldLink "PlainSteps$Writes" 18 "PlainSteps$Writes" "values" "[J" : Cond) ∈ zq_W := List.mem_filter.mpr ⟨List.mem_append_right _ (List.mem_append_left _ (List.mem_of_getElem? (i := 193) rfl)), rfl⟩
theorem zw_182 : (.fieldLink "PlainSteps$Writes" 22 "PlainSteps$Writes" "registers" "LPlainSteps$Registers;" : Cond) ∈ zq_W := List.mem_filter.mpr ⟨List.mem_append_right _ (List.mem_append_left _ (List.mem_of_getElem? (i := 189) rfl)), rfl⟩
theorem zw_183 : (.methodLink "PlainSteps$Writes" 47 zy_Registers_isMarked : Cond) ∈ zq_W := List.mem_filter.mpr ⟨List.mem_append_right _ (List.mem_append_right _ (List.mem_append_right _ (List.mem_append_left _ (List.mem_of_getElem? (i := 202) rfl)))), rfl⟩
theorem zw_184 : (.fieldLink "PlainSteps$Writes" 26 "PlainSteps$Writes" "bytes" "LPlainSteps$Bytes;" : Cond) ∈ zq_W := List.mem_filter.mpr ⟨List.mem_append_right _ (List.mem_append_left _ (List.mem_of_getElem? (i := 190) rfl)), rfl⟩
theorem zw_185 : (.methodLink "PlainSteps$Writes" 44 zy_Bytes_wordOf : Cond) ∈ zq_W := List.mem_filter.mpr ⟨List.mem_append_right _ (List.mem_append_right _ (List.mem_append_right _ (List.mem_append_left _ (List.mem_of_getElem? (i := 201) rfl)))), rfl⟩
theorem zw_186 : (.instanceMethod zy_Bytes_wordOf : Cond) ∈ zq_W := List.mem_filter.mpr ⟨List.mem_append_right _ (List.mem_append_right _ (List.mem_append_right _ (List.mem_append_left _ (List.mem_of_getElem? (i := 129) rfl)))), rfl⟩
theorem zw_187 : (.selects "PlainSteps$Bytes" zy_Bytes_wordOf zy_Bytes_wordOf : Cond) ∈ zq_W := List.mem_filter.mpr ⟨List.mem_append_right _ (List.mem_append_right _ (List.mem_append_right _ (List.mem_append_left _ (List.mem_of_getElem? (i := 130) rfl)))), rfl⟩
theorem zw_188 : (.code zy_Bytes_wordOf zb_Bytes_wordOf 2 (some .int) : Cond) ∈ zq_W := List.mem_filter.mpr ⟨List.mem_append_right _ (List.mem_append_right _ (List.mem_append_right _ (List.mem_append_left _ (List.mem_of_getElem? (i := 131) rfl)))), rfl⟩
theorem zw_189 : (.methodLink "PlainSteps$Writes" 40 zy_Writes_note : Cond) ∈ zq_W := List.mem_filter.mpr ⟨List.mem_append_right _ (List.mem_append_right _ (List.mem_append_right _ (List.mem_append_left _ (List.mem_of_getElem? (i := 200) rfl)))), rfl⟩
theorem zw_190 : (.instanceMethod zy_Writes_note : Cond) ∈ zq_W := List.mem_filter.mpr ⟨List.mem_append_right _ (List.mem_append_right _ (List.mem_append_right _ (List.mem_append_left _ (List.mem_of_getElem? (i := 192) rfl)))), rfl⟩
theorem zw_191 : (.selects "PlainSteps$Writes" zy_Writes_note zy_Writes_note : Cond) ∈ zq_W := List.mem_filter.mpr ⟨List.mem_append_right _ (List.mem_append_right _ (List.mem_append_right _ (List.mem_append_left _ (List.mem_of_getElem? (i := 193) rfl)))), rfl⟩
theorem zw_192 : (.initialized "PlainSteps$Writes" : Cond) ∈ zq_W := List.mem_filter.mpr ⟨List.mem_append_right _ (List.mem_append_left _ (List.mem_of_getElem? (i := 9) rfl)), rfl⟩
theorem zw_193 : (.code zy_Writes_note zb_Writes_note 5 none : Cond) ∈ zq_W := List.mem_filter.mpr ⟨List.mem_append_right _ (List.mem_append_right _ (List.mem_append_right _ (List.mem_append_left _ (List.mem_of_getElem? (i := 194) rfl)))), rfl⟩
theorem zw_194 : (.methodLink "PlainSteps$Writes" 34 zy_Bytes_byteOf : Cond) ∈ zq_W := List.mem_filter.mpr ⟨List.mem_append_right _ (List.mem_append_right _ (List.mem_append_right _ (List.mem_append_left _ (List.mem_of_getElem? (i := 199) rfl)))), rfl⟩
theorem zw_195 : (.instanceMethod zy_Bytes_byteOf : Cond) ∈ zq_W := List.mem_filter.mpr ⟨List.mem_append_right _ (List.mem_append_right _ (List.mem_append_right _ (List.mem_append_left _ (List.mem_of_getElem? (i := 39) rfl)))), rfl⟩
theorem zw_196 : (.selects "PlainSteps$Bytes" zy_Bytes_byteOf zy_Bytes_byteOf : Cond) ∈ zq_W := List.mem_filter.mpr ⟨List.mem_append_right _ (List.mem_append_right _ (List.mem_append_right _ (List.mem_append_left _ (List.mem_of_getElem? (i := 40) rfl)))), rfl⟩
theorem zw_197 : (.code zy_Bytes_byteOf zb_Bytes_byteOf 2 (some .int) : Cond) ∈ zq_W := List.mem_filter.mpr ⟨List.mem_append_right _ (List.mem_append_right _ (List.mem_append_right _ (List.mem_append_left _ (List.mem_of_getElem? (i := 41) rfl)))), rfl⟩
theorem zw_198 : (.methodLink "PlainSteps$Writes" 53 zy_Registers_valueOf : Cond) ∈ zq_W := List.mem_filter.mpr ⟨List.mem_append_right _ (List.mem_append_right _ (List.mem_append_right _ (List.mem_append_left _ (List.mem_of_getElem? (i := 203) rfl)))), rfl⟩
theorem zw_199 : (.methodLink "PlainSteps$Writes" 64 zy_Registers_put : Cond) ∈ zq_W := List.mem_filter.mpr ⟨List.mem_append_right _ (List.mem_append_right _ (List.mem_append_right _ (List.mem_append_left _ (List.mem_of_getElem? (i := 213) rfl)))), rfl⟩
theorem zw_200 : (.methodLink "PlainSteps$Writes" 57 zy_Bytes_putByte : Cond) ∈ zq_W := List.mem_filter.mpr ⟨List.mem_append_right _ (List.mem_append_right _ (List.mem_append_right _ (List.mem_append_left _ (List.mem_of_getElem? (i := 208) rfl)))), rfl⟩
theorem zw_201 : (.instanceMethod zy_Bytes_putByte : Cond) ∈ zq_W := List.mem_filter.mpr ⟨List.mem_append_right _ (List.mem_append_right _ (List.mem_append_right _ (List.mem_append_left _ (List.mem_of_getElem? (i := 43) rfl)))), rfl⟩
theorem zw_202 : (.selects "PlainSteps$Bytes" zy_Bytes_putByte zy_Bytes_putByte : Cond) ∈ zq_W := List.mem_filter.mpr ⟨List.mem_append_right _ (List.mem_append_right _ (List.mem_append_right _ (List.mem_append_left _ (List.mem_of_getElem? (i := 44) rfl)))), rfl⟩
theorem zw_203 : (.code zy_Bytes_putByte zb_Bytes_putByte 4 none : Cond) ∈ zq_W := List.mem_filter.mpr ⟨List.mem_append_right _ (List.mem_append_right _ (List.mem_append_right _ (List.mem_append_left _ (List.mem_of_getElem? (i := 45) rfl)))), rfl⟩
theorem zw_204 : (.methodLink "PlainSteps$Writes" 61 zy_Bytes_putWord : Cond) ∈ zq_W := List.mem_filter.mpr ⟨List.mem_append_right _ (List.mem_append_right _ (List.mem_append_right _ (List.mem_append_left _ (List.mem_of_getElem? (i := 209) rfl)))), rfl⟩
theorem zw_205 : (.instanceMethod zy_Bytes_putWord : Cond) ∈ zq_W := List.mem_filter.mpr ⟨List.mem_append_right _ (List.mem_append_right _ (List.mem_append_right _ (List.mem_append_left _ (List.mem_of_getElem? (i := 210) rfl)))), rfl⟩
theorem zw_206 : (.selects "PlainSteps$Bytes" zy_Bytes_putWord zy_Bytes_putWord : Cond) ∈ zq_W := List.mem_filter.mpr ⟨List.mem_append_right _ (List.mem_append_right _ (List.mem_append_right _ (List.mem_append_left _ (List.mem_of_getElem? (i := 211) rfl)))), rfl⟩
theorem zw_207 : (.code zy_Bytes_putWord zb_Bytes_putWord 4 none : Cond) ∈ zq_W := List.mem_filter.mpr ⟨List.mem_append_right _ (List.mem_append_right _ (List.mem_append_right _ (List.mem_append_left _ (List.mem_of_getElem? (i := 212) rfl)))), rfl⟩
theorem zw_208 : (.methodLink "PlainSteps$Writes" 68 zy_Writes_perform : Cond) ∈ zq_W := List.mem_filter.mpr ⟨List.mem_append_right _ (List.mem_append_right _ (List.mem_append_right _ (List.mem_append_right _ (List.mem_append_left _ (List.mem_of_getElem? (i := 8) rfl))))), rfl⟩
theorem zw_209 : (.instanceMethod zy_Writes_perform : Cond) ∈ zq_W := List.mem_filter.mpr ⟨List.mem_append_right _ (List.mem_append_right _ (List.mem_append_right _ (List.mem_append_left _ (List.mem_of_getElem? (i := 205) rfl)))), rfl⟩
theorem zw_210 : (.selects "PlainSteps$Writes" zy_Writes_perform zy_Writes_perform : Cond) ∈ zq_W := List.mem_filter.mpr ⟨List.mem_append_right _ (List.mem_append_right _ (List.mem_append_right _ (List.mem_append_left _ (List.mem_of_getElem? (i := 206) rfl)))), rfl⟩
theorem zw_211 : (.code zy_Writes_perform zb_Writes_perform 5 none : Cond) ∈ zq_W := List.mem_filter.mpr ⟨List.mem_append_right _ (List.mem_append_right _ (List.mem_append_right _ (List.mem_append_left _ (List.mem_of_getElem? (i := 207) rfl)))), rfl⟩
theorem zw_212 : (.fieldLink "PlainSteps$Work" 85 "PlainSteps$Work" "word" "I" : Cond) ∈ zq_W := List.mem_filter.mpr ⟨List.mem_append_right _ (List.mem_append_left _ (List.mem_of_getElem? (i := 215) rfl)), rfl⟩
theorem zw_213 : (.fieldLink "PlainSteps$Work" 23 "PlainSteps$Work" "program" "LPlainSteps$Program;" : Cond) ∈ zq_W := List.mem_filter.mpr ⟨List.mem_append_right _ (List.mem_append_left _ (List.mem_of_getElem? (i := 211) rfl)), rfl⟩
theorem zw_214 : (.methodLink "PlainSteps$Work" 88 zy_Program_is : Cond) ∈ zq_W := List.mem_filter.mpr ⟨List.mem_append_right _ (List.mem_append_right _ (List.mem_append_right _ (List.mem_append_left _ (List.mem_of_getElem? (i := 144) rfl)))), rfl⟩
theorem zw_215 : (.instanceMethod zy_Program_is : Cond) ∈ zq_W := List.mem_filter.mpr ⟨List.mem_append_right _ (List.mem_append_right _ (List.mem_append_right _ (List.mem_append_left _ (List.mem_of_getElem? (i := 145) rfl)))), rfl⟩
theorem zw_216 : (.selects "PlainSteps$Program" zy_Program_is zy_Program_is : Cond) ∈ zq_W := List.mem_filter.mpr ⟨List.mem_append_right _ (List.mem_append_right _ (List.mem_append_right _ (List.mem_append_left _ (List.mem_of_getElem? (i := 146) rfl)))), rfl⟩
theorem zw_217 : (.initialized "PlainSteps$Program" : Cond) ∈ zq_W := List.mem_filter.mpr ⟨List.mem_append_right _ (List.mem_append_left _ (List.mem_of_getElem? (i := 5) rfl)), rfl⟩
theorem zw_218 : (.code zy_Program_is zb_Program_is 3 (some .boolean) : Cond) ∈ zq_W := List.mem_filter.mpr ⟨List.mem_append_right _ (List.mem_append_right _ (List.mem_append_right _ (List.mem_append_left _ (List.mem_of_getElem? (i := 147) rfl)))), rfl⟩
theorem zw_219 : (.fieldLink "PlainSteps$Work" 92 "PlainSteps$Work" "parallel" "Z" : Cond) ∈ zq_W := List.mem_filter.mpr ⟨List.mem_append_right _ (List.mem_append_left _ (List.mem_of_getElem? (i := 216) rfl)), rfl⟩
theorem zw_220 : (.fieldLink "PlainSteps$Work" 76 "PlainSteps$Work" "restoring" "Z" : Cond) ∈ zq_W := List.mem_filter.mpr ⟨List.mem_append_right _ (List.mem_append_left _ (List.mem_of_getElem? (i := 217) rfl)), rfl⟩
theorem zw_221 : (.fieldLink "PlainSteps$Work" 95 "PlainSteps$Work" "wrotePlace" "Z" : Cond) ∈ zq_W := List.mem_filter.mpr ⟨List.mem_append_right _ (List.mem_append_left _ (List.mem_of_getElem? (i := 218) rfl)), rfl⟩
theorem zw_222 : (.fieldLink "PlainSteps$Work" 65 "PlainSteps$Work" "ended" "Z" : Cond) ∈ zq_W := List.mem_filter.mpr ⟨List.mem_append_right _ (List.mem_append_left _ (List.mem_of_getElem? (i := 220) rfl)), rfl⟩
theorem zw_223 : (.fieldLink "PlainSteps$Work" 98 "PlainSteps$Work" "halts" "Z" : Cond) ∈ zq_W := List.mem_filter.mpr ⟨List.mem_append_right _ (List.mem_append_left _ (List.mem_of_getElem? (i := 221) rfl)), rfl⟩
theorem zw_224 : (.fieldLink "PlainSteps$Work" 101 "PlainSteps$Work" "backPlace" "I" : Cond) ∈ zq_W := List.mem_filter.mpr ⟨List.mem_append_right _ (List.mem_append_left _ (List.mem_of_getElem? (i := 223) rfl)), rfl⟩
theorem zw_225 : (.fieldLink "PlainSteps$Work" 40 "PlainSteps$Work" "writes" "LPlainSteps$Writes;" : Cond) ∈ zq_W := List.mem_filter.mpr ⟨List.mem_append_right _ (List.mem_append_left _ (List.mem_of_getElem? (i := 213) rfl)), rfl⟩
theorem zw_226 : (.methodLink "PlainSteps$Work" 104 zy_Writes_clear : Cond) ∈ zq_W := List.mem_filter.mpr ⟨List.mem_append_right _ (List.mem_append_right _ (List.mem_append_right _ (List.mem_append_left _ (List.mem_of_getElem? (i := 148) rfl)))), rfl⟩
theorem zw_227 : (.instanceMethod zy_Writes_clear : Cond) ∈ zq_W := List.mem_filter.mpr ⟨List.mem_append_right _ (List.mem_append_right _ (List.mem_append_right _ (List.mem_append_left _ (List.mem_of_getElem? (i := 149) rfl)))), rfl⟩
theorem zw_228 : (.selects "PlainSteps$Writes" zy_Writes_clear zy_Writes_clear : Cond) ∈ zq_W := List.mem_filter.mpr ⟨List.mem_append_right _ (List.mem_append_right _ (List.mem_append_right _ (List.mem_append_left _ (List.mem_of_getElem? (i := 150) rfl)))), rfl⟩
theorem zw_229 : (.code zy_Writes_clear zb_Writes_clear 1 none : Cond) ∈ zq_W := List.mem_filter.mpr ⟨List.mem_append_right _ (List.mem_append_right _ (List.mem_append_right _ (List.mem_append_left _ (List.mem_of_getElem? (i := 151) rfl)))), rfl⟩
theorem zw_230 : (.constantLong "PlainSteps$Work" 202 (-9223372036854775808) : Cond) ∈ zq_W := List.mem_filter.mpr ⟨List.mem_append_right _ (List.mem_append_right _ (List.mem_append_right _ (List.mem_append_left _ (List.mem_of_getElem? (i := 186) rfl)))), rfl⟩
theorem zw_231 : (.methodLink "PlainSteps$Work" 198 zy_Work_isBelow : Cond) ∈ zq_W := List.mem_filter.mpr ⟨List.mem_append_right _ (List.mem_append_right _ (List.mem_append_right _ (List.mem_append_left _ (List.mem_of_getElem? (i := 183) rfl)))), rfl⟩
theorem zw_232 : (.static zy_Work_isBelow : Cond) ∈ zq_W := List.mem_filter.mpr ⟨List.mem_append_right _ (List.mem_append_right _ (List.mem_append_right _ (List.mem_append_left _ (List.mem_of_getElem? (i := 184) rfl)))), rfl⟩
theorem zw_233 : (.initialized "PlainSteps$Work" : Cond) ∈ zq_W := List.mem_filter.mpr ⟨List.mem_append_right _ (List.mem_append_left _ (List.mem_of_getElem? (i := 8) rfl)), rfl⟩
theorem zw_234 : (.code zy_Work_isBelow zb_Work_isBelow 4 (some .boolean) : Cond) ∈ zq_W := List.mem_filter.mpr ⟨List.mem_append_right _ (List.mem_append_right _ (List.mem_append_right _ (List.mem_append_left _ (List.mem_of_getElem? (i := 185) rfl)))), rfl⟩
theorem zw_235 : (.methodLink "PlainSteps$Work" 190 zy_Writes_noteReverse : Cond) ∈ zq_W := List.mem_filter.mpr ⟨List.mem_append_right _ (List.mem_append_right _ (List.mem_append_right _ (List.mem_append_left _ (List.mem_of_getElem? (i := 195) rfl)))), rfl⟩
theorem zw_236 : (.instanceMethod zy_Writes_noteReverse : Cond) ∈ zq_W := List.mem_filter.mpr ⟨List.mem_append_right _ (List.mem_append_right _ (List.mem_append_right _ (List.mem_append_left _ (List.mem_of_getElem? (i := 196) rfl)))), rfl⟩
theorem zw_237 : (.selects "PlainSteps$Writes" zy_Writes_noteReverse zy_Writes_noteReverse : Cond) ∈ zq_W := List.mem_filter.mpr ⟨List.mem_append_right _ (List.mem_append_right _ (List.mem_append_right _ (List.mem_append_left _ (List.mem_of_getElem? (i := 197) rfl)))), rfl⟩
theorem zw_238 : (.code zy_Writes_noteReverse zb_Writes_noteReverse 3 none : Cond) ∈ zq_W := List.mem_filter.mpr ⟨List.mem_append_right _ (List.mem_append_right _ (List.mem_append_right _ (List.mem_append_left _ (List.mem_of_getElem? (i := 198) rfl)))), rfl⟩
theorem zw_239 : (.methodLink "PlainSteps$Work" 187 zy_Writes_note : Cond) ∈ zq_W := List.mem_filter.mpr ⟨List.mem_append_right _ (List.mem_append_right _ (List.mem_append_right _ (List.mem_append_left _ (List.mem_of_getElem? (i := 191) rfl)))), rfl⟩
theorem zw_240 : (.methodLink "PlainSteps$Work" 193 zy_Writes_perform : Cond) ∈ zq_W := List.mem_filter.mpr ⟨List.mem_append_right _ (List.mem_append_right _ (List.mem_append_right _ (List.mem_append_left _ (List.mem_of_getElem? (i := 204) rfl)))), rfl⟩
theorem zw_241 : (.methodLink "PlainSteps$Work" 167 zy_Work_quotient : Cond) ∈ zq_W := List.mem_filter.mpr ⟨List.mem_append_right _ (List.mem_append_right _ (List.mem_append_right _ (List.mem_append_left _ (List.mem_of_getElem? (i := 180) rfl)))), rfl⟩
theorem zw_242 : (.static zy_Work_quotient : Cond) ∈ zq_W := List.mem_filter.mpr ⟨List.mem_append_right _ (List.mem_append_right _ (List.mem_append_right _ (List.mem_append_left _ (List.mem_of_getElem? (i := 181) rfl)))), rfl⟩
theorem zw_243 : (.code zy_Work_quotient zb_Work_quotient 6 (some .long) : Cond) ∈ zq_W := List.mem_filter.mpr ⟨List.mem_append_right _ (List.mem_append_right _ (List.mem_append_right _ (List.mem_append_left _ (List.mem_of_getElem? (i := 182) rfl)))), rfl⟩
theorem zw_244 : (.methodLink "PlainSteps$Work" 155 zy_Work_write : Cond) ∈ zq_W := List.mem_filter.mpr ⟨List.mem_append_right _ (List.mem_append_right _ (List.mem_append_right _ (List.mem_append_left _ (List.mem_of_getElem? (i := 187) rfl)))), rfl⟩
theorem zw_245 : (.instanceMethod zy_Work_write : Cond) ∈ zq_W := List.mem_filter.mpr ⟨List.mem_append_right _ (List.mem_append_right _ (List.mem_append_right _ (List.mem_append_left _ (List.mem_of_getElem? (i := 189) rfl)))), rfl⟩
theorem zw_246 : (.selects "PlainSteps$Work" zy_Work_write zy_Work_write : Cond) ∈ zq_W := List.mem_filter.mpr ⟨List.mem_append_left _ (List.mem_of_getElem? (i := 7) rfl), rfl⟩
theorem zw_247 : (.code zy_Work_write zb_Work_write 5 none : Cond) ∈ zq_W := List.mem_filter.mpr ⟨List.mem_append_right _ (List.mem_append_right _ (List.mem_append_right _ (List.mem_append_left _ (List.mem_of_getElem? (i := 190) rfl)))), rfl⟩
theorem zw_248 : (.fieldLink "PlainSteps$Work" 15 "PlainSteps$Work" "bytes" "LPlainSteps$Bytes;" : Cond) ∈ zq_W := List.mem_filter.mpr ⟨List.mem_append_right _ (List.mem_append_left _ (List.mem_of_getElem? (i := 209) rfl)), rfl⟩
theorem zw_249 : (.methodLink "PlainSteps$Work" 177 zy_Bytes_hasByte : Cond) ∈ zq_W := List.mem_filter.mpr ⟨List.mem_append_right _ (List.mem_append_right _ (List.mem_append_right _ (List.mem_append_left _ (List.mem_of_getElem? (i := 219) rfl)))), rfl⟩
theorem zw_250 : (.methodLink "PlainSteps$Work" 171 zy_Bytes_hasWord : Cond) ∈ zq_W := List.mem_filter.mpr ⟨List.mem_append_right _ (List.mem_append_right _ (List.mem_append_right _ (List.mem_append_left _ (List.mem_of_getElem? (i := 218) rfl)))), rfl⟩
theorem zw_251 : (.instanceMethod zy_Bytes_hasWord : Cond) ∈ zq_W := List.mem_filter.mpr ⟨List.mem_append_right _ (List.mem_append_right _ (List.mem_append_right _ (List.mem_append_left _ (List.mem_of_getElem? (i := 115) rfl)))), rfl⟩
theorem zw_252 : (.selects "PlainSteps$Bytes" zy_Bytes_hasWord zy_Bytes_hasWord : Cond) ∈ zq_W := List.mem_filter.mpr ⟨List.mem_append_right _ (List.mem_append_right _ (List.mem_append_right _ (List.mem_append_left _ (List.mem_of_getElem? (i := 116) rfl)))), rfl⟩
theorem zw_253 : (.code zy_Bytes_hasWord zb_Bytes_hasWord 3 (some .boolean) : Cond) ∈ zq_W := List.mem_filter.mpr ⟨List.mem_append_right _ (List.mem_append_right _ (List.mem_append_right _ (List.mem_append_left _ (List.mem_of_getElem? (i := 117) rfl)))), rfl⟩
theorem zw_254 : (.fieldLink "PlainSteps$Work" 31 "PlainSteps$Work" "counts" "[I" : Cond) ∈ zq_W := List.mem_filter.mpr ⟨List.mem_append_right _ (List.mem_append_left _ (List.mem_of_getElem? (i := 214) rfl)), rfl⟩
theorem zw_255 : (.methodLink "PlainSteps$Work" 183 zy_Bytes_byteOf : Cond) ∈ zq_W := List.mem_filter.mpr ⟨List.mem_append_right _ (List.mem_append_right _ (List.mem_append_right _ (List.mem_append_left _ (List.mem_of_getElem? (i := 221) rfl)))), rfl⟩
theorem zw_256 : (.methodLink "PlainSteps$Work" 180 zy_Bytes_wordOf : Cond) ∈ zq_W := List.mem_filter.mpr ⟨List.mem_append_right _ (List.mem_append_right _ (List.mem_append_right _ (List.mem_append_left _ (List.mem_of_getElem? (i := 220) rfl)))), rfl⟩
theorem zw_257 : (.fieldLink "PlainSteps$Work" 27 "PlainSteps$Work" "kept" "LPlainSteps$Kept;" : Cond) ∈ zq_W := List.mem_filter.mpr ⟨List.mem_append_right _ (List.mem_append_left _ (List.mem_of_getElem? (i := 212) rfl)), rfl⟩
theorem zw_258 : (.methodLink "PlainSteps$Work" 186 zy_Kept_goBack : Cond) ∈ zq_W := List.mem_filter.mpr ⟨List.mem_append_right _ (List.mem_append_right _ (List.mem_append_right _ (List.mem_append_left _ (List.mem_of_getElem? (i := 231) rfl)))), rfl⟩
theorem zw_259 : (.instanceMethod zy_Kept_goBack : Cond) ∈ zq_W := List.mem_filter.mpr ⟨List.mem_append_right _ (List.mem_append_right _ (List.mem_append_right _ (List.mem_append_left _ (List.mem_of_getElem? (i := 232) rfl)))), rfl⟩
theorem zw_260 : (.selects "PlainSteps$Kept" zy_Kept_goBack zy_Kept_goBack : Cond) ∈ zq_W := List.mem_filter.mpr ⟨List.mem_append_right _ (List.mem_append_right _ (List.mem_append_right _ (List.mem_append_left _ (List.mem_of_getElem? (i := 233) rfl)))), rfl⟩
theorem zw_261 : (.initialized "PlainSteps$Kept" : Cond) ∈ zq_W := List.mem_filter.mpr ⟨List.mem_append_right _ (List.mem_append_left _ (List.mem_of_getElem? (i := 6) rfl)), rfl⟩
theorem zw_262 : (.code zy_Kept_goBack zb_Kept_goBack 1 (some .int) : Cond) ∈ zq_W := List.mem_filter.mpr ⟨List.mem_append_right _ (List.mem_append_right _ (List.mem_append_right _ (List.mem_append_left _ (List.mem_of_getElem? (i := 234) rfl)))), rfl⟩
theorem zw_263 : (.constantLong "PlainSteps$Work" 196 (63) : Cond) ∈ zq_W := List.mem_filter.mpr ⟨List.mem_append_right _ (List.mem_append_right _ (List.mem_append_right _ (List.mem_append_left _ (List.mem_of_getElem? (i := 238) rfl)))), rfl⟩
theorem zw_264 : (.fieldLink "PlainSteps$Work" 19 "PlainSteps$Work" "operands" "LPlainSteps$Operands;" : Cond) ∈ zq_W := List.mem_filter.mpr ⟨List.mem_append_right _ (List.mem_append_left _ (List.mem_of_getElem? (i := 210) rfl)), rfl⟩
theorem zw_265 : (.methodLink "PlainSteps$Work" 128 zy_Operands_read : Cond) ∈ zq_W := List.mem_filter.mpr ⟨List.mem_append_right _ (List.mem_append_right _ (List.mem_append_right _ (List.mem_append_left _ (List.mem_of_getElem? (i := 156) rfl)))), rfl⟩
theorem zw_266 : (.instanceMethod zy_Operands_read : Cond) ∈ zq_W := List.mem_filter.mpr ⟨List.mem_append_right _ (List.mem_append_right _ (List.mem_append_right _ (List.mem_append_left _ (List.mem_of_getElem? (i := 157) rfl)))), rfl⟩
theorem zw_267 : (.selects "PlainSteps$Operands" zy_Operands_read zy_Operands_read : Cond) ∈ zq_W := List.mem_filter.mpr ⟨List.mem_append_right _ (List.mem_append_right _ (List.mem_append_right _ (List.mem_append_left _ (List.mem_of_getElem? (i := 158) rfl)))), rfl⟩
theorem zw_268 : (.code zy_Operands_read zb_Operands_read 3 (some .long) : Cond) ∈ zq_W := List.mem_filter.mpr ⟨List.mem_append_right _ (List.mem_append_right _ (List.mem_append_right _ (List.mem_append_left _ (List.mem_of_getElem? (i := 159) rfl)))), rfl⟩
theorem zw_269 : (.methodLink "PlainSteps$Work" 137 zy_Operands_isMarked : Cond) ∈ zq_W := List.mem_filter.mpr ⟨List.mem_append_right _ (List.mem_append_right _ (List.mem_append_right _ (List.mem_append_left _ (List.mem_of_getElem? (i := 168) rfl)))), rfl⟩
theorem zw_270 : (.instanceMethod zy_Operands_isMarked : Cond) ∈ zq_W := List.mem_filter.mpr ⟨List.mem_append_right _ (List.mem_append_right _ (List.mem_append_right _ (List.mem_append_left _ (List.mem_of_getElem? (i := 169) rfl)))), rfl⟩
theorem zw_271 : (.selects "PlainSteps$Operands" zy_Operands_isMarked zy_Operands_isMarked : Cond) ∈ zq_W := List.mem_filter.mpr ⟨List.mem_append_right _ (List.mem_append_right _ (List.mem_append_right _ (List.mem_append_left _ (List.mem_of_getElem? (i := 170) rfl)))), rfl⟩
theorem zw_272 : (.code zy_Operands_isMarked zb_Operands_isMarked 2 (some .boolean) : Cond) ∈ zq_W := List.mem_filter.mpr ⟨List.mem_append_right _ (List.mem_append_right _ (List.mem_append_right _ (List.mem_append_left _ (List.mem_of_getElem? (i := 171) rfl)))), rfl⟩
theorem zw_273 : (.constantLong "PlainSteps$Work" 153 (7) : Cond) ∈ zq_W := List.mem_filter.mpr ⟨List.mem_append_right _ (List.mem_append_right _ (List.mem_append_right _ (List.mem_append_left _ (List.mem_of_getElem? (i := 226) rfl)))), rfl⟩
theorem zw_274 : (.methodLink "PlainSteps$Work" 159 zy_Work_goBack : Cond) ∈ zq_W := List.mem_filter.mpr ⟨List.mem_append_right _ (List.mem_append_right _ (List.mem_append_right _ (List.mem_append_left _ (List.mem_of_getElem? (i := 227) rfl)))), rfl⟩
theorem zw_275 : (.instanceMethod zy_Work_goBack : Cond) ∈ zq_W := List.mem_filter.mpr ⟨List.mem_append_right _ (List.mem_append_right _ (List.mem_append_right _ (List.mem_append_left _ (List.mem_of_getElem? (i := 229) rfl)))), rfl⟩
theorem zw_276 : (.selects "PlainSteps$Work" zy_Work_goBack zy_Work_goBack : Cond) ∈ zq_W := List.mem_filter.mpr ⟨List.mem_append_left _ (List.mem_of_getElem? (i := 10) rfl), rfl⟩
theorem zw_277 : (.code zy_Work_goBack zb_Work_goBack 2 (some .int) : Cond) ∈ zq_W := List.mem_filter.mpr ⟨List.mem_append_right _ (List.mem_append_right _ (List.mem_append_right _ (List.mem_append_left _ (List.mem_of_getElem? (i := 230) rfl)))), rfl⟩
theorem zw_278 : (.methodLink "PlainSteps$Work" 141 zy_Work_divide : Cond) ∈ zq_W := List.mem_filter.mpr ⟨List.mem_append_right _ (List.mem_append_right _ (List.mem_append_right _ (List.mem_append_left _ (List.mem_of_getElem? (i := 176) rfl)))), rfl⟩
theorem zw_279 : (.instanceMethod zy_Work_divide : Cond) ∈ zq_W := List.mem_filter.mpr ⟨List.mem_append_right _ (List.mem_append_right _ (List.mem_append_right _ (List.mem_append_left _ (List.mem_of_getElem? (i := 178) rfl)))), rfl⟩
theorem zw_280 : (.selects "PlainSteps$Work" zy_Work_divide zy_Work_divide : Cond) ∈ zq_W := List.mem_filter.mpr ⟨List.mem_append_left _ (List.mem_of_getElem? (i := 6) rfl), rfl⟩
theorem zw_281 : (.code zy_Work_divide zb_Work_divide 10 (some .int) : Cond) ∈ zq_W := List.mem_filter.mpr ⟨List.mem_append_right _ (List.mem_append_right _ (List.mem_append_right _ (List.mem_append_left _ (List.mem_of_getElem? (i := 179) rfl)))), rfl⟩
theorem zw_282 : (.methodLink "PlainSteps$Work" 149 zy_Work_store : Cond) ∈ zq_W := List.mem_filter.mpr ⟨List.mem_append_right _ (List.mem_append_right _ (List.mem_append_right _ (List.mem_append_left _ (List.mem_of_getElem? (i := 222) rfl)))), rfl⟩
theorem zw_283 : (.instanceMethod zy_Work_store : Cond) ∈ zq_W := List.mem_filter.mpr ⟨List.mem_append_right _ (List.mem_append_right _ (List.mem_append_right _ (List.mem_append_left _ (List.mem_of_getElem? (i := 224) rfl)))), rfl⟩
theorem zw_284 : (.selects "PlainSteps$Work" zy_Work_store zy_Work_store : Cond) ∈ zq_W := List.mem_filter.mpr ⟨List.mem_append_left _ (List.mem_of_getElem? (i := 9) rfl), rfl⟩
theorem zw_285 : (.code zy_Work_store zb_Work_store 6 (some .int) : Cond) ∈ zq_W := List.mem_filter.mpr ⟨List.mem_append_right _ (List.mem_append_right _ (List.mem_append_right _ (List.mem_append_left _ (List.mem_of_getElem? (i := 225) rfl)))), rfl⟩
theorem zw_286 : (.methodLink "PlainSteps$Work" 163 zy_Work_result : Cond) ∈ zq_W := List.mem_filter.mpr ⟨List.mem_append_right _ (List.mem_append_right _ (List.mem_append_right _ (List.mem_append_left _ (List.mem_of_getElem? (i := 235) rfl)))), rfl⟩
theorem zw_287 : (.static zy_Work_result : Cond) ∈ zq_W := List.mem_filter.mpr ⟨List.mem_append_right _ (List.mem_append_right _ (List.mem_append_right _ (List.mem_append_left _ (List.mem_of_getElem? (i := 236) rfl)))), rfl⟩
theorem zw_288 : (.code zy_Work_result zb_Work_result 5 (some .long) : Cond) ∈ zq_W := List.mem_filter.mpr ⟨List.mem_append_right _ (List.mem_append_right _ (List.mem_append_right _ (List.mem_append_left _ (List.mem_of_getElem? (i := 237) rfl)))), rfl⟩
theorem zw_289 : (.methodLink "PlainSteps$Work" 145 zy_Work_load : Cond) ∈ zq_W := List.mem_filter.mpr ⟨List.mem_append_right _ (List.mem_append_right _ (List.mem_append_right _ (List.mem_append_left _ (List.mem_of_getElem? (i := 214) rfl)))), rfl⟩
theorem zw_290 : (.instanceMethod zy_Work_load : Cond) ∈ zq_W := List.mem_filter.mpr ⟨List.mem_append_right _ (List.mem_append_right _ (List.mem_append_right _ (List.mem_append_left _ (List.mem_of_getElem? (i := 216) rfl)))), rfl⟩
theorem zw_291 : (.selects "PlainSteps$Work" zy_Work_load zy_Work_load : Cond) ∈ zq_W := List.mem_filter.mpr ⟨List.mem_append_left _ (List.mem_of_getElem? (i := 8) rfl), rfl⟩
theorem zw_292 : (.code zy_Work_load zb_Work_load 7 (some .int) : Cond) ∈ zq_W := List.mem_filter.mpr ⟨List.mem_append_right _ (List.mem_append_right _ (List.mem_append_right _ (List.mem_append_left _ (List.mem_of_getElem? (i := 217) rfl)))), rfl⟩
theorem zw_293 : (.methodLink "PlainSteps$Work" 113 zy_Writes_performInOrder : Cond) ∈ zq_W := List.mem_filter.mpr ⟨List.mem_append_right _ (List.mem_append_right _ (List.mem_append_right _ (List.mem_append_right _ (List.mem_append_left _ (List.mem_of_getElem? (i := 4) rfl))))), rfl⟩
theorem zw_294 : (.instanceMethod zy_Writes_performInOrder : Cond) ∈ zq_W := List.mem_filter.mpr ⟨List.mem_append_right _ (List.mem_append_right _ (List.mem_append_right _ (List.mem_append_right _ (List.mem_append_left _ (List.mem_of_getElem? (i := 5) rfl))))), rfl⟩
theorem zw_295 : (.selects "PlainSteps$Writes" zy_Writes_performInOrder zy_Writes_performInOrder : Cond) ∈ zq_W := List.mem_filter.mpr ⟨List.mem_append_right _ (List.mem_append_right _ (List.mem_append_right _ (List.mem_append_right _ (List.mem_append_left _ (List.mem_of_getElem? (i := 6) rfl))))), rfl⟩
theorem zw_296 : (.code zy_Writes_performInOrder zb_Writes_performInOrder 2 none : Cond) ∈ zq_W := List.mem_filter.mpr ⟨List.mem_append_right _ (List.mem_append_right _ (List.mem_append_right _ (List.mem_append_right _ (List.mem_append_left _ (List.mem_of_getElem? (i := 7) rfl))))), rfl⟩
theorem zw_297 : (.fieldLink "PlainSteps$Work" 9 "PlainSteps$Work" "registers" "LPlainSteps$Registers;" : Cond) ∈ zq_W := List.mem_filter.mpr ⟨List.mem_append_right _ (List.mem_append_left _ (List.mem_of_getElem? (i := 208) rfl)), rfl⟩
theorem zw_298 : (.methodLink "PlainSteps$Work" 107 zy_Registers_put : Cond) ∈ zq_W := List.mem_filter.mpr ⟨List.mem_append_right _ (List.mem_append_right _ (List.mem_append_right _ (List.mem_append_right _ (List.mem_append_left _ (List.mem_of_getElem? (i := 3) rfl))))), rfl⟩
theorem zw_299 : (.methodLink "PlainSteps$Work" 116 zy_Writes_performBackwards : Cond) ∈ zq_W := List.mem_filter.mpr ⟨List.mem_append_right _ (List.mem_append_right _ (List.mem_append_right _ (List.mem_append_right _ (List.mem_append_left _ (List.mem_of_getElem? (i := 13) rfl))))), rfl⟩
theorem zw_300 : (.instanceMethod zy_Writes_performBackwards : Cond) ∈ zq_W := List.mem_filter.mpr ⟨List.mem_append_right _ (List.mem_append_right _ (List.mem_append_right _ (List.mem_append_right _ (List.mem_append_left _ (List.mem_of_getElem? (i := 14) rfl))))), rfl⟩
theorem zw_301 : (.selects "PlainSteps$Writes" zy_Writes_performBackwards zy_Writes_performBackwards : Cond) ∈ zq_W := List.mem_filter.mpr ⟨List.mem_append_right _ (List.mem_append_right _ (List.mem_append_right _ (List.mem_append_right _ (List.mem_append_left _ (List.mem_of_getElem? (i := 15) rfl))))), rfl⟩
theorem zw_302 : (.code zy_Writes_performBackwards zb_Writes_performBackwards 2 none : Cond) ∈ zq_W := List.mem_filter.mpr ⟨List.mem_append_right _ (List.mem_append_right _ (List.mem_append_right _ (List.mem_append_right _ (List.mem_append_left _ (List.mem_of_getElem? (i := 16) rfl))))), rfl⟩
theorem zw_303 : (.methodLink "PlainSteps$Work" 44 zy_Work_prepare : Cond) ∈ zq_W := List.mem_filter.mpr ⟨List.mem_append_right _ (List.mem_append_right _ (List.mem_append_right _ (List.mem_append_left _ (List.mem_of_getElem? (i := 140) rfl)))), rfl⟩
theorem zw_304 : (.instanceMethod zy_Work_prepare : Cond) ∈ zq_W := List.mem_filter.mpr ⟨List.mem_append_right _ (List.mem_append_right _ (List.mem_append_right _ (List.mem_append_left _ (List.mem_of_getElem? (i := 142) rfl)))), rfl⟩
theorem zw_305 : (.selects "PlainSteps$Work" zy_Work_prepare zy_Work_prepare : Cond) ∈ zq_W := List.mem_filter.mpr ⟨List.mem_append_left _ (List.mem_of_getElem? (i := 3) rfl), rfl⟩
theorem zw_306 : (.code zy_Work_prepare zb_Work_prepare 3 none : Cond) ∈ zq_W := List.mem_filter.mpr ⟨List.mem_append_right _ (List.mem_append_right _ (List.mem_append_right _ (List.mem_append_left _ (List.mem_of_getElem? (i := 143) rfl)))), rfl⟩
theorem zw_307 : (.methodLink "PlainSteps$Work" 69 zy_Work_doTransfer : Cond) ∈ zq_W := List.mem_filter.mpr ⟨List.mem_append_right _ (List.mem_append_right _ (List.mem_append_right _ (List.mem_append_left _ (List.mem_of_getElem? (i := 152) rfl)))), rfl⟩
theorem zw_308 : (.instanceMethod zy_Work_doTransfer : Cond) ∈ zq_W := List.mem_filter.mpr ⟨List.mem_append_right _ (List.mem_append_right _ (List.mem_append_right _ (List.mem_append_left _ (List.mem_of_getElem? (i := 154) rfl)))), rfl⟩
theorem zw_309 : (.selects "PlainSteps$Work" zy_Work_doTransfer zy_Work_doTransfer : Cond) ∈ zq_W := List.mem_filter.mpr ⟨List.mem_append_left _ (List.mem_of_getElem? (i := 4) rfl), rfl⟩
theorem zw_310 : (.code zy_Work_doTransfer zb_Work_doTransfer 10 (some .int) : Cond) ∈ zq_W := List.mem_filter.mpr ⟨List.mem_append_right _ (List.mem_append_right _ (List.mem_append_right _ (List.mem_append_left _ (List.mem_of_getElem? (i := 155) rfl)))), rfl⟩
theorem zw_311 : (.methodLink "PlainSteps$Work" 79 zy_Work_takeBack : Cond) ∈ zq_W := List.mem_filter.mpr ⟨List.mem_append_right _ (List.mem_append_right _ (List.mem_append_right _ (List.mem_append_right _ (List.mem_append_left _ (List.mem_of_getElem? (i := 9) rfl))))), rfl⟩
theorem zw_312 : (.instanceMethod zy_Work_takeBack : Cond) ∈ zq_W := List.mem_filter.mpr ⟨List.mem_append_right _ (List.mem_append_right _ (List.mem_append_right _ (List.mem_append_right _ (List.mem_append_left _ (List.mem_of_getElem? (i := 11) rfl))))), rfl⟩
theorem zw_313 : (.selects "PlainSteps$Work" zy_Work_takeBack zy_Work_takeBack : Cond) ∈ zq_W := List.mem_filter.mpr ⟨List.mem_append_left _ (List.mem_of_getElem? (i := 12) rfl), rfl⟩
theorem zw_314 : (.code zy_Work_takeBack zb_Work_takeBack 1 none : Cond) ∈ zq_W := List.mem_filter.mpr ⟨List.mem_append_right _ (List.mem_append_right _ (List.mem_append_right _ (List.mem_append_right _ (List.mem_append_left _ (List.mem_of_getElem? (i := 12) rfl))))), rfl⟩
theorem zw_315 : (.methodLink "PlainSteps$Work" 82 zy_Kept_restore : Cond) ∈ zq_W := List.mem_filter.mpr ⟨List.mem_append_right _ (List.mem_append_right _ (List.mem_append_right _ (List.mem_append_right _ (List.mem_append_left _ (List.mem_of_getElem? (i := 17) rfl))))), rfl⟩
theorem zw_316 : (.instanceMethod zy_Kept_restore : Cond) ∈ zq_W := List.mem_filter.mpr ⟨List.mem_append_right _ (List.mem_append_right _ (List.mem_append_right _ (List.mem_append_right _ (List.mem_append_left _ (List.mem_of_getElem? (i := 18) rfl))))), rfl⟩
theorem zw_317 : (.selects "PlainSteps$Kept" zy_Kept_restore zy_Kept_restore : Cond) ∈ zq_W := List.mem_filter.mpr ⟨List.mem_append_right _ (List.mem_append_right _ (List.mem_append_right _ (List.mem_append_right _ (List.mem_append_left _ (List.mem_of_getElem? (i := 19) rfl))))), rfl⟩
theorem zw_318 : (.code zy_Kept_restore zb_Kept_restore 3 none : Cond) ∈ zq_W := List.mem_filter.mpr ⟨List.mem_append_right _ (List.mem_append_right _ (List.mem_append_right _ (List.mem_append_right _ (List.mem_append_left _ (List.mem_of_getElem? (i := 20) rfl))))), rfl⟩
theorem zw_319 : (.methodLink "PlainSteps$Work" 73 zy_Work_writeWhatWaits : Cond) ∈ zq_W := List.mem_filter.mpr ⟨List.mem_append_right _ (List.mem_append_right _ (List.mem_append_right _ (List.mem_append_left _ (List.mem_of_getElem? (i := 239) rfl)))), rfl⟩
theorem zw_320 : (.instanceMethod zy_Work_writeWhatWaits : Cond) ∈ zq_W := List.mem_filter.mpr ⟨List.mem_append_right _ (List.mem_append_right _ (List.mem_append_right _ (List.mem_append_right _ (List.mem_append_left _ (List.mem_of_getElem? (i := 1) rfl))))), rfl⟩
theorem zw_321 : (.selects "PlainSteps$Work" zy_Work_writeWhatWaits zy_Work_writeWhatWaits : Cond) ∈ zq_W := List.mem_filter.mpr ⟨List.mem_append_left _ (List.mem_of_getElem? (i := 11) rfl), rfl⟩
theorem zw_322 : (.code zy_Work_writeWhatWaits zb_Work_writeWhatWaits 1 none : Cond) ∈ zq_W := List.mem_filter.mpr ⟨List.mem_append_right _ (List.mem_append_right _ (List.mem_append_right _ (List.mem_append_right _ (List.mem_append_left _ (List.mem_of_getElem? (i := 2) rfl))))), rfl⟩
theorem zw_323 : (.fieldLink "PlainSteps$Machine" 9 "PlainSteps$Machine" "waitingPlace" "I" : Cond) ∈ zq_W := List.mem_filter.mpr ⟨List.mem_append_right _ (List.mem_append_right _ (List.mem_append_left _ (List.mem_of_getElem? (i := 26) rfl))), rfl⟩
theorem zw_324 : (.methodLink "PlainSteps$Machine" 106 zy_Machine_loseWaiting : Cond) ∈ zq_W := List.mem_filter.mpr ⟨List.mem_append_right _ (List.mem_append_right _ (List.mem_append_right _ (List.mem_append_left _ (List.mem_of_getElem? (i := 90) rfl)))), rfl⟩
theorem zw_325 : (.instanceMethod zy_Machine_loseWaiting : Cond) ∈ zq_W := List.mem_filter.mpr ⟨List.mem_append_right _ (List.mem_append_right _ (List.mem_append_right _ (List.mem_append_left _ (List.mem_of_getElem? (i := 91) rfl)))), rfl⟩
theorem zw_326 : (.selects "PlainSteps$Machine" zy_Machine_loseWaiting zy_Machine_loseWaiting : Cond) ∈ zq_W := List.mem_filter.mpr ⟨List.mem_append_right _ (List.mem_append_right _ (List.mem_append_right _ (List.mem_append_left _ (List.mem_of_getElem? (i := 92) rfl)))), rfl⟩
theorem zw_327 : (.initialized "PlainSteps$Machine" : Cond) ∈ zq_W := List.mem_filter.mpr ⟨List.mem_append_right _ (List.mem_append_left _ (List.mem_of_getElem? (i := 10) rfl)), rfl⟩
theorem zw_328 : (.code zy_Machine_loseWaiting zb_Machine_loseWaiting 1 none : Cond) ∈ zq_W := List.mem_filter.mpr ⟨List.mem_append_right _ (List.mem_append_right _ (List.mem_append_right _ (List.mem_append_left _ (List.mem_of_getElem? (i := 93) rfl)))), rfl⟩
theorem zw_329 : (.fieldLink "PlainSteps$Machine" 30 "PlainSteps$Machine" "kept" "LPlainSteps$Kept;" : Cond) ∈ zq_W := List.mem_filter.mpr ⟨List.mem_append_right _ (List.mem_append_right _ (List.mem_append_left _ (List.mem_of_getElem? (i := 22) rfl))), rfl⟩
theorem zw_330 : (.methodLink "PlainSteps$Machine" 109 zy_Kept_isFull : Cond) ∈ zq_W := List.mem_filter.mpr ⟨List.mem_append_right _ (List.mem_append_right _ (List.mem_append_right _ (List.mem_append_left _ (List.mem_of_getElem? (i := 94) rfl)))), rfl⟩
theorem zw_331 : (.instanceMethod zy_Kept_isFull : Cond) ∈ zq_W := List.mem_filter.mpr ⟨List.mem_append_right _ (List.mem_append_right _ (List.mem_append_right _ (List.mem_append_left _ (List.mem_of_getElem? (i := 95) rfl)))), rfl⟩
theorem zw_332 : (.selects "PlainSteps$Kept" zy_Kept_isFull zy_Kept_isFull : Cond) ∈ zq_W := List.mem_filter.mpr ⟨List.mem_append_right _ (List.mem_append_right _ (List.mem_append_right _ (List.mem_append_left _ (List.mem_of_getElem? (i := 96) rfl)))), rfl⟩
theorem zw_333 : (.code zy_Kept_isFull zb_Kept_isFull 1 (some .boolean) : Cond) ∈ zq_W := List.mem_filter.mpr ⟨List.mem_append_right _ (List.mem_append_right _ (List.mem_append_right _ (List.mem_append_left _ (List.mem_of_getElem? (i := 97) rfl)))), rfl⟩
theorem zw_334 : (.fieldLink "PlainSteps$Machine" 42 "PlainSteps$Machine" "counts" "[I" : Cond) ∈ zq_W := List.mem_filter.mpr ⟨List.mem_append_right _ (List.mem_append_right _ (List.mem_append_left _ (List.mem_of_getElem? (i := 25) rfl))), rfl⟩
theorem zw_335 : (.fieldLink "PlainSteps$Machine" 18 "PlainSteps$Machine" "registers" "LPlainSteps$Registers;" : Cond) ∈ zq_W := List.mem_filter.mpr ⟨List.mem_append_right _ (List.mem_append_right _ (List.mem_append_left _ (List.mem_of_getElem? (i := 19) rfl))), rfl⟩
theorem zw_336 : (.methodLink "PlainSteps$Machine" 61 zy_Registers_placeNow : Cond) ∈ zq_W := List.mem_filter.mpr ⟨List.mem_append_right _ (List.mem_append_right _ (List.mem_append_right _ (List.mem_append_left _ (List.mem_of_getElem? (i := 98) rfl)))), rfl⟩
theorem zw_337 : (.instanceMethod zy_Registers_placeNow : Cond) ∈ zq_W := List.mem_filter.mpr ⟨List.mem_append_right _ (List.mem_append_right _ (List.mem_append_right _ (List.mem_append_left _ (List.mem_of_getElem? (i := 99) rfl)))), rfl⟩
theorem zw_338 : (.selects "PlainSteps$Registers" zy_Registers_placeNow zy_Registers_placeNow : Cond) ∈ zq_W := List.mem_filter.mpr ⟨List.mem_append_right _ (List.mem_append_right _ (List.mem_append_right _ (List.mem_append_left _ (List.mem_of_getElem? (i := 100) rfl)))), rfl⟩
theorem zw_339 : (.code zy_Registers_placeNow zb_Registers_placeNow 1 (some .int) : Cond) ∈ zq_W := List.mem_filter.mpr ⟨List.mem_append_right _ (List.mem_append_right _ (List.mem_append_right _ (List.mem_append_left _ (List.mem_of_getElem? (i := 101) rfl)))), rfl⟩
theorem zw_340 : (.fieldLink "PlainSteps$Machine" 34 "PlainSteps$Machine" "lines" "LPlainSteps$Lines;" : Cond) ∈ zq_W := List.mem_filter.mpr ⟨List.mem_append_right _ (List.mem_append_right _ (List.mem_append_left _ (List.mem_of_getElem? (i := 23) rfl))), rfl⟩
theorem zw_341 : (.methodLink "PlainSteps$Machine" 113 zy_Lines_rankOf : Cond) ∈ zq_W := List.mem_filter.mpr ⟨List.mem_append_right _ (List.mem_append_right _ (List.mem_append_right _ (List.mem_append_left _ (List.mem_of_getElem? (i := 102) rfl)))), rfl⟩
theorem zw_342 : (.instanceMethod zy_Lines_rankOf : Cond) ∈ zq_W := List.mem_filter.mpr ⟨List.mem_append_right _ (List.mem_append_right _ (List.mem_append_right _ (List.mem_append_left _ (List.mem_of_getElem? (i := 103) rfl)))), rfl⟩
theorem zw_343 : (.selects "PlainSteps$Lines" zy_Lines_rankOf zy_Lines_rankOf : Cond) ∈ zq_W := List.mem_filter.mpr ⟨List.mem_append_right _ (List.mem_append_right _ (List.mem_append_right _ (List.mem_append_left _ (List.mem_of_getElem? (i := 104) rfl)))), rfl⟩
theorem zw_344 : (.initialized "PlainSteps$Lines" : Cond) ∈ zq_W := List.mem_filter.mpr ⟨List.mem_append_right _ (List.mem_append_left _ (List.mem_of_getElem? (i := 7) rfl)), rfl⟩
theorem zw_345 : (.code zy_Lines_rankOf zb_Lines_rankOf 2 (some .int) : Cond) ∈ zq_W := List.mem_filter.mpr ⟨List.mem_append_right _ (List.mem_append_right _ (List.mem_append_right _ (List.mem_append_left _ (List.mem_of_getElem? (i := 105) rfl)))), rfl⟩
theorem zw_346 : (.methodLink "PlainSteps$Machine" 116 zy_Kept_keep : Cond) ∈ zq_W := List.mem_filter.mpr ⟨List.mem_append_right _ (List.mem_append_right _ (List.mem_append_right _ (List.mem_append_left _ (List.mem_of_getElem? (i := 106) rfl)))), rfl⟩
theorem zw_347 : (.instanceMethod zy_Kept_keep : Cond) ∈ zq_W := List.mem_filter.mpr ⟨List.mem_append_right _ (List.mem_append_right _ (List.mem_append_right _ (List.mem_append_left _ (List.mem_of_getElem? (i := 107) rfl)))), rfl⟩
theorem zw_348 : (.selects "PlainSteps$Kept" zy_Kept_keep zy_Kept_keep : Cond) ∈ zq_W := List.mem_filter.mpr ⟨List.mem_append_right _ (List.mem_append_right _ (List.mem_append_right _ (List.mem_append_left _ (List.mem_of_getElem? (i := 108) rfl)))), rfl⟩
theorem zw_349 : (.code zy_Kept_keep zb_Kept_keep 3 none : Cond) ∈ zq_W := List.mem_filter.mpr ⟨List.mem_append_right _ (List.mem_append_right _ (List.mem_append_right _ (List.mem_append_left _ (List.mem_of_getElem? (i := 109) rfl)))), rfl⟩
theorem zw_350 : (.methodLink "PlainSteps$Machine" 119 zy_Registers_put : Cond) ∈ zq_W := List.mem_filter.mpr ⟨List.mem_append_right _ (List.mem_append_right _ (List.mem_append_right _ (List.mem_append_left _ (List.mem_of_getElem? (i := 110) rfl)))), rfl⟩
theorem zw_351 : (.fieldLink "PlainSteps$Machine" 15 "PlainSteps$Machine" "halt" "I" : Cond) ∈ zq_W := List.mem_filter.mpr ⟨List.mem_append_right _ (List.mem_append_right _ (List.mem_append_left _ (List.mem_of_getElem? (i := 27) rfl))), rfl⟩
theorem zw_352 : (.fieldLink "PlainSteps$Machine" 126 "PlainSteps$Machine" "faultKind" "I" : Cond) ∈ zq_W := List.mem_filter.mpr ⟨List.mem_append_right _ (List.mem_append_right _ (List.mem_append_left _ (List.mem_of_getElem? (i := 29) rfl))), rfl⟩
theorem zw_353 : (.fieldLink "PlainSteps$Machine" 129 "PlainSteps$Machine" "faultPlace" "I" : Cond) ∈ zq_W := List.mem_filter.mpr ⟨List.mem_append_right _ (List.mem_append_right _ (List.mem_append_left _ (List.mem_of_getElem? (i := 31) rfl))), rfl⟩
theorem zw_354 : (.methodLink "PlainSteps$Machine" 85 zy_Registers_movePlace : Cond) ∈ zq_W := List.mem_filter.mpr ⟨List.mem_append_right _ (List.mem_append_right _ (List.mem_append_right _ (List.mem_append_left _ (List.mem_of_getElem? (i := 123) rfl)))), rfl⟩
theorem zw_355 : (.instanceMethod zy_Registers_movePlace : Cond) ∈ zq_W := List.mem_filter.mpr ⟨List.mem_append_right _ (List.mem_append_right _ (List.mem_append_right _ (List.mem_append_left _ (List.mem_of_getElem? (i := 124) rfl)))), rfl⟩
theorem zw_356 : (.selects "PlainSteps$Registers" zy_Registers_movePlace zy_Registers_movePlace : Cond) ∈ zq_W := List.mem_filter.mpr ⟨List.mem_append_right _ (List.mem_append_right _ (List.mem_append_right _ (List.mem_append_left _ (List.mem_of_getElem? (i := 125) rfl)))), rfl⟩
theorem zw_357 : (.code zy_Registers_movePlace zb_Registers_movePlace 2 none : Cond) ∈ zq_W := List.mem_filter.mpr ⟨List.mem_append_right _ (List.mem_append_right _ (List.mem_append_right _ (List.mem_append_left _ (List.mem_of_getElem? (i := 126) rfl)))), rfl⟩
theorem zw_358 : (.fieldLink "PlainSteps$Machine" 38 "PlainSteps$Machine" "work" "LPlainSteps$Work;" : Cond) ∈ zq_W := List.mem_filter.mpr ⟨List.mem_append_right _ (List.mem_append_right _ (List.mem_append_left _ (List.mem_of_getElem? (i := 24) rfl))), rfl⟩
theorem zw_359 : (.methodLink "PlainSteps$Machine" 51 zy_Lines_mostUrgent : Cond) ∈ zq_W := List.mem_filter.mpr ⟨List.mem_append_right _ (List.mem_append_right _ (List.mem_append_right _ (List.mem_append_left _ (List.mem_of_getElem? (i := 82) rfl)))), rfl⟩
theorem zw_360 : (.instanceMethod zy_Lines_mostUrgent : Cond) ∈ zq_W := List.mem_filter.mpr ⟨List.mem_append_right _ (List.mem_append_right _ (List.mem_append_right _ (List.mem_append_left _ (List.mem_of_getElem? (i := 83) rfl)))), rfl⟩
theorem zw_361 : (.selects "PlainSteps$Lines" zy_Lines_mostUrgent zy_Lines_mostUrgent : Cond) ∈ zq_W := List.mem_filter.mpr ⟨List.mem_append_right _ (List.mem_append_right _ (List.mem_append_right _ (List.mem_append_left _ (List.mem_of_getElem? (i := 84) rfl)))), rfl⟩
theorem zw_362 : (.code zy_Lines_mostUrgent zb_Lines_mostUrgent 5 (some .int) : Cond) ∈ zq_W := List.mem_filter.mpr ⟨List.mem_append_right _ (List.mem_append_right _ (List.mem_append_right _ (List.mem_append_left _ (List.mem_of_getElem? (i := 85) rfl)))), rfl⟩
theorem zw_363 : (.fieldLink "PlainSteps$Machine" 22 "PlainSteps$Machine" "bytes" "LPlainSteps$Bytes;" : Cond) ∈ zq_W := List.mem_filter.mpr ⟨List.mem_append_right _ (List.mem_append_right _ (List.mem_append_left _ (List.mem_of_getElem? (i := 20) rfl))), rfl⟩
theorem zw_364 : (.methodLink "PlainSteps$Machine" 67 zy_Bytes_hasWord : Cond) ∈ zq_W := List.mem_filter.mpr ⟨List.mem_append_right _ (List.mem_append_right _ (List.mem_append_right _ (List.mem_append_left _ (List.mem_of_getElem? (i := 114) rfl)))), rfl⟩
theorem zw_365 : (.methodLink "PlainSteps$Machine" 77 zy_Bytes_wordOf : Cond) ∈ zq_W := List.mem_filter.mpr ⟨List.mem_append_right _ (List.mem_append_right _ (List.mem_append_right _ (List.mem_append_left _ (List.mem_of_getElem? (i := 128) rfl)))), rfl⟩
theorem zw_366 : (.fieldLink "PlainSteps$Machine" 26 "PlainSteps$Machine" "program" "LPlainSteps$Program;" : Cond) ∈ zq_W := List.mem_filter.mpr ⟨List.mem_append_right _ (List.mem_append_right _ (List.mem_append_left _ (List.mem_of_getElem? (i := 21) rfl))), rfl⟩
theorem zw_367 : (.methodLink "PlainSteps$Machine" 80 zy_Program_find : Cond) ∈ zq_W := List.mem_filter.mpr ⟨List.mem_append_right _ (List.mem_append_right _ (List.mem_append_right _ (List.mem_append_left _ (List.mem_of_getElem? (i := 132) rfl)))), rfl⟩
theorem zw_368 : (.instanceMethod zy_Program_find : Cond) ∈ zq_W := List.mem_filter.mpr ⟨List.mem_append_right _ (List.mem_append_right _ (List.mem_append_right _ (List.mem_append_left _ (List.mem_of_getElem? (i := 133) rfl)))), rfl⟩
theorem zw_369 : (.selects "PlainSteps$Program" zy_Program_find zy_Program_find : Cond) ∈ zq_W := List.mem_filter.mpr ⟨List.mem_append_right _ (List.mem_append_right _ (List.mem_append_right _ (List.mem_append_left _ (List.mem_of_getElem? (i := 134) rfl)))), rfl⟩
theorem zw_370 : (.code zy_Program_find zb_Program_find 3 (some .int) : Cond) ∈ zq_W := List.mem_filter.mpr ⟨List.mem_append_right _ (List.mem_append_right _ (List.mem_append_right _ (List.mem_append_left _ (List.mem_of_getElem? (i := 135) rfl)))), rfl⟩
theorem zw_371 : (.methodLink "PlainSteps$Machine" 88 zy_Work_carryOut : Cond) ∈ zq_W := List.mem_filter.mpr ⟨List.mem_append_right _ (List.mem_append_right _ (List.mem_append_right _ (List.mem_append_left _ (List.mem_of_getElem? (i := 136) rfl)))), rfl⟩
theorem zw_372 : (.instanceMethod zy_Work_carryOut : Cond) ∈ zq_W := List.mem_filter.mpr ⟨List.mem_append_right _ (List.mem_append_right _ (List.mem_append_right _ (List.mem_append_left _ (List.mem_of_getElem? (i := 137) rfl)))), rfl⟩
theorem zw_373 : (.selects "PlainSteps$Work" zy_Work_carryOut zy_Work_carryOut : Cond) ∈ zq_W := List.mem_filter.mpr ⟨List.mem_append_right _ (List.mem_append_right _ (List.mem_append_right _ (List.mem_append_left _ (List.mem_of_getElem? (i := 138) rfl)))), rfl⟩
theorem zw_374 : (.code zy_Work_carryOut zb_Work_carryOut 7 (some .int) : Cond) ∈ zq_W := List.mem_filter.mpr ⟨List.mem_append_right _ (List.mem_append_right _ (List.mem_append_right _ (List.mem_append_left _ (List.mem_of_getElem? (i := 139) rfl)))), rfl⟩
theorem zw_375 : (.methodLink "PlainSteps$Machine" 73 zy_Machine_failWith : Cond) ∈ zq_W := List.mem_filter.mpr ⟨List.mem_append_right _ (List.mem_append_right _ (List.mem_append_right _ (List.mem_append_left _ (List.mem_of_getElem? (i := 119) rfl)))), rfl⟩
theorem zw_376 : (.instanceMethod zy_Machine_failWith : Cond) ∈ zq_W := List.mem_filter.mpr ⟨List.mem_append_right _ (List.mem_append_right _ (List.mem_append_right _ (List.mem_append_left _ (List.mem_of_getElem? (i := 121) rfl)))), rfl⟩
theorem zw_377 : (.selects "PlainSteps$Machine" zy_Machine_failWith zy_Machine_failWith : Cond) ∈ zq_W := List.mem_filter.mpr ⟨List.mem_append_left _ (List.mem_of_getElem? (i := 2) rfl), rfl⟩
theorem zw_378 : (.code zy_Machine_failWith zb_Machine_failWith 3 none : Cond) ∈ zq_W := List.mem_filter.mpr ⟨List.mem_append_right _ (List.mem_append_right _ (List.mem_append_right _ (List.mem_append_left _ (List.mem_of_getElem? (i := 122) rfl)))), rfl⟩
theorem zw_379 : (.methodLink "PlainSteps$Machine" 57 zy_Machine_interruptBy : Cond) ∈ zq_W := List.mem_filter.mpr ⟨List.mem_append_right _ (List.mem_append_right _ (List.mem_append_right _ (List.mem_append_left _ (List.mem_of_getElem? (i := 86) rfl)))), rfl⟩
theorem zw_380 : (.instanceMethod zy_Machine_interruptBy : Cond) ∈ zq_W := List.mem_filter.mpr ⟨List.mem_append_right _ (List.mem_append_right _ (List.mem_append_right _ (List.mem_append_left _ (List.mem_of_getElem? (i := 88) rfl)))), rfl⟩
theorem zw_381 : (.selects "PlainSteps$Machine" zy_Machine_interruptBy zy_Machine_interruptBy : Cond) ∈ zq_W := List.mem_filter.mpr ⟨List.mem_append_left _ (List.mem_of_getElem? (i := 1) rfl), rfl⟩
theorem zw_382 : (.code zy_Machine_interruptBy zb_Machine_interruptBy 2 none : Cond) ∈ zq_W := List.mem_filter.mpr ⟨List.mem_append_right _ (List.mem_append_right _ (List.mem_append_right _ (List.mem_append_left _ (List.mem_of_getElem? (i := 89) rfl)))), rfl⟩
theorem zw_383 : (.methodLink "PlainSteps$Machine" 98 zy_Program_is : Cond) ∈ zq_W := List.mem_filter.mpr ⟨List.mem_append_right _ (List.mem_append_right _ (List.mem_append_right _ (List.mem_append_right _ (List.mem_append_left _ (List.mem_of_getElem? (i := 21) rfl))))), rfl⟩
theorem zw_384 : (.methodLink "PlainSteps$Machine" 102 zy_Machine_settlePlace : Cond) ∈ zq_W := List.mem_filter.mpr ⟨List.mem_append_right _ (List.mem_append_right _ (List.mem_append_right _ (List.mem_append_right _ (List.mem_append_left _ (List.mem_of_getElem? (i := 22) rfl))))), rfl⟩
theorem zw_385 : (.instanceMethod zy_Machine_settlePlace : Cond) ∈ zq_W := List.mem_filter.mpr ⟨List.mem_append_right _ (List.mem_append_right _ (List.mem_append_right _ (List.mem_append_right _ (List.mem_append_left _ (List.mem_of_getElem? (i := 24) rfl))))), rfl⟩
theorem zw_386 : (.selects "PlainSteps$Machine" zy_Machine_settlePlace zy_Machine_settlePlace : Cond) ∈ zq_W := List.mem_filter.mpr ⟨List.mem_append_left _ (List.mem_of_getElem? (i := 13) rfl), rfl⟩
theorem zw_387 : (.code zy_Machine_settlePlace zb_Machine_settlePlace 4 none : Cond) ∈ zq_W := List.mem_filter.mpr ⟨List.mem_append_right _ (List.mem_append_right _ (List.mem_append_right _ (List.mem_append_right _ (List.mem_append_left _ (List.mem_of_getElem? (i := 25) rfl))))), rfl⟩
theorem zw_388 : (.fieldLink "PlainStepsModel" 107 "PlainStepsModel" "thrown" "I" : Cond) ∈ zq_W := List.mem_filter.mpr ⟨List.mem_append_right _ (List.mem_append_right _ (List.mem_append_right _ (List.mem_append_right _ (List.mem_append_left _ (List.mem_of_getElem? (i := 101) rfl))))), rfl⟩
theorem zw_389 : (.fieldLink "PlainStepsModel" 13 "PlainStepsModel" "width" "[I" : Cond) ∈ zq_W := List.mem_filter.mpr ⟨List.mem_append_right _ (List.mem_append_right _ (List.mem_append_right _ (List.mem_append_right _ (List.mem_append_left _ (List.mem_of_getElem? (i := 103) rfl))))), rfl⟩
theorem zw_390 : (.constantLong "PlainStepsModel" 110 (64) : Cond) ∈ zq_W := List.mem_filter.mpr ⟨List.mem_append_right _ (List.mem_append_right _ (List.mem_append_right _ (List.mem_append_right _ (List.mem_append_right _ (List.mem_of_getElem? (i := 26) rfl))))), rfl⟩
theorem zw_391 : (.methodLink "PlainStepsModel" 112 zy_M_in : Cond) ∈ zq_W := List.mem_filter.mpr ⟨List.mem_append_right _ (List.mem_append_right _ (List.mem_append_right _ (List.mem_append_right _ (List.mem_append_right _ (List.mem_of_getElem? (i := 27) rfl))))), rfl⟩
theorem zw_392 : (.static zy_M_in : Cond) ∈ zq_W := List.mem_filter.mpr ⟨List.mem_append_right _ (List.mem_append_right _ (List.mem_append_right _ (List.mem_append_right _ (List.mem_append_right _ (List.mem_of_getElem? (i := 28) rfl))))), rfl⟩
theorem zw_393 : (.initialized "PlainStepsModel" : Cond) ∈ zq_W := List.mem_filter.mpr ⟨List.mem_append_right _ (List.mem_append_left _ (List.mem_of_getElem? (i := 11) rfl)), rfl⟩
theorem zw_394 : (.code zy_M_in zb_M_in 6 (some .boolean) : Cond) ∈ zq_W := List.mem_filter.mpr ⟨List.mem_append_right _ (List.mem_append_right _ (List.mem_append_right _ (List.mem_append_right _ (List.mem_append_right _ (List.mem_of_getElem? (i := 29) rfl))))), rfl⟩
theorem zw_395 : (.fieldLink "PlainStepsModel" 7 "PlainStepsModel" "registers" "I" : Cond) ∈ zq_W := List.mem_filter.mpr ⟨List.mem_append_right _ (List.mem_append_right _ (List.mem_append_right _ (List.mem_append_right _ (List.mem_append_left _ (List.mem_of_getElem? (i := 102) rfl))))), rfl⟩
theorem zw_396 : (.methodLink "PlainStepsModel" 116 zy_M_goes : Cond) ∈ zq_W := List.mem_filter.mpr ⟨List.mem_append_right _ (List.mem_append_right _ (List.mem_append_right _ (List.mem_append_right _ (List.mem_append_right _ (List.mem_of_getElem? (i := 30) rfl))))), rfl⟩
theorem zw_397 : (.instanceMethod zy_M_goes : Cond) ∈ zq_W := List.mem_filter.mpr ⟨List.mem_append_right _ (List.mem_append_right _ (List.mem_append_right _ (List.mem_append_right _ (List.mem_append_right _ (List.mem_of_getElem? (i := 32) rfl))))), rfl⟩
theorem zw_398 : (.selects "PlainStepsModel" zy_M_goes zy_M_goes : Cond) ∈ zq_W := List.mem_filter.mpr ⟨List.mem_append_left _ (List.mem_of_getElem? (i := 14) rfl), rfl⟩
theorem zw_399 : (.code zy_M_goes zb_M_goes 3 (some .boolean) : Cond) ∈ zq_W := List.mem_filter.mpr ⟨List.mem_append_right _ (List.mem_append_right _ (List.mem_append_right _ (List.mem_append_right _ (List.mem_append_right _ (List.mem_of_getElem? (i := 33) rfl))))), rfl⟩
theorem zw_400 : (.fieldLink "PlainStepsModel" 17 "PlainStepsModel" "value" "[J" : Cond) ∈ zq_W := List.mem_filter.mpr ⟨List.mem_append_right _ (List.mem_append_right _ (List.mem_append_right _ (List.mem_append_right _ (List.mem_append_left _ (List.mem_of_getElem? (i := 104) rfl))))), rfl⟩
theorem zw_401 : (.fieldLink "PlainStepsModel" 27 "PlainStepsModel" "marked" "[Z" : Cond) ∈ zq_W := List.mem_filter.mpr ⟨List.mem_append_right _ (List.mem_append_right _ (List.mem_append_right _ (List.mem_append_right _ (List.mem_append_left _ (List.mem_of_getElem? (i := 107) rfl))))), rfl⟩
theorem zw_402 : (.fieldLink "PlainStepsModel" 120 "PlainStepsModel" "constants" "I" : Cond) ∈ zq_W := List.mem_filter.mpr ⟨List.mem_append_right _ (List.mem_append_right _ (List.mem_append_right _ (List.mem_append_right _ (List.mem_append_left _ (List.mem_of_getElem? (i := 112) rfl))))), rfl⟩
theorem zw_403 : (.fieldLink "PlainStepsModel" 44 "PlainStepsModel" "constant" "[J" : Cond) ∈ zq_W := List.mem_filter.mpr ⟨List.mem_append_right _ (List.mem_append_right _ (List.mem_append_right _ (List.mem_append_right _ (List.mem_append_left _ (List.mem_of_getElem? (i := 116) rfl))))), rfl⟩
theorem zw_404 : (.constantLong "PlainStepsModel" 123 (15) : Cond) ∈ zq_W := List.mem_filter.mpr ⟨List.mem_append_right _ (List.mem_append_right _ (List.mem_append_right _ (List.mem_append_right _ (List.mem_append_right _ (List.mem_of_getElem? (i := 42) rfl))))), rfl⟩
theorem zw_405 : (.fieldLink "PlainStepsModel" 125 "PlainStepsModel" "fields" "I" : Cond) ∈ zq_W := List.mem_filter.mpr ⟨List.mem_append_right _ (List.mem_append_right _ (List.mem_append_right _ (List.mem_append_right _ (List.mem_append_left _ (List.mem_of_getElem? (i := 113) rfl))))), rfl⟩
theorem zw_406 : (.fieldLink "PlainStepsModel" 47 "PlainStepsModel" "from" "[I" : Cond) ∈ zq_W := List.mem_filter.mpr ⟨List.mem_append_right _ (List.mem_append_right _ (List.mem_append_right _ (List.mem_append_right _ (List.mem_append_left _ (List.mem_of_getElem? (i := 117) rfl))))), rfl⟩
theorem zw_407 : (.fieldLink "PlainStepsModel" 50 "PlainStepsModel" "to" "[I" : Cond) ∈ zq_W := List.mem_filter.mpr ⟨List.mem_append_right _ (List.mem_append_right _ (List.mem_append_right _ (List.mem_append_right _ (List.mem_append_left _ (List.mem_of_getElem? (i := 118) rfl))))), rfl⟩
theorem zw_408 : (.fieldLink "PlainStepsModel" 53 "PlainStepsModel" "signed" "[Z" : Cond) ∈ zq_W := List.mem_filter.mpr ⟨List.mem_append_right _ (List.mem_append_right _ (List.mem_append_right _ (List.mem_append_right _ (List.mem_append_left _ (List.mem_of_getElem? (i := 119) rfl))))), rfl⟩
theorem zw_409 : (.constantLong "PlainStepsModel" 128 (32) : Cond) ∈ zq_W := List.mem_filter.mpr ⟨List.mem_append_right _ (List.mem_append_right _ (List.mem_append_right _ (List.mem_append_right _ (List.mem_append_right _ (List.mem_of_getElem? (i := 52) rfl))))), rfl⟩
theorem zw_410 : (.constantLong "PlainStepsModel" 130 (22) : Cond) ∈ zq_W := List.mem_filter.mpr ⟨List.mem_append_right _ (List.mem_append_right _ (List.mem_append_right _ (List.mem_append_right _ (List.mem_append_right _ (List.mem_of_getElem? (i := 47) rfl))))), rfl⟩
theorem zw_411 : (.methodLink "PlainStepsModel" 132 zy_M_isOperand : Cond) ∈ zq_W := List.mem_filter.mpr ⟨List.mem_append_right _ (List.mem_append_right _ (List.mem_append_right _ (List.mem_append_right _ (List.mem_append_right _ (List.mem_of_getElem? (i := 48) rfl))))), rfl⟩
theorem zw_412 : (.instanceMethod zy_M_isOperand : Cond) ∈ zq_W := List.mem_filter.mpr ⟨List.mem_append_right _ (List.mem_append_right _ (List.mem_append_right _ (List.mem_append_right _ (List.mem_append_right _ (List.mem_of_getElem? (i := 50) rfl))))), rfl⟩
theorem zw_413 : (.selects "PlainStepsModel" zy_M_isOperand zy_M_isOperand : Cond) ∈ zq_W := List.mem_filter.mpr ⟨List.mem_append_left _ (List.mem_of_getElem? (i := 15) rfl), rfl⟩
theorem zw_414 : (.code zy_M_isOperand zb_M_isOperand 2 (some .boolean) : Cond) ∈ zq_W := List.mem_filter.mpr ⟨List.mem_append_right _ (List.mem_append_right _ (List.mem_append_right _ (List.mem_append_right _ (List.mem_append_right _ (List.mem_of_getElem? (i := 51) rfl))))), rfl⟩
theorem zw_415 : (.fieldLink "PlainStepsModel" 136 "PlainStepsModel" "transfers" "I" : Cond) ∈ zq_W := List.mem_filter.mpr ⟨List.mem_append_right _ (List.mem_append_right _ (List.mem_append_right _ (List.mem_append_right _ (List.mem_append_left _ (List.mem_of_getElem? (i := 114) rfl))))), rfl⟩
theorem zw_416 : (.fieldLink "PlainStepsModel" 56 "PlainStepsModel" "op" "[I" : Cond) ∈ zq_W := List.mem_filter.mpr ⟨List.mem_append_right _ (List.mem_append_right _ (List.mem_append_right _ (List.mem_append_right _ (List.mem_append_left _ (List.mem_of_getElem? (i := 120) rfl))))), rfl⟩
theorem zw_417 : (.fieldLink "PlainStepsModel" 59 "PlainStepsModel" "first" "[I" : Cond) ∈ zq_W := List.mem_filter.mpr ⟨List.mem_append_right _ (List.mem_append_right _ (List.mem_append_right _ (List.mem_append_right _ (List.mem_append_left _ (List.mem_of_getElem? (i := 121) rfl))))), rfl⟩
theorem zw_418 : (.fieldLink "PlainStepsModel" 62 "PlainStepsModel" "second" "[I" : Cond) ∈ zq_W := List.mem_filter.mpr ⟨List.mem_append_right _ (List.mem_append_right _ (List.mem_append_right _ (List.mem_append_right _ (List.mem_append_left _ (List.mem_of_getElem? (i := 122) rfl))))), rfl⟩
theorem zw_419 : (.fieldLink "PlainStepsModel" 65 "PlainStepsModel" "target" "[I" : Cond) ∈ zq_W := List.mem_filter.mpr ⟨List.mem_append_right _ (List.mem_append_right _ (List.mem_append_right _ (List.mem_append_right _ (List.mem_append_left _ (List.mem_of_getElem? (i := 123) rfl))))), rfl⟩
theorem zw_420 : (.constantLong "PlainStepsModel" 139 (65535) : Cond) ∈ zq_W := List.mem_filter.mpr ⟨List.mem_append_right _ (List.mem_append_right _ (List.mem_append_right _ (List.mem_append_right _ (List.mem_append_right _ (List.mem_of_getElem? (i := 57) rfl))))), rfl⟩
theorem zw_421 : (.constantLong "PlainStepsModel" 141 (7) : Cond) ∈ zq_W := List.mem_filter.mpr ⟨List.mem_append_right _ (List.mem_append_right _ (List.mem_append_right _ (List.mem_append_right _ (List.mem_append_right _ (List.mem_of_getElem? (i := 58) rfl))))), rfl⟩
theorem zw_422 : (.fieldLink "PlainStepsModel" 143 "PlainStepsModel" "instructions" "I" : Cond) ∈ zq_W := List.mem_filter.mpr ⟨List.mem_append_right _ (List.mem_append_right _ (List.mem_append_right _ (List.mem_append_right _ (List.mem_append_left _ (List.mem_of_getElem? (i := 115) rfl))))), rfl⟩
theorem zw_423 : (.fieldLink "PlainStepsModel" 68 "PlainStepsModel" "mask" "[I" : Cond) ∈ zq_W := List.mem_filter.mpr ⟨List.mem_append_right _ (List.mem_append_right _ (List.mem_append_right _ (List.mem_append_right _ (List.mem_append_left _ (List.mem_of_getElem? (i := 124) rfl))))), rfl⟩
theorem zw_424 : (.fieldLink "PlainStepsModel" 71 "PlainStepsModel" "pattern" "[I" : Cond) ∈ zq_W := List.mem_filter.mpr ⟨List.mem_append_right _ (List.mem_append_right _ (List.mem_append_right _ (List.mem_append_right _ (List.mem_append_left _ (List.mem_of_getElem? (i := 125) rfl))))), rfl⟩
theorem zw_425 : (.fieldLink "PlainStepsModel" 74 "PlainStepsModel" "how" "[I" : Cond) ∈ zq_W := List.mem_filter.mpr ⟨List.mem_append_right _ (List.mem_append_right _ (List.mem_append_right _ (List.mem_append_right _ (List.mem_append_left _ (List.mem_of_getElem? (i := 126) rfl))))), rfl⟩
theorem zw_426 : (.fieldLink "PlainStepsModel" 77 "PlainStepsModel" "begin" "[I" : Cond) ∈ zq_W := List.mem_filter.mpr ⟨List.mem_append_right _ (List.mem_append_right _ (List.mem_append_right _ (List.mem_append_right _ (List.mem_append_left _ (List.mem_of_getElem? (i := 127) rfl))))), rfl⟩
theorem zw_427 : (.constantLong "PlainStepsModel" 146 (4095) : Cond) ∈ zq_W := List.mem_filter.mpr ⟨List.mem_append_right _ (List.mem_append_right _ (List.mem_append_right _ (List.mem_append_right _ (List.mem_append_right _ (List.mem_of_getElem? (i := 63) rfl))))), rfl⟩
theorem zw_428 : (.constantLong "PlainStepsModel" 148 (255) : Cond) ∈ zq_W := List.mem_filter.mpr ⟨List.mem_append_right _ (List.mem_append_right _ (List.mem_append_right _ (List.mem_append_right _ (List.mem_append_right _ (List.mem_of_getElem? (i := 64) rfl))))), rfl⟩
theorem zw_429 : (.fieldLink "PlainStepsModel" 37 "PlainStepsModel" "memory" "[B" : Cond) ∈ zq_W := List.mem_filter.mpr ⟨List.mem_append_right _ (List.mem_append_right _ (List.mem_append_right _ (List.mem_append_right _ (List.mem_append_left _ (List.mem_of_getElem? (i := 110) rfl))))), rfl⟩
theorem zw_430 : (.fieldLink "PlainStepsModel" 150 "PlainStepsModel" "kept" "I" : Cond) ∈ zq_W := List.mem_filter.mpr ⟨List.mem_append_right _ (List.mem_append_right _ (List.mem_append_right _ (List.mem_append_right _ (List.mem_append_left _ (List.mem_of_getElem? (i := 131) rfl))))), rfl⟩
theorem zw_431 : (.fieldLink "PlainStepsModel" 86 "PlainStepsModel" "keptPlace" "[I" : Cond) ∈ zq_W := List.mem_filter.mpr ⟨List.mem_append_right _ (List.mem_append_right _ (List.mem_append_right _ (List.mem_append_right _ (List.mem_append_left _ (List.mem_of_getElem? (i := 134) rfl))))), rfl⟩
theorem zw_432 : (.fieldLink "PlainStepsModel" 89 "PlainStepsModel" "keptLevel" "[I" : Cond) ∈ zq_W := List.mem_filter.mpr ⟨List.mem_append_right _ (List.mem_append_right _ (List.mem_append_right _ (List.mem_append_right _ (List.mem_append_left _ (List.mem_of_getElem? (i := 135) rfl))))), rfl⟩
theorem zw_433 : (.fieldLink "PlainStepsModel" 156 "PlainStepsModel" "level" "I" : Cond) ∈ zq_W := List.mem_filter.mpr ⟨List.mem_append_right _ (List.mem_append_right _ (List.mem_append_right _ (List.mem_append_right _ (List.mem_append_left _ (List.mem_of_getElem? (i := 130) rfl))))), rfl⟩
theorem zw_434 : (.fieldLink "PlainStepsModel" 153 "PlainStepsModel" "halted" "I" : Cond) ∈ zq_W := List.mem_filter.mpr ⟨List.mem_append_right _ (List.mem_append_right _ (List.mem_append_right _ (List.mem_append_right _ (List.mem_append_left _ (List.mem_of_getElem? (i := 149) rfl))))), rfl⟩
theorem zw_435 : (.fieldLink "PlainStepsModel" 104 "PlainStepsModel" "count" "[I" : Cond) ∈ zq_W := List.mem_filter.mpr ⟨List.mem_append_right _ (List.mem_append_right _ (List.mem_append_right _ (List.mem_append_right _ (List.mem_append_left _ (List.mem_of_getElem? (i := 152) rfl))))), rfl⟩
theorem zw_436 : (.fieldLink "PlainStepsModel" 159 "PlainStepsModel" "latest" "I" : Cond) ∈ zq_W := List.mem_filter.mpr ⟨List.mem_append_right _ (List.mem_append_right _ (List.mem_append_right _ (List.mem_append_right _ (List.mem_append_left _ (List.mem_of_getElem? (i := 150) rfl))))), rfl⟩
theorem zw_437 : (.fieldLink "PlainStepsModel" 162 "PlainStepsModel" "stands" "I" : Cond) ∈ zq_W := List.mem_filter.mpr ⟨List.mem_append_right _ (List.mem_append_right _ (List.mem_append_right _ (List.mem_append_right _ (List.mem_append_left _ (List.mem_of_getElem? (i := 137) rfl))))), rfl⟩
theorem zw_438 : (.fieldLink "PlainStepsModel" 165 "PlainStepsModel" "latestPlace" "I" : Cond) ∈ zq_W := List.mem_filter.mpr ⟨List.mem_append_right _ (List.mem_append_right _ (List.mem_append_right _ (List.mem_append_right _ (List.mem_append_left _ (List.mem_of_getElem? (i := 151) rfl))))), rfl⟩
theorem zw_439 : (.fieldLink "PlainStepsModel" 168 "PlainStepsModel" "waits" "Z" : Cond) ∈ zq_W := List.mem_filter.mpr ⟨List.mem_append_right _ (List.mem_append_right _ (List.mem_append_right _ (List.mem_append_right _ (List.mem_append_left _ (List.mem_of_getElem? (i := 142) rfl))))), rfl⟩
theorem zw_440 : (.methodLink "PlainStepsModel" 172 zy_M_keep : Cond) ∈ zq_W := List.mem_filter.mpr ⟨List.mem_append_right _ (List.mem_append_right _ (List.mem_append_right _ (List.mem_append_right _ (List.mem_append_right _ (List.mem_of_getElem? (i := 90) rfl))))), rfl⟩
theorem zw_441 : (.instanceMethod zy_M_keep : Cond) ∈ zq_W := List.mem_filter.mpr ⟨List.mem_append_right _ (List.mem_append_right _ (List.mem_append_right _ (List.mem_append_right _ (List.mem_append_right _ (List.mem_of_getElem? (i := 92) rfl))))), rfl⟩
theorem zw_442 : (.selects "PlainStepsModel" zy_M_keep zy_M_keep : Cond) ∈ zq_W := List.mem_filter.mpr ⟨List.mem_append_left _ (List.mem_of_getElem? (i := 20) rfl), rfl⟩
theorem zw_443 : (.code zy_M_keep zb_M_keep 4 (some .boolean) : Cond) ∈ zq_W := List.mem_filter.mpr ⟨List.mem_append_right _ (List.mem_append_right _ (List.mem_append_right _ (List.mem_append_right _ (List.mem_append_right _ (List.mem_of_getElem? (i := 93) rfl))))), rfl⟩
theorem zw_444 : (.fieldLink "PlainStepsModel" 80 "PlainStepsModel" "on" "[Z" : Cond) ∈ zq_W := List.mem_filter.mpr ⟨List.mem_append_right _ (List.mem_append_right _ (List.mem_append_right _ (List.mem_append_right _ (List.mem_append_left _ (List.mem_of_getElem? (i := 128) rfl))))), rfl⟩
theorem zw_445 : (.fieldLink "PlainStepsModel" 83 "PlainStepsModel" "rank" "[I" : Cond) ∈ zq_W := List.mem_filter.mpr ⟨List.mem_append_right _ (List.mem_append_right _ (List.mem_append_right _ (List.mem_append_right _ (List.mem_append_left _ (List.mem_of_getElem? (i := 129) rfl))))), rfl⟩
theorem zw_446 : (.fieldLink "PlainStepsModel" 179 "PlainStepsModel" "word" "I" : Cond) ∈ zq_W := List.mem_filter.mpr ⟨List.mem_append_right _ (List.mem_append_right _ (List.mem_append_right _ (List.mem_append_right _ (List.mem_append_left _ (List.mem_of_getElem? (i := 136) rfl))))), rfl⟩
theorem zw_447 : (.methodLink "PlainStepsModel" 176 zy_M_isParallel : Cond) ∈ zq_W := List.mem_filter.mpr ⟨List.mem_append_right _ (List.mem_append_right _ (List.mem_append_right _ (List.mem_append_right _ (List.mem_append_right _ (List.mem_of_getElem? (i := 115) rfl))))), rfl⟩
theorem zw_448 : (.instanceMethod zy_M_isParallel : Cond) ∈ zq_W := List.mem_filter.mpr ⟨List.mem_append_right _ (List.mem_append_right _ (List.mem_append_right _ (List.mem_append_right _ (List.mem_append_right _ (List.mem_of_getElem? (i := 117) rfl))))), rfl⟩
theorem zw_449 : (.selects "PlainStepsModel" zy_M_isParallel zy_M_isParallel : Cond) ∈ zq_W := List.mem_filter.mpr ⟨List.mem_append_left _ (List.mem_of_getElem? (i := 26) rfl), rfl⟩
theorem zw_450 : (.code zy_M_isParallel zb_M_isParallel 2 (some .boolean) : Cond) ∈ zq_W := List.mem_filter.mpr ⟨List.mem_append_right _ (List.mem_append_right _ (List.mem_append_right _ (List.mem_append_right _ (List.mem_append_right _ (List.mem_of_getElem? (i := 118) rfl))))), rfl⟩
theorem zw_451 : (.fieldLink "PlainStepsModel" 21 "PlainStepsModel" "before" "[J" : Cond) ∈ zq_W := List.mem_filter.mpr ⟨List.mem_append_right _ (List.mem_append_right _ (List.mem_append_right _ (List.mem_append_right _ (List.mem_append_left _ (List.mem_of_getElem? (i := 105) rfl))))), rfl⟩
theorem zw_452 : (.constantLong "PlainStepsModel" 182 (-1) : Cond) ∈ zq_W := List.mem_filter.mpr ⟨List.mem_append_right _ (List.mem_append_right _ (List.mem_append_right _ (List.mem_append_right _ (List.mem_append_right _ (List.mem_of_getElem? (i := 119) rfl))))), rfl⟩
theorem zw_453 : (.fieldLink "PlainStepsModel" 31 "PlainStepsModel" "markedBefore" "[Z" : Cond) ∈ zq_W := List.mem_filter.mpr ⟨List.mem_append_right _ (List.mem_append_right _ (List.mem_append_right _ (List.mem_append_right _ (List.mem_append_left _ (List.mem_of_getElem? (i := 108) rfl))))), rfl⟩
theorem zw_454 : (.fieldLink "PlainStepsModel" 184 "PlainStepsModel" "wrote" "Z" : Cond) ∈ zq_W := List.mem_filter.mpr ⟨List.mem_append_right _ (List.mem_append_right _ (List.mem_append_right _ (List.mem_append_right _ (List.mem_append_left _ (List.mem_of_getElem? (i := 141) rfl))))), rfl⟩
theorem zw_455 : (.fieldLink "PlainStepsModel" 92 "PlainStepsModel" "writeTo" "[I" : Cond) ∈ zq_W := List.mem_filter.mpr ⟨List.mem_append_right _ (List.mem_append_right _ (List.mem_append_right _ (List.mem_append_right _ (List.mem_append_left _ (List.mem_of_getElem? (i := 145) rfl))))), rfl⟩
theorem zw_456 : (.fieldLink "PlainStepsModel" 187 "PlainStepsModel" "writes" "I" : Cond) ∈ zq_W := List.mem_filter.mpr ⟨List.mem_append_right _ (List.mem_append_right _ (List.mem_append_right _ (List.mem_append_right _ (List.mem_append_left _ (List.mem_of_getElem? (i := 144) rfl))))), rfl⟩
theorem zw_457 : (.fieldLink "PlainStepsModel" 95 "PlainStepsModel" "writeAt" "[I" : Cond) ∈ zq_W := List.mem_filter.mpr ⟨List.mem_append_right _ (List.mem_append_right _ (List.mem_append_right _ (List.mem_append_right _ (List.mem_append_left _ (List.mem_of_getElem? (i := 146) rfl))))), rfl⟩
theorem zw_458 : (.fieldLink "PlainStepsModel" 98 "PlainStepsModel" "writeValue" "[J" : Cond) ∈ zq_W := List.mem_filter.mpr ⟨List.mem_append_right _ (List.mem_append_right _ (List.mem_append_right _ (List.mem_append_right _ (List.mem_append_left _ (List.mem_of_getElem? (i := 147) rfl))))), rfl⟩
theorem zw_459 : (.fieldLink "PlainStepsModel" 101 "PlainStepsModel" "writeMark" "[Z" : Cond) ∈ zq_W := List.mem_filter.mpr ⟨List.mem_append_right _ (List.mem_append_right _ (List.mem_append_right _ (List.mem_append_right _ (List.mem_append_left _ (List.mem_of_getElem? (i := 148) rfl))))), rfl⟩
theorem zw_460 : (.methodLink "PlainStepsModel" 190 zy_M_cut : Cond) ∈ zq_W := List.mem_filter.mpr ⟨List.mem_append_right _ (List.mem_append_right _ (List.mem_append_right _ (List.mem_append_right _ (List.mem_append_right _ (List.mem_of_getElem? (i := 167) rfl))))), rfl⟩
theorem zw_461 : (.instanceMethod zy_M_cut : Cond) ∈ zq_W := List.mem_filter.mpr ⟨List.mem_append_right _ (List.mem_append_right _ (List.mem_append_right _ (List.mem_append_right _ (List.mem_append_right _ (List.mem_of_getElem? (i := 169) rfl))))), rfl⟩
theorem zw_462 : (.selects "PlainStepsModel" zy_M_cut zy_M_cut : Cond) ∈ zq_W := List.mem_filter.mpr ⟨List.mem_append_left _ (List.mem_of_getElem? (i := 36) rfl), rfl⟩
theorem zw_463 : (.code zy_M_cut zb_M_cut 4 (some .long) : Cond) ∈ zq_W := List.mem_filter.mpr ⟨List.mem_append_right _ (List.mem_append_right _ (List.mem_append_right _ (List.mem_append_right _ (List.mem_append_right _ (List.mem_of_getElem? (i := 170) rfl))))), rfl⟩
theorem zw_464 : (.methodLink "PlainStepsModel" 198 zy_M_setRegister : Cond) ∈ zq_W := List.mem_filter.mpr ⟨List.mem_append_right _ (List.mem_append_right _ (List.mem_append_right _ (List.mem_append_right _ (List.mem_append_right _ (List.mem_of_getElem? (i := 171) rfl))))), rfl⟩
theorem zw_465 : (.instanceMethod zy_M_setRegister : Cond) ∈ zq_W := List.mem_filter.mpr ⟨List.mem_append_right _ (List.mem_append_right _ (List.mem_append_right _ (List.mem_append_right _ (List.mem_append_right _ (List.mem_of_getElem? (i := 173) rfl))))), rfl⟩
theorem zw_466 : (.selects "PlainStepsModel" zy_M_setRegister zy_M_setRegister : Cond) ∈ zq_W := List.mem_filter.mpr ⟨List.mem_append_left _ (List.mem_of_getElem? (i := 37) rfl), rfl⟩
theorem zw_467 : (.code zy_M_setRegister zb_M_setRegister 5 none : Cond) ∈ zq_W := List.mem_filter.mpr ⟨List.mem_append_right _ (List.mem_append_right _ (List.mem_append_right _ (List.mem_append_right _ (List.mem_append_right _ (List.mem_of_getElem? (i := 174) rfl))))), rfl⟩
theorem zw_468 : (.methodLink "PlainStepsModel" 194 zy_M_later : Cond) ∈ zq_W := List.mem_filter.mpr ⟨List.mem_append_right _ (List.mem_append_right _ (List.mem_append_right _ (List.mem_append_right _ (List.mem_append_right _ (List.mem_of_getElem? (i := 128) rfl))))), rfl⟩
theorem zw_469 : (.instanceMethod zy_M_later : Cond) ∈ zq_W := List.mem_filter.mpr ⟨List.mem_append_right _ (List.mem_append_right _ (List.mem_append_right _ (List.mem_append_right _ (List.mem_append_right _ (List.mem_of_getElem? (i := 130) rfl))))), rfl⟩
theorem zw_470 : (.selects "PlainStepsModel" zy_M_later zy_M_later : Cond) ∈ zq_W := List.mem_filter.mpr ⟨List.mem_append_left _ (List.mem_of_getElem? (i := 29) rfl), rfl⟩
theorem zw_471 : (.code zy_M_later zb_M_later 6 none : Cond) ∈ zq_W := List.mem_filter.mpr ⟨List.mem_append_right _ (List.mem_append_right _ (List.mem_append_right _ (List.mem_append_right _ (List.mem_append_right _ (List.mem_of_getElem? (i := 131) rfl))))), rfl⟩
theorem zw_472 : (.methodLink "PlainStepsModel" 202 zy_M_setMemory : Cond) ∈ zq_W := List.mem_filter.mpr ⟨List.mem_append_right _ (List.mem_append_right _ (List.mem_append_right _ (List.mem_append_right _ (List.mem_append_right _ (List.mem_of_getElem? (i := 132) rfl))))), rfl⟩
theorem zw_473 : (.instanceMethod zy_M_setMemory : Cond) ∈ zq_W := List.mem_filter.mpr ⟨List.mem_append_right _ (List.mem_append_right _ (List.mem_append_right _ (List.mem_append_right _ (List.mem_append_right _ (List.mem_of_getElem? (i := 134) rfl))))), rfl⟩
theorem zw_474 : (.selects "PlainStepsModel" zy_M_setMemory zy_M_setMemory : Cond) ∈ zq_W := List.mem_filter.mpr ⟨List.mem_append_left _ (List.mem_of_getElem? (i := 30) rfl), rfl⟩
theorem zw_475 : (.code zy_M_setMemory zb_M_setMemory 5 none : Cond) ∈ zq_W := List.mem_filter.mpr ⟨List.mem_append_right _ (List.mem_append_right _ (List.mem_append_right _ (List.mem_append_right _ (List.mem_append_right _ (List.mem_of_getElem? (i := 135) rfl))))), rfl⟩
theorem zw_476 : (.constantLong "PlainStepsModel" 206 (-9223372036854775808) : Cond) ∈ zq_W := List.mem_filter.mpr ⟨List.mem_append_right _ (List.mem_append_right _ (List.mem_append_right _ (List.mem_append_right _ (List.mem_append_right _ (List.mem_of_getElem? (i := 161) rfl))))), rfl⟩
theorem zw_477 : (.methodLink "PlainStepsModel" 208 zy_M_isLess : Cond) ∈ zq_W := List.mem_filter.mpr ⟨List.mem_append_right _ (List.mem_append_right _ (List.mem_append_right _ (List.mem_append_right _ (List.mem_append_right _ (List.mem_of_getElem? (i := 158) rfl))))), rfl⟩
theorem zw_478 : (.static zy_M_isLess : Cond) ∈ zq_W := List.mem_filter.mpr ⟨List.mem_append_right _ (List.mem_append_right _ (List.mem_append_right _ (List.mem_append_right _ (List.mem_append_right _ (List.mem_of_getElem? (i := 159) rfl))))), rfl⟩
theorem zw_479 : (.code zy_M_isLess zb_M_isLess 4 (some .boolean) : Cond) ∈ zq_W := List.mem_filter.mpr ⟨List.mem_append_right _ (List.mem_append_right _ (List.mem_append_right _ (List.mem_append_right _ (List.mem_append_right _ (List.mem_of_getElem? (i := 160) rfl))))), rfl⟩
theorem zw_480 : (.methodLink "PlainStepsModel" 212 zy_M_quotient : Cond) ∈ zq_W := List.mem_filter.mpr ⟨List.mem_append_right _ (List.mem_append_right _ (List.mem_append_right _ (List.mem_append_right _ (List.mem_append_right _ (List.mem_of_getElem? (i := 155) rfl))))), rfl⟩
theorem zw_481 : (.static zy_M_quotient : Cond) ∈ zq_W := List.mem_filter.mpr ⟨List.mem_append_right _ (List.mem_append_right _ (List.mem_append_right _ (List.mem_append_right _ (List.mem_append_right _ (List.mem_of_getElem? (i := 156) rfl))))), rfl⟩
theorem zw_482 : (.code zy_M_quotient zb_M_quotient 8 (some .long) : Cond) ∈ zq_W := List.mem_filter.mpr ⟨List.mem_append_right _ (List.mem_append_right _ (List.mem_append_right _ (List.mem_append_right _ (List.mem_append_right _ (List.mem_of_getElem? (i := 157) rfl))))), rfl⟩
theorem zw_483 : (.constantLong "PlainStepsModel" 216 (63) : Cond) ∈ zq_W := List.mem_filter.mpr ⟨List.mem_append_right _ (List.mem_append_right _ (List.mem_append_right _ (List.mem_append_right _ (List.mem_append_right _ (List.mem_of_getElem? (i := 162) rfl))))), rfl⟩
theorem zw_484 : (.methodLink "PlainStepsModel" 218 zy_M_isMarked : Cond) ∈ zq_W := List.mem_filter.mpr ⟨List.mem_append_right _ (List.mem_append_right _ (List.mem_append_right _ (List.mem_append_right _ (List.mem_append_right _ (List.mem_of_getElem? (i := 148) rfl))))), rfl⟩
theorem zw_485 : (.instanceMethod zy_M_isMarked : Cond) ∈ zq_W := List.mem_filter.mpr ⟨List.mem_append_right _ (List.mem_append_right _ (List.mem_append_right _ (List.mem_append_right _ (List.mem_append_right _ (List.mem_of_getElem? (i := 150) rfl))))), rfl⟩
theorem zw_486 : (.selects "PlainStepsModel" zy_M_isMarked zy_M_isMarked : Cond) ∈ zq_W := List.mem_filter.mpr ⟨List.mem_append_left _ (List.mem_of_getElem? (i := 34) rfl), rfl⟩
theorem zw_487 : (.code zy_M_isMarked zb_M_isMarked 3 (some .boolean) : Cond) ∈ zq_W := List.mem_filter.mpr ⟨List.mem_append_right _ (List.mem_append_right _ (List.mem_append_right _ (List.mem_append_right _ (List.mem_append_right _ (List.mem_of_getElem? (i := 151) rfl))))), rfl⟩
theorem zw_488 : (.fieldLink "PlainStepsModel" 222 "PlainStepsModel" "fault" "I" : Cond) ∈ zq_W := List.mem_filter.mpr ⟨List.mem_append_right _ (List.mem_append_right _ (List.mem_append_right _ (List.mem_append_right _ (List.mem_append_left _ (List.mem_of_getElem? (i := 138) rfl))))), rfl⟩
theorem zw_489 : (.methodLink "PlainStepsModel" 232 zy_M_isThere : Cond) ∈ zq_W := List.mem_filter.mpr ⟨List.mem_append_right _ (List.mem_append_right _ (List.mem_append_right _ (List.mem_append_right _ (List.mem_append_right _ (List.mem_of_getElem? (i := 124) rfl))))), rfl⟩
theorem zw_490 : (.instanceMethod zy_M_isThere : Cond) ∈ zq_W := List.mem_filter.mpr ⟨List.mem_append_right _ (List.mem_append_right _ (List.mem_append_right _ (List.mem_append_right _ (List.mem_append_right _ (List.mem_of_getElem? (i := 126) rfl))))), rfl⟩
theorem zw_491 : (.selects "PlainStepsModel" zy_M_isThere zy_M_isThere : Cond) ∈ zq_W := List.mem_filter.mpr ⟨List.mem_append_left _ (List.mem_of_getElem? (i := 28) rfl), rfl⟩
theorem zw_492 : (.code zy_M_isThere zb_M_isThere 4 (some .boolean) : Cond) ∈ zq_W := List.mem_filter.mpr ⟨List.mem_append_right _ (List.mem_append_right _ (List.mem_append_right _ (List.mem_append_right _ (List.mem_append_right _ (List.mem_of_getElem? (i := 127) rfl))))), rfl⟩
theorem zw_493 : (.methodLink "PlainStepsModel" 229 zy_M_result : Cond) ∈ zq_W := List.mem_filter.mpr ⟨List.mem_append_right _ (List.mem_append_right _ (List.mem_append_right _ (List.mem_append_right _ (List.mem_append_right _ (List.mem_of_getElem? (i := 163) rfl))))), rfl⟩
theorem zw_494 : (.instanceMethod zy_M_result : Cond) ∈ zq_W := List.mem_filter.mpr ⟨List.mem_append_right _ (List.mem_append_right _ (List.mem_append_right _ (List.mem_append_right _ (List.mem_append_right _ (List.mem_of_getElem? (i := 165) rfl))))), rfl⟩
theorem zw_495 : (.selects "PlainStepsModel" zy_M_result zy_M_result : Cond) ∈ zq_W := List.mem_filter.mpr ⟨List.mem_append_left _ (List.mem_of_getElem? (i := 35) rfl), rfl⟩
theorem zw_496 : (.code zy_M_result zb_M_result 8 none : Cond) ∈ zq_W := List.mem_filter.mpr ⟨List.mem_append_right _ (List.mem_append_right _ (List.mem_append_right _ (List.mem_append_right _ (List.mem_append_right _ (List.mem_of_getElem? (i := 166) rfl))))), rfl⟩
theorem zw_497 : (.methodLink "PlainStepsModel" 225 zy_M_simple : Cond) ∈ zq_W := List.mem_filter.mpr ⟨List.mem_append_right _ (List.mem_append_right _ (List.mem_append_right _ (List.mem_append_right _ (List.mem_append_right _ (List.mem_of_getElem? (i := 152) rfl))))), rfl⟩
theorem zw_498 : (.static zy_M_simple : Cond) ∈ zq_W := List.mem_filter.mpr ⟨List.mem_append_right _ (List.mem_append_right _ (List.mem_append_right _ (List.mem_append_right _ (List.mem_append_right _ (List.mem_of_getElem? (i := 153) rfl))))), rfl⟩
theorem zw_499 : (.code zy_M_simple zb_M_simple 5 (some .long) : Cond) ∈ zq_W := List.mem_filter.mpr ⟨List.mem_append_right _ (List.mem_append_right _ (List.mem_append_right _ (List.mem_append_right _ (List.mem_append_right _ (List.mem_of_getElem? (i := 154) rfl))))), rfl⟩
theorem zw_500 : (.methodLink "PlainStepsModel" 236 zy_M_operand : Cond) ∈ zq_W := List.mem_filter.mpr ⟨List.mem_append_right _ (List.mem_append_right _ (List.mem_append_right _ (List.mem_append_right _ (List.mem_append_right _ (List.mem_of_getElem? (i := 111) rfl))))), rfl⟩
theorem zw_501 : (.instanceMethod zy_M_operand : Cond) ∈ zq_W := List.mem_filter.mpr ⟨List.mem_append_right _ (List.mem_append_right _ (List.mem_append_right _ (List.mem_append_right _ (List.mem_append_right _ (List.mem_of_getElem? (i := 113) rfl))))), rfl⟩
theorem zw_502 : (.selects "PlainStepsModel" zy_M_operand zy_M_operand : Cond) ∈ zq_W := List.mem_filter.mpr ⟨List.mem_append_left _ (List.mem_of_getElem? (i := 25) rfl), rfl⟩
theorem zw_503 : (.code zy_M_operand zb_M_operand 7 (some .long) : Cond) ∈ zq_W := List.mem_filter.mpr ⟨List.mem_append_right _ (List.mem_append_right _ (List.mem_append_right _ (List.mem_append_right _ (List.mem_append_right _ (List.mem_of_getElem? (i := 114) rfl))))), rfl⟩
theorem zw_504 : (.methodLink "PlainStepsModel" 240 zy_M_store : Cond) ∈ zq_W := List.mem_filter.mpr ⟨List.mem_append_right _ (List.mem_append_right _ (List.mem_append_right _ (List.mem_append_right _ (List.mem_append_right _ (List.mem_of_getElem? (i := 120) rfl))))), rfl⟩
theorem zw_505 : (.instanceMethod zy_M_store : Cond) ∈ zq_W := List.mem_filter.mpr ⟨List.mem_append_right _ (List.mem_append_right _ (List.mem_append_right _ (List.mem_append_right _ (List.mem_append_right _ (List.mem_of_getElem? (i := 122) rfl))))), rfl⟩
theorem zw_506 : (.selects "PlainStepsModel" zy_M_store zy_M_store : Cond) ∈ zq_W := List.mem_filter.mpr ⟨List.mem_append_left _ (List.mem_of_getElem? (i := 27) rfl), rfl⟩
theorem zw_507 : (.code zy_M_store zb_M_store 7 none : Cond) ∈ zq_W := List.mem_filter.mpr ⟨List.mem_append_right _ (List.mem_append_right _ (List.mem_append_right _ (List.mem_append_right _ (List.mem_append_right _ (List.mem_of_getElem? (i := 123) rfl))))), rfl⟩
theorem zw_508 : (.fieldLink "PlainStepsModel" 244 "PlainStepsModel" "ends" "Z" : Cond) ∈ zq_W := List.mem_filter.mpr ⟨List.mem_append_right _ (List.mem_append_right _ (List.mem_append_right _ (List.mem_append_right _ (List.mem_append_left _ (List.mem_of_getElem? (i := 139) rfl))))), rfl⟩
theorem zw_509 : (.methodLink "PlainStepsModel" 247 zy_M_markOnly : Cond) ∈ zq_W := List.mem_filter.mpr ⟨List.mem_append_right _ (List.mem_append_right _ (List.mem_append_right _ (List.mem_append_right _ (List.mem_append_right _ (List.mem_of_getElem? (i := 136) rfl))))), rfl⟩
theorem zw_510 : (.instanceMethod zy_M_markOnly : Cond) ∈ zq_W := List.mem_filter.mpr ⟨List.mem_append_right _ (List.mem_append_right _ (List.mem_append_right _ (List.mem_append_right _ (List.mem_append_right _ (List.mem_of_getElem? (i := 138) rfl))))), rfl⟩
theorem zw_511 : (.selects "PlainStepsModel" zy_M_markOnly zy_M_markOnly : Cond) ∈ zq_W := List.mem_filter.mpr ⟨List.mem_append_left _ (List.mem_of_getElem? (i := 31) rfl), rfl⟩
theorem zw_512 : (.code zy_M_markOnly zb_M_markOnly 3 none : Cond) ∈ zq_W := List.mem_filter.mpr ⟨List.mem_append_right _ (List.mem_append_right _ (List.mem_append_right _ (List.mem_append_right _ (List.mem_append_right _ (List.mem_of_getElem? (i := 139) rfl))))), rfl⟩
theorem zw_513 : (.fieldLink "PlainStepsModel" 251 "PlainStepsModel" "halts" "Z" : Cond) ∈ zq_W := List.mem_filter.mpr ⟨List.mem_append_right _ (List.mem_append_right _ (List.mem_append_right _ (List.mem_append_right _ (List.mem_append_left _ (List.mem_of_getElem? (i := 140) rfl))))), rfl⟩
theorem zw_514 : (.methodLink "PlainStepsModel" 254 zy_M_back : Cond) ∈ zq_W := List.mem_filter.mpr ⟨List.mem_append_right _ (List.mem_append_right _ (List.mem_append_right _ (List.mem_append_right _ (List.mem_append_right _ (List.mem_of_getElem? (i := 140) rfl))))), rfl⟩
theorem zw_515 : (.instanceMethod zy_M_back : Cond) ∈ zq_W := List.mem_filter.mpr ⟨List.mem_append_right _ (List.mem_append_right _ (List.mem_append_right _ (List.mem_append_right _ (List.mem_append_right _ (List.mem_of_getElem? (i := 142) rfl))))), rfl⟩
theorem zw_516 : (.selects "PlainStepsModel" zy_M_back zy_M_back : Cond) ∈ zq_W := List.mem_filter.mpr ⟨List.mem_append_left _ (List.mem_of_getElem? (i := 32) rfl), rfl⟩
theorem zw_517 : (.code zy_M_back zb_M_back 1 none : Cond) ∈ zq_W := List.mem_filter.mpr ⟨List.mem_append_right _ (List.mem_append_right _ (List.mem_append_right _ (List.mem_append_right _ (List.mem_append_right _ (List.mem_of_getElem? (i := 143) rfl))))), rfl⟩
theorem zw_518 : (.methodLink "PlainStepsModel" 257 zy_M_compute : Cond) ∈ zq_W := List.mem_filter.mpr ⟨List.mem_append_right _ (List.mem_append_right _ (List.mem_append_right _ (List.mem_append_right _ (List.mem_append_right _ (List.mem_of_getElem? (i := 144) rfl))))), rfl⟩
theorem zw_519 : (.instanceMethod zy_M_compute : Cond) ∈ zq_W := List.mem_filter.mpr ⟨List.mem_append_right _ (List.mem_append_right _ (List.mem_append_right _ (List.mem_append_right _ (List.mem_append_right _ (List.mem_of_getElem? (i := 146) rfl))))), rfl⟩
theorem zw_520 : (.selects "PlainStepsModel" zy_M_compute zy_M_compute : Cond) ∈ zq_W := List.mem_filter.mpr ⟨List.mem_append_left _ (List.mem_of_getElem? (i := 33) rfl), rfl⟩
theorem zw_521 : (.code zy_M_compute zb_M_compute 10 none : Cond) ∈ zq_W := List.mem_filter.mpr ⟨List.mem_append_right _ (List.mem_append_right _ (List.mem_append_right _ (List.mem_append_right _ (List.mem_append_right _ (List.mem_of_getElem? (i := 147) rfl))))), rfl⟩
theorem zw_522 : (.fieldLink "PlainStepsModel" 24 "PlainStepsModel" "saved" "[J" : Cond) ∈ zq_W := List.mem_filter.mpr ⟨List.mem_append_right _ (List.mem_append_right _ (List.mem_append_right _ (List.mem_append_right _ (List.mem_append_left _ (List.mem_of_getElem? (i := 106) rfl))))), rfl⟩
theorem zw_523 : (.fieldLink "PlainStepsModel" 34 "PlainStepsModel" "markedSaved" "[Z" : Cond) ∈ zq_W := List.mem_filter.mpr ⟨List.mem_append_right _ (List.mem_append_right _ (List.mem_append_right _ (List.mem_append_right _ (List.mem_append_left _ (List.mem_of_getElem? (i := 109) rfl))))), rfl⟩
theorem zw_524 : (.fieldLink "PlainStepsModel" 261 "PlainStepsModel" "levelSaved" "I" : Cond) ∈ zq_W := List.mem_filter.mpr ⟨List.mem_append_right _ (List.mem_append_right _ (List.mem_append_right _ (List.mem_append_right _ (List.mem_append_left _ (List.mem_of_getElem? (i := 132) rfl))))), rfl⟩
theorem zw_525 : (.fieldLink "PlainStepsModel" 264 "PlainStepsModel" "keptSaved" "I" : Cond) ∈ zq_W := List.mem_filter.mpr ⟨List.mem_append_right _ (List.mem_append_right _ (List.mem_append_right _ (List.mem_append_right _ (List.mem_append_left _ (List.mem_of_getElem? (i := 133) rfl))))), rfl⟩
theorem zw_526 : (.fieldLink "PlainStepsModel" 41 "PlainStepsModel" "memorySaved" "[B" : Cond) ∈ zq_W := List.mem_filter.mpr ⟨List.mem_append_right _ (List.mem_append_right _ (List.mem_append_right _ (List.mem_append_right _ (List.mem_append_left _ (List.mem_of_getElem? (i := 111) rfl))))), rfl⟩
theorem zw_527 : (.methodLink "PlainStepsModel" 267 zy_M_doTransfer : Cond) ∈ zq_W := List.mem_filter.mpr ⟨List.mem_append_right _ (List.mem_append_right _ (List.mem_append_right _ (List.mem_append_right _ (List.mem_append_right _ (List.mem_of_getElem? (i := 107) rfl))))), rfl⟩
theorem zw_528 : (.instanceMethod zy_M_doTransfer : Cond) ∈ zq_W := List.mem_filter.mpr ⟨List.mem_append_right _ (List.mem_append_right _ (List.mem_append_right _ (List.mem_append_right _ (List.mem_append_right _ (List.mem_of_getElem? (i := 109) rfl))))), rfl⟩
theorem zw_529 : (.selects "PlainStepsModel" zy_M_doTransfer zy_M_doTransfer : Cond) ∈ zq_W := List.mem_filter.mpr ⟨List.mem_append_left _ (List.mem_of_getElem? (i := 24) rfl), rfl⟩
theorem zw_530 : (.code zy_M_doTransfer zb_M_doTransfer 7 none : Cond) ∈ zq_W := List.mem_filter.mpr ⟨List.mem_append_right _ (List.mem_append_right _ (List.mem_append_right _ (List.mem_append_right _ (List.mem_append_right _ (List.mem_of_getElem? (i := 110) rfl))))), rfl⟩
theorem zw_531 : (.methodLink "PlainStepsModel" 270 zy_M_writeAll : Cond) ∈ zq_W := List.mem_filter.mpr ⟨List.mem_append_right _ (List.mem_append_right _ (List.mem_append_right _ (List.mem_append_right _ (List.mem_append_right _ (List.mem_of_getElem? (i := 175) rfl))))), rfl⟩
theorem zw_532 : (.instanceMethod zy_M_writeAll : Cond) ∈ zq_W := List.mem_filter.mpr ⟨List.mem_append_right _ (List.mem_append_right _ (List.mem_append_right _ (List.mem_append_right _ (List.mem_append_right _ (List.mem_of_getElem? (i := 177) rfl))))), rfl⟩
theorem zw_533 : (.selects "PlainStepsModel" zy_M_writeAll zy_M_writeAll : Cond) ∈ zq_W := List.mem_filter.mpr ⟨List.mem_append_left _ (List.mem_of_getElem? (i := 38) rfl), rfl⟩
theorem zw_534 : (.code zy_M_writeAll zb_M_writeAll 3 none : Cond) ∈ zq_W := List.mem_filter.mpr ⟨List.mem_append_right _ (List.mem_append_right _ (List.mem_append_right _ (List.mem_append_right _ (List.mem_append_right _ (List.mem_of_getElem? (i := 178) rfl))))), rfl⟩
theorem zw_535 : (.fieldLink "PlainStepsModel" 274 "PlainStepsModel" "waitsPlace" "J" : Cond) ∈ zq_W := List.mem_filter.mpr ⟨List.mem_append_right _ (List.mem_append_right _ (List.mem_append_right _ (List.mem_append_right _ (List.mem_append_left _ (List.mem_of_getElem? (i := 143) rfl))))), rfl⟩
theorem zw_536 : (.constant "PlainStepsModel" 273 (65535) : Cond) ∈ zq_W := List.mem_filter.mpr ⟨List.mem_append_right _ (List.mem_append_right _ (List.mem_append_right _ (List.mem_append_right _ (List.mem_append_right _ (List.mem_of_getElem? (i := 102) rfl))))), rfl⟩
theorem zw_537 : (.methodLink "PlainStepsModel" 278 zy_M_takeFault : Cond) ∈ zq_W := List.mem_filter.mpr ⟨List.mem_append_right _ (List.mem_append_right _ (List.mem_append_right _ (List.mem_append_right _ (List.mem_append_right _ (List.mem_of_getElem? (i := 86) rfl))))), rfl⟩
theorem zw_538 : (.instanceMethod zy_M_takeFault : Cond) ∈ zq_W := List.mem_filter.mpr ⟨List.mem_append_right _ (List.mem_append_right _ (List.mem_append_right _ (List.mem_append_right _ (List.mem_append_right _ (List.mem_of_getElem? (i := 88) rfl))))), rfl⟩
theorem zw_539 : (.selects "PlainStepsModel" zy_M_takeFault zy_M_takeFault : Cond) ∈ zq_W := List.mem_filter.mpr ⟨List.mem_append_left _ (List.mem_of_getElem? (i := 19) rfl), rfl⟩
theorem zw_540 : (.code zy_M_takeFault zb_M_takeFault 2 none : Cond) ∈ zq_W := List.mem_filter.mpr ⟨List.mem_append_right _ (List.mem_append_right _ (List.mem_append_right _ (List.mem_append_right _ (List.mem_append_right _ (List.mem_of_getElem? (i := 89) rfl))))), rfl⟩
theorem zw_541 : (.methodLink "PlainStepsModel" 282 zy_M_find : Cond) ∈ zq_W := List.mem_filter.mpr ⟨List.mem_append_right _ (List.mem_append_right _ (List.mem_append_right _ (List.mem_append_right _ (List.mem_append_right _ (List.mem_of_getElem? (i := 94) rfl))))), rfl⟩
theorem zw_542 : (.instanceMethod zy_M_find : Cond) ∈ zq_W := List.mem_filter.mpr ⟨List.mem_append_right _ (List.mem_append_right _ (List.mem_append_right _ (List.mem_append_right _ (List.mem_append_right _ (List.mem_of_getElem? (i := 96) rfl))))), rfl⟩
theorem zw_543 : (.selects "PlainStepsModel" zy_M_find zy_M_find : Cond) ∈ zq_W := List.mem_filter.mpr ⟨List.mem_append_left _ (List.mem_of_getElem? (i := 21) rfl), rfl⟩
theorem zw_544 : (.code zy_M_find zb_M_find 2 (some .int) : Cond) ∈ zq_W := List.mem_filter.mpr ⟨List.mem_append_right _ (List.mem_append_right _ (List.mem_append_right _ (List.mem_append_right _ (List.mem_append_right _ (List.mem_of_getElem? (i := 97) rfl))))), rfl⟩
theorem zw_545 : (.methodLink "PlainStepsModel" 286 zy_M_save : Cond) ∈ zq_W := List.mem_filter.mpr ⟨List.mem_append_right _ (List.mem_append_right _ (List.mem_append_right _ (List.mem_append_right _ (List.mem_append_right _ (List.mem_of_getElem? (i := 98) rfl))))), rfl⟩
theorem zw_546 : (.instanceMethod zy_M_save : Cond) ∈ zq_W := List.mem_filter.mpr ⟨List.mem_append_right _ (List.mem_append_right _ (List.mem_append_right _ (List.mem_append_right _ (List.mem_append_right _ (List.mem_of_getElem? (i := 100) rfl))))), rfl⟩
theorem zw_547 : (.selects "PlainStepsModel" zy_M_save zy_M_save : Cond) ∈ zq_W := List.mem_filter.mpr ⟨List.mem_append_left _ (List.mem_of_getElem? (i := 22) rfl), rfl⟩
theorem zw_548 : (.code zy_M_save zb_M_save 2 none : Cond) ∈ zq_W := List.mem_filter.mpr ⟨List.mem_append_right _ (List.mem_append_right _ (List.mem_append_right _ (List.mem_append_right _ (List.mem_append_right _ (List.mem_of_getElem? (i := 101) rfl))))), rfl⟩
theorem zw_549 : (.methodLink "PlainStepsModel" 289 zy_M_doAll : Cond) ∈ zq_W := List.mem_filter.mpr ⟨List.mem_append_right _ (List.mem_append_right _ (List.mem_append_right _ (List.mem_append_right _ (List.mem_append_right _ (List.mem_of_getElem? (i := 103) rfl))))), rfl⟩
theorem zw_550 : (.instanceMethod zy_M_doAll : Cond) ∈ zq_W := List.mem_filter.mpr ⟨List.mem_append_right _ (List.mem_append_right _ (List.mem_append_right _ (List.mem_append_right _ (List.mem_append_right _ (List.mem_of_getElem? (i := 105) rfl))))), rfl⟩
theorem zw_551 : (.selects "PlainStepsModel" zy_M_doAll zy_M_doAll : Cond) ∈ zq_W := List.mem_filter.mpr ⟨List.mem_append_left _ (List.mem_of_getElem? (i := 23) rfl), rfl⟩
theorem zw_552 : (.code zy_M_doAll zb_M_doAll 3 none : Cond) ∈ zq_W := List.mem_filter.mpr ⟨List.mem_append_right _ (List.mem_append_right _ (List.mem_append_right _ (List.mem_append_right _ (List.mem_append_right _ (List.mem_of_getElem? (i := 106) rfl))))), rfl⟩
theorem zw_553 : (.methodLink "PlainStepsModel" 295 zy_M_comePlace : Cond) ∈ zq_W := List.mem_filter.mpr ⟨List.mem_append_right _ (List.mem_append_right _ (List.mem_append_right _ (List.mem_append_right _ (List.mem_append_right _ (List.mem_of_getElem? (i := 183) rfl))))), rfl⟩
theorem zw_554 : (.instanceMethod zy_M_comePlace : Cond) ∈ zq_W := List.mem_filter.mpr ⟨List.mem_append_right _ (List.mem_append_right _ (List.mem_append_right _ (List.mem_append_right _ (List.mem_append_right _ (List.mem_of_getElem? (i := 185) rfl))))), rfl⟩
theorem zw_555 : (.selects "PlainStepsModel" zy_M_comePlace zy_M_comePlace : Cond) ∈ zq_W := List.mem_filter.mpr ⟨List.mem_append_left _ (List.mem_of_getElem? (i := 40) rfl), rfl⟩
theorem zw_556 : (.code zy_M_comePlace zb_M_comePlace 5 none : Cond) ∈ zq_W := List.mem_filter.mpr ⟨List.mem_append_right _ (List.mem_append_right _ (List.mem_append_right _ (List.mem_append_right _ (List.mem_append_right _ (List.mem_of_getElem? (i := 186) rfl))))), rfl⟩
theorem zw_557 : (.methodLink "PlainStepsModel" 292 zy_M_restore : Cond) ∈ zq_W := List.mem_filter.mpr ⟨List.mem_append_right _ (List.mem_append_right _ (List.mem_append_right _ (List.mem_append_right _ (List.mem_append_right _ (List.mem_of_getElem? (i := 179) rfl))))), rfl⟩
theorem zw_558 : (.instanceMethod zy_M_restore : Cond) ∈ zq_W := List.mem_filter.mpr ⟨List.mem_append_right _ (List.mem_append_right _ (List.mem_append_right _ (List.mem_append_right _ (List.mem_append_right _ (List.mem_of_getElem? (i := 181) rfl))))), rfl⟩
theorem zw_559 : (.selects "PlainStepsModel" zy_M_restore zy_M_restore : Cond) ∈ zq_W := List.mem_filter.mpr ⟨List.mem_append_left _ (List.mem_of_getElem? (i := 39) rfl), rfl⟩
theorem zw_560 : (.code zy_M_restore zb_M_restore 2 none : Cond) ∈ zq_W := List.mem_filter.mpr ⟨List.mem_append_right _ (List.mem_append_right _ (List.mem_append_right _ (List.mem_append_right _ (List.mem_append_right _ (List.mem_of_getElem? (i := 182) rfl))))), rfl⟩
theorem zw_561 : (.methodLink "PlainStepsModel" 298 zy_M_waitingLine : Cond) ∈ zq_W := List.mem_filter.mpr ⟨List.mem_append_right _ (List.mem_append_right _ (List.mem_append_right _ (List.mem_append_right _ (List.mem_append_right _ (List.mem_of_getElem? (i := 78) rfl))))), rfl⟩
theorem zw_562 : (.instanceMethod zy_M_waitingLine : Cond) ∈ zq_W := List.mem_filter.mpr ⟨List.mem_append_right _ (List.mem_append_right _ (List.mem_append_right _ (List.mem_append_right _ (List.mem_append_right _ (List.mem_of_getElem? (i := 80) rfl))))), rfl⟩
theorem zw_563 : (.selects "PlainStepsModel" zy_M_waitingLine zy_M_waitingLine : Cond) ∈ zq_W := List.mem_filter.mpr ⟨List.mem_append_left _ (List.mem_of_getElem? (i := 17) rfl), rfl⟩
theorem zw_564 : (.code zy_M_waitingLine zb_M_waitingLine 3 (some .int) : Cond) ∈ zq_W := List.mem_filter.mpr ⟨List.mem_append_right _ (List.mem_append_right _ (List.mem_append_right _ (List.mem_append_right _ (List.mem_append_right _ (List.mem_of_getElem? (i := 81) rfl))))), rfl⟩
theorem zw_565 : (.methodLink "PlainStepsModel" 301 zy_M_doInstruction : Cond) ∈ zq_W := List.mem_filter.mpr ⟨List.mem_append_right _ (List.mem_append_right _ (List.mem_append_right _ (List.mem_append_right _ (List.mem_append_right _ (List.mem_of_getElem? (i := 82) rfl))))), rfl⟩
theorem zw_566 : (.instanceMethod zy_M_doInstruction : Cond) ∈ zq_W := List.mem_filter.mpr ⟨List.mem_append_right _ (List.mem_append_right _ (List.mem_append_right _ (List.mem_append_right _ (List.mem_append_right _ (List.mem_of_getElem? (i := 84) rfl))))), rfl⟩
theorem zw_567 : (.selects "PlainStepsModel" zy_M_doInstruction zy_M_doInstruction : Cond) ∈ zq_W := List.mem_filter.mpr ⟨List.mem_append_left _ (List.mem_of_getElem? (i := 18) rfl), rfl⟩
theorem zw_568 : (.code zy_M_doInstruction zb_M_doInstruction 3 none : Cond) ∈ zq_W := List.mem_filter.mpr ⟨List.mem_append_right _ (List.mem_append_right _ (List.mem_append_right _ (List.mem_append_right _ (List.mem_append_right _ (List.mem_of_getElem? (i := 85) rfl))))), rfl⟩
theorem zw_569 : (.constantLong "PlainStepsModel" 304 (5000) : Cond) ∈ zq_W := List.mem_filter.mpr ⟨List.mem_append_right _ (List.mem_append_right _ (List.mem_append_right _ (List.mem_append_right _ (List.mem_append_right _ (List.mem_of_getElem? (i := 73) rfl))))), rfl⟩
theorem zw_570 : (.methodLink "PlainStepsModel" 306 zy_M_stepOnce : Cond) ∈ zq_W := List.mem_filter.mpr ⟨List.mem_append_right _ (List.mem_append_right _ (List.mem_append_right _ (List.mem_append_right _ (List.mem_append_right _ (List.mem_of_getElem? (i := 74) rfl))))), rfl⟩
theorem zw_571 : (.instanceMethod zy_M_stepOnce : Cond) ∈ zq_W := List.mem_filter.mpr ⟨List.mem_append_right _ (List.mem_append_right _ (List.mem_append_right _ (List.mem_append_right _ (List.mem_append_right _ (List.mem_of_getElem? (i := 76) rfl))))), rfl⟩
theorem zw_572 : (.selects "PlainStepsModel" zy_M_stepOnce zy_M_stepOnce : Cond) ∈ zq_W := List.mem_filter.mpr ⟨List.mem_append_left _ (List.mem_of_getElem? (i := 16) rfl), rfl⟩
theorem zw_573 : (.code zy_M_stepOnce zb_M_stepOnce 2 none : Cond) ∈ zq_W := List.mem_filter.mpr ⟨List.mem_append_right _ (List.mem_append_right _ (List.mem_append_right _ (List.mem_append_right _ (List.mem_append_right _ (List.mem_of_getElem? (i := 77) rfl))))), rfl⟩
theorem zw_574 : (.methodLink "PlainStepsModel" 309 zy_M_isRegister : Cond) ∈ zq_W := List.mem_filter.mpr ⟨List.mem_append_right _ (List.mem_append_right _ (List.mem_append_right _ (List.mem_append_right _ (List.mem_append_right _ (List.mem_of_getElem? (i := 191) rfl))))), rfl⟩
theorem zw_575 : (.instanceMethod zy_M_isRegister : Cond) ∈ zq_W := List.mem_filter.mpr ⟨List.mem_append_right _ (List.mem_append_right _ (List.mem_append_right _ (List.mem_append_right _ (List.mem_append_right _ (List.mem_of_getElem? (i := 193) rfl))))), rfl⟩
theorem zw_576 : (.selects "PlainStepsModel" zy_M_isRegister zy_M_isRegister : Cond) ∈ zq_W := List.mem_filter.mpr ⟨List.mem_append_left _ (List.mem_of_getElem? (i := 41) rfl), rfl⟩
theorem zw_577 : (.code zy_M_isRegister zb_M_isRegister 2 (some .boolean) : Cond) ∈ zq_W := List.mem_filter.mpr ⟨List.mem_append_right _ (List.mem_append_right _ (List.mem_append_right _ (List.mem_append_right _ (List.mem_append_right _ (List.mem_of_getElem? (i := 194) rfl))))), rfl⟩
theorem zw_578 : (.constantLong "PlainStepsModel" 312 (14) : Cond) ∈ zq_W := List.mem_filter.mpr ⟨List.mem_append_right _ (List.mem_append_right _ (List.mem_append_right _ (List.mem_append_right _ (List.mem_append_right _ (List.mem_of_getElem? (i := 211) rfl))))), rfl⟩
theorem zw_579 : (.constantLong "PlainStepsModel" 314 (8) : Cond) ∈ zq_W := List.mem_filter.mpr ⟨List.mem_append_right _ (List.mem_append_right _ (List.mem_append_right _ (List.mem_append_right _ (List.mem_append_right _ (List.mem_of_getElem? (i := 224) rfl))))), rfl⟩
theorem zw_580 : (.methodLink "PlainSteps$Registers" 3 objectInit : Cond) ∈ zq_W := List.mem_filter.mpr ⟨List.mem_append_right _ (List.mem_append_left _ (List.mem_of_getElem? (i := 32) rfl)), rfl⟩
theorem zw_581 : (.instanceMethod objectInit : Cond) ∈ zq_W := List.mem_filter.mpr ⟨List.mem_append_right _ (List.mem_append_left _ (List.mem_of_getElem? (i := 25) rfl)), rfl⟩
theorem zw_582 : (.code objectInit ⟨#[0xb1]⟩ 1 none : Cond) ∈ zq_W := List.mem_filter.mpr ⟨List.mem_append_right _ (List.mem_append_left _ (List.mem_of_getElem? (i := 26) rfl)), rfl⟩
theorem zw_583 : (.arrayClass .long : Cond) ∈ zq_W := List.mem_filter.mpr ⟨List.mem_append_right _ (List.mem_append_left _ (List.mem_of_getElem? (i := 48) rfl)), rfl⟩
theorem zw_584 : (.arrayClass .boolean : Cond) ∈ zq_W := List.mem_filter.mpr ⟨List.mem_append_right _ (List.mem_append_left _ (List.mem_of_getElem? (i := 49) rfl)), rfl⟩
theorem zw_585 : (.constantLong "PlainSteps$Registers" 22 (65535) : Cond) ∈ zq_W := List.mem_filter.mpr ⟨List.mem_append_right _ (List.mem_append_left _ (List.mem_of_getElem? (i := 33) rfl)), rfl⟩
theorem zw_586 : (.methodLink "PlainSteps$Bytes" 3 objectInit : Cond) ∈ zq_W := List.mem_filter.mpr ⟨List.mem_append_right _ (List.mem_append_left _ (List.mem_of_getElem? (i := 55) rfl)), rfl⟩
theorem zw_587 : (.arrayClass .byte : Cond) ∈ zq_W := List.mem_filter.mpr ⟨List.mem_append_right _ (List.mem_append_left _ (List.mem_of_getElem? (i := 60) rfl)), rfl⟩
theorem zw_588 : (.methodLink "PlainSteps$Operands" 3 objectInit : Cond) ∈ zq_W := List.mem_filter.mpr ⟨List.mem_append_right _ (List.mem_append_left _ (List.mem_of_getElem? (i := 66) rfl)), rfl⟩
theorem zw_589 : (.arrayClass .int : Cond) ∈ zq_W := List.mem_filter.mpr ⟨List.mem_append_right _ (List.mem_append_left _ (List.mem_of_getElem? (i := 91) rfl)), rfl⟩
theorem zw_590 : (.methodLink "PlainSteps$Program" 3 objectInit : Cond) ∈ zq_W := List.mem_filter.mpr ⟨List.mem_append_right _ (List.mem_append_left _ (List.mem_of_getElem? (i := 97) rfl)), rfl⟩
theorem zw_591 : (.methodLink "PlainSteps$Kept" 3 objectInit : Cond) ∈ zq_W := List.mem_filter.mpr ⟨List.mem_append_right _ (List.mem_append_left _ (List.mem_of_getElem? (i := 145) rfl)), rfl⟩
theorem zw_592 : (.methodLink "PlainSteps$Lines" 3 objectInit : Cond) ∈ zq_W := List.mem_filter.mpr ⟨List.mem_append_right _ (List.mem_append_left _ (List.mem_of_getElem? (i := 169) rfl)), rfl⟩
theorem zw_593 : (.methodLink "PlainSteps$Writes" 3 objectInit : Cond) ∈ zq_W := List.mem_filter.mpr ⟨List.mem_append_right _ (List.mem_append_left _ (List.mem_of_getElem? (i := 188) rfl)), rfl⟩
theorem zw_594 : (.methodLink "PlainSteps$Work" 3 objectInit : Cond) ∈ zq_W := List.mem_filter.mpr ⟨List.mem_append_right _ (List.mem_append_left _ (List.mem_of_getElem? (i := 182) rfl)), rfl⟩
theorem zw_595 : (.classLink "PlainSteps$Work" 35 "PlainSteps$Writes" : Cond) ∈ zq_W := List.mem_filter.mpr ⟨List.mem_append_right _ (List.mem_append_left _ (List.mem_of_getElem? (i := 183) rfl)), rfl⟩
theorem zw_596 : (.instantiable "PlainSteps$Writes" 6 : Cond) ∈ zq_W := List.mem_filter.mpr ⟨List.mem_append_right _ (List.mem_append_left _ (List.mem_of_getElem? (i := 184) rfl)), rfl⟩
theorem zw_597 : (.code zy_Writes_init zb_Writes_init 3 none : Cond) ∈ zq_W := List.mem_filter.mpr ⟨List.mem_append_right _ (List.mem_append_left _ (List.mem_of_getElem? (i := 187) rfl)), rfl⟩
theorem zw_598 : (.methodLink "PlainSteps$Work" 37 zy_Writes_init : Cond) ∈ zq_W := List.mem_filter.mpr ⟨List.mem_append_right _ (List.mem_append_left _ (List.mem_of_getElem? (i := 185) rfl)), rfl⟩
theorem zw_599 : (.instanceMethod zy_Writes_init : Cond) ∈ zq_W := List.mem_filter.mpr ⟨List.mem_append_right _ (List.mem_append_left _ (List.mem_of_getElem? (i := 186) rfl)), rfl⟩
theorem zw_600 : (.methodLink "PlainSteps$Machine" 3 objectInit : Cond) ∈ zq_W := List.mem_filter.mpr ⟨List.mem_append_right _ (List.mem_append_right _ (List.mem_append_left _ (List.mem_of_getElem? (i := 18) rfl))), rfl⟩
theorem zw_601 : (.methodLink "PlainSteps" 1 objectInit : Cond) ∈ zq_W := List.mem_filter.mpr ⟨List.mem_append_right _ (List.mem_append_left _ (List.mem_of_getElem? (i := 24) rfl)), rfl⟩
theorem zw_602 : (.classLink "PlainSteps" 7 "PlainSteps$Registers" : Cond) ∈ zq_W := List.mem_filter.mpr ⟨List.mem_append_right _ (List.mem_append_left _ (List.mem_of_getElem? (i := 27) rfl)), rfl⟩
theorem zw_603 : (.instantiable "PlainSteps$Registers" 4 : Cond) ∈ zq_W := List.mem_filter.mpr ⟨List.mem_append_right _ (List.mem_append_left _ (List.mem_of_getElem? (i := 28) rfl)), rfl⟩
theorem zw_604 : (.code zy_Registers_init zb_Registers_init 1 none : Cond) ∈ zq_W := List.mem_filter.mpr ⟨List.mem_append_right _ (List.mem_append_left _ (List.mem_of_getElem? (i := 31) rfl)), rfl⟩
theorem zw_605 : (.methodLink "PlainSteps" 9 zy_Registers_init : Cond) ∈ zq_W := List.mem_filter.mpr ⟨List.mem_append_right _ (List.mem_append_left _ (List.mem_of_getElem? (i := 29) rfl)), rfl⟩
theorem zw_606 : (.instanceMethod zy_Registers_init : Cond) ∈ zq_W := List.mem_filter.mpr ⟨List.mem_append_right _ (List.mem_append_left _ (List.mem_of_getElem? (i := 30) rfl)), rfl⟩
theorem zw_607 : (.fieldLink "PlainSteps" 10 "PlainSteps" "registers" "LPlainSteps$Registers;" : Cond) ∈ zq_W := List.mem_filter.mpr ⟨List.mem_append_right _ (List.mem_append_right _ (List.mem_append_left _ (List.mem_of_getElem? (i := 56) rfl))), rfl⟩
theorem zw_608 : (.classLink "PlainSteps" 16 "PlainSteps$Bytes" : Cond) ∈ zq_W := List.mem_filter.mpr ⟨List.mem_append_right _ (List.mem_append_left _ (List.mem_of_getElem? (i := 50) rfl)), rfl⟩
theorem zw_609 : (.instantiable "PlainSteps$Bytes" 1 : Cond) ∈ zq_W := List.mem_filter.mpr ⟨List.mem_append_right _ (List.mem_append_left _ (List.mem_of_getElem? (i := 51) rfl)), rfl⟩
theorem zw_610 : (.code zy_Bytes_init zb_Bytes_init 1 none : Cond) ∈ zq_W := List.mem_filter.mpr ⟨List.mem_append_right _ (List.mem_append_left _ (List.mem_of_getElem? (i := 54) rfl)), rfl⟩
theorem zw_611 : (.instanceMethod zy_Bytes_init : Cond) ∈ zq_W := List.mem_filter.mpr ⟨List.mem_append_right _ (List.mem_append_left _ (List.mem_of_getElem? (i := 53) rfl)), rfl⟩
theorem zw_612 : (.fieldLink "PlainSteps" 19 "PlainSteps" "bytes" "LPlainSteps$Bytes;" : Cond) ∈ zq_W := List.mem_filter.mpr ⟨List.mem_append_right _ (List.mem_append_right _ (List.mem_append_left _ (List.mem_of_getElem? (i := 57) rfl))), rfl⟩
theorem zw_613 : (.classLink "PlainSteps" 23 "PlainSteps$Operands" : Cond) ∈ zq_W := List.mem_filter.mpr ⟨List.mem_append_right _ (List.mem_append_left _ (List.mem_of_getElem? (i := 61) rfl)), rfl⟩
theorem zw_614 : (.instantiable "PlainSteps$Operands" 7 : Cond) ∈ zq_W := List.mem_filter.mpr ⟨List.mem_append_right _ (List.mem_append_left _ (List.mem_of_getElem? (i := 62) rfl)), rfl⟩
theorem zw_615 : (.code zy_Operands_init zb_Operands_init 2 none : Cond) ∈ zq_W := List.mem_filter.mpr ⟨List.mem_append_right _ (List.mem_append_left _ (List.mem_of_getElem? (i := 65) rfl)), rfl⟩
theorem zw_616 : (.methodLink "PlainSteps" 25 zy_Operands_init : Cond) ∈ zq_W := List.mem_filter.mpr ⟨List.mem_append_right _ (List.mem_append_left _ (List.mem_of_getElem? (i := 63) rfl)), rfl⟩
theorem zw_617 : (.instanceMethod zy_Operands_init : Cond) ∈ zq_W := List.mem_filter.mpr ⟨List.mem_append_right _ (List.mem_append_left _ (List.mem_of_getElem? (i := 64) rfl)), rfl⟩
theorem zw_618 : (.fieldLink "PlainSteps" 28 "PlainSteps" "operands" "LPlainSteps$Operands;" : Cond) ∈ zq_W := List.mem_filter.mpr ⟨List.mem_append_right _ (List.mem_append_right _ (List.mem_append_left _ (List.mem_of_getElem? (i := 58) rfl))), rfl⟩
theorem zw_619 : (.classLink "PlainSteps" 32 "PlainSteps$Program" : Cond) ∈ zq_W := List.mem_filter.mpr ⟨List.mem_append_right _ (List.mem_append_left _ (List.mem_of_getElem? (i := 92) rfl)), rfl⟩
theorem zw_620 : (.instantiable "PlainSteps$Program" 11 : Cond) ∈ zq_W := List.mem_filter.mpr ⟨List.mem_append_right _ (List.mem_append_left _ (List.mem_of_getElem? (i := 93) rfl)), rfl⟩
theorem zw_621 : (.code zy_Program_init zb_Program_init 1 none : Cond) ∈ zq_W := List.mem_filter.mpr ⟨List.mem_append_right _ (List.mem_append_left _ (List.mem_of_getElem? (i := 96) rfl)), rfl⟩
theorem zw_622 : (.instanceMethod zy_Program_init : Cond) ∈ zq_W := List.mem_filter.mpr ⟨List.mem_append_right _ (List.mem_append_left _ (List.mem_of_getElem? (i := 95) rfl)), rfl⟩
theorem zw_623 : (.fieldLink "PlainSteps" 35 "PlainSteps" "program" "LPlainSteps$Program;" : Cond) ∈ zq_W := List.mem_filter.mpr ⟨List.mem_append_right _ (List.mem_append_right _ (List.mem_append_left _ (List.mem_of_getElem? (i := 59) rfl))), rfl⟩
theorem zw_624 : (.classLink "PlainSteps" 39 "PlainSteps$Kept" : Cond) ∈ zq_W := List.mem_filter.mpr ⟨List.mem_append_right _ (List.mem_append_left _ (List.mem_of_getElem? (i := 140) rfl)), rfl⟩
theorem zw_625 : (.instantiable "PlainSteps$Kept" 4 : Cond) ∈ zq_W := List.mem_filter.mpr ⟨List.mem_append_right _ (List.mem_append_left _ (List.mem_of_getElem? (i := 141) rfl)), rfl⟩
theorem zw_626 : (.code zy_Kept_init zb_Kept_init 1 none : Cond) ∈ zq_W := List.mem_filter.mpr ⟨List.mem_append_right _ (List.mem_append_left _ (List.mem_of_getElem? (i := 144) rfl)), rfl⟩
theorem zw_627 : (.instanceMethod zy_Kept_init : Cond) ∈ zq_W := List.mem_filter.mpr ⟨List.mem_append_right _ (List.mem_append_left _ (List.mem_of_getElem? (i := 143) rfl)), rfl⟩
theorem zw_628 : (.fieldLink "PlainSteps" 42 "PlainSteps" "kept" "LPlainSteps$Kept;" : Cond) ∈ zq_W := List.mem_filter.mpr ⟨List.mem_append_right _ (List.mem_append_right _ (List.mem_append_left _ (List.mem_of_getElem? (i := 60) rfl))), rfl⟩
theorem zw_629 : (.classLink "PlainSteps" 46 "PlainSteps$Lines" : Cond) ∈ zq_W := List.mem_filter.mpr ⟨List.mem_append_right _ (List.mem_append_left _ (List.mem_of_getElem? (i := 164) rfl)), rfl⟩
theorem zw_630 : (.instantiable "PlainSteps$Lines" 2 : Cond) ∈ zq_W := List.mem_filter.mpr ⟨List.mem_append_right _ (List.mem_append_left _ (List.mem_of_getElem? (i := 165) rfl)), rfl⟩
theorem zw_631 : (.code zy_Lines_init zb_Lines_init 2 none : Cond) ∈ zq_W := List.mem_filter.mpr ⟨List.mem_append_right _ (List.mem_append_left _ (List.mem_of_getElem? (i := 168) rfl)), rfl⟩
theorem zw_632 : (.methodLink "PlainSteps" 48 zy_Lines_init : Cond) ∈ zq_W := List.mem_filter.mpr ⟨List.mem_append_right _ (List.mem_append_left _ (List.mem_of_getElem? (i := 166) rfl)), rfl⟩
theorem zw_633 : (.instanceMethod zy_Lines_init : Cond) ∈ zq_W := List.mem_filter.mpr ⟨List.mem_append_right _ (List.mem_append_left _ (List.mem_of_getElem? (i := 167) rfl)), rfl⟩
theorem zw_634 : (.fieldLink "PlainSteps" 49 "PlainSteps" "lines" "LPlainSteps$Lines;" : Cond) ∈ zq_W := List.mem_filter.mpr ⟨List.mem_append_right _ (List.mem_append_right _ (List.mem_append_left _ (List.mem_of_getElem? (i := 61) rfl))), rfl⟩
theorem zw_635 : (.fieldLink "PlainSteps" 53 "PlainSteps" "counts" "[I" : Cond) ∈ zq_W := List.mem_filter.mpr ⟨List.mem_append_right _ (List.mem_append_right _ (List.mem_append_left _ (List.mem_of_getElem? (i := 63) rfl))), rfl⟩
theorem zw_636 : (.classLink "PlainSteps" 57 "PlainSteps$Work" : Cond) ∈ zq_W := List.mem_filter.mpr ⟨List.mem_append_right _ (List.mem_append_left _ (List.mem_of_getElem? (i := 177) rfl)), rfl⟩
theorem zw_637 : (.instantiable "PlainSteps$Work" 14 : Cond) ∈ zq_W := List.mem_filter.mpr ⟨List.mem_append_right _ (List.mem_append_left _ (List.mem_of_getElem? (i := 178) rfl)), rfl⟩
theorem zw_638 : (.code zy_Work_init zb_Work_init 7 none : Cond) ∈ zq_W := List.mem_filter.mpr ⟨List.mem_append_right _ (List.mem_append_left _ (List.mem_of_getElem? (i := 181) rfl)), rfl⟩
theorem zw_639 : (.methodLink "PlainSteps" 59 zy_Work_init : Cond) ∈ zq_W := List.mem_filter.mpr ⟨List.mem_append_right _ (List.mem_append_left _ (List.mem_of_getElem? (i := 179) rfl)), rfl⟩
theorem zw_640 : (.instanceMethod zy_Work_init : Cond) ∈ zq_W := List.mem_filter.mpr ⟨List.mem_append_right _ (List.mem_append_left _ (List.mem_of_getElem? (i := 180) rfl)), rfl⟩
theorem zw_641 : (.classLink "PlainSteps" 62 "PlainSteps$Machine" : Cond) ∈ zq_W := List.mem_filter.mpr ⟨List.mem_append_right _ (List.mem_append_right _ (List.mem_append_left _ (List.mem_of_getElem? (i := 13) rfl))), rfl⟩
theorem zw_642 : (.instantiable "PlainSteps$Machine" 11 : Cond) ∈ zq_W := List.mem_filter.mpr ⟨List.mem_append_right _ (List.mem_append_right _ (List.mem_append_left _ (List.mem_of_getElem? (i := 14) rfl))), rfl⟩
theorem zw_643 : (.code zy_Machine_init zb_Machine_init 8 none : Cond) ∈ zq_W := List.mem_filter.mpr ⟨List.mem_append_right _ (List.mem_append_right _ (List.mem_append_left _ (List.mem_of_getElem? (i := 17) rfl))), rfl⟩
theorem zw_644 : (.methodLink "PlainSteps" 64 zy_Machine_init : Cond) ∈ zq_W := List.mem_filter.mpr ⟨List.mem_append_right _ (List.mem_append_right _ (List.mem_append_left _ (List.mem_of_getElem? (i := 15) rfl))), rfl⟩
theorem zw_645 : (.instanceMethod zy_Machine_init : Cond) ∈ zq_W := List.mem_filter.mpr ⟨List.mem_append_right _ (List.mem_append_right _ (List.mem_append_left _ (List.mem_of_getElem? (i := 16) rfl))), rfl⟩
theorem zw_646 : (.fieldLink "PlainSteps" 67 "PlainSteps" "machine" "LPlainSteps$Machine;" : Cond) ∈ zq_W := List.mem_filter.mpr ⟨List.mem_append_right _ (List.mem_append_right _ (List.mem_append_left _ (List.mem_of_getElem? (i := 62) rfl))), rfl⟩
theorem zw_647 : (.methodLink "PlainStepsModel" 1 objectInit : Cond) ∈ zq_W := List.mem_filter.mpr ⟨List.mem_append_right _ (List.mem_append_right _ (List.mem_append_right _ (List.mem_append_right _ (List.mem_append_left _ (List.mem_of_getElem? (i := 100) rfl))))), rfl⟩
theorem zi_Registers : ∀ w ∈ u_ws zR_Registers zF_Registers 4, w ∈ zq_W := by
  show ∀ w ∈ ([u_lay zR_Registers zF_Registers 0, u_lay zR_Registers zF_Registers 1, u_lay zR_Registers zF_Registers 2, u_lay zR_Registers zF_Registers 3] : List Cond), w ∈ zq_W
  exact List.forall_mem_cons.mpr ⟨zw_0, List.forall_mem_cons.mpr ⟨zw_1, List.forall_mem_cons.mpr ⟨zw_2, List.forall_mem_cons.mpr ⟨zw_3, fun _ h => absurd h List.not_mem_nil⟩⟩⟩⟩
theorem zi_Bytes : ∀ w ∈ u_ws zR_Bytes zF_Bytes 1, w ∈ zq_W := by
  show ∀ w ∈ ([u_lay zR_Bytes zF_Bytes 0] : List Cond), w ∈ zq_W
  exact List.forall_mem_cons.mpr ⟨zw_4, fun _ h => absurd h List.not_mem_nil⟩
theorem zi_Operands : ∀ w ∈ u_ws zR_Operands zF_Operands 7, w ∈ zq_W := by
  show ∀ w ∈ ([u_lay zR_Operands zF_Operands 0, u_lay zR_Operands zF_Operands 1, u_lay zR_Operands zF_Operands 2, u_lay zR_Operands zF_Operands 3, u_lay zR_Operands zF_Operands 4, u_lay zR_Operands zF_Operands 5, u_lay zR_Operands zF_Operands 6] : List Cond), w ∈ zq_W
  exact List.forall_mem_cons.mpr ⟨zw_5, List.forall_mem_cons.mpr ⟨zw_6, List.forall_mem_cons.mpr ⟨zw_7, List.forall_mem_cons.mpr ⟨zw_8, List.forall_mem_cons.mpr ⟨zw_9, List.forall_mem_cons.mpr ⟨zw_10, List.forall_mem_cons.mpr ⟨zw_11, fun _ h => absurd h List.not_mem_nil⟩⟩⟩⟩⟩⟩⟩
theorem zi_Program : ∀ w ∈ u_ws zR_Program zF_Program 11, w ∈ zq_W := by
  show ∀ w ∈ ([u_lay zR_Program zF_Program 0, u_lay zR_Program zF_Program 1, u_lay zR_Program zF_Program 2, u_lay zR_Program zF_Program 3, u_lay zR_Program zF_Program 4, u_lay zR_Program zF_Program 5, u_lay zR_Program zF_Program 6, u_lay zR_Program zF_Program 7, u_lay zR_Program zF_Program 8, u_lay zR_Program zF_Program 9, u_lay zR_Program zF_Program 10] : List Cond), w ∈ zq_W
  exact List.forall_mem_cons.mpr ⟨zw_12, List.forall_mem_cons.mpr ⟨zw_13, List.forall_mem_cons.mpr ⟨zw_14, List.forall_mem_cons.mpr ⟨zw_15, List.forall_mem_cons.mpr ⟨zw_16, List.forall_mem_cons.mpr ⟨zw_17, List.forall_mem_cons.mpr ⟨zw_18, List.forall_mem_cons.mpr ⟨zw_19, List.forall_mem_cons.mpr ⟨zw_20, List.forall_mem_cons.mpr ⟨zw_21, List.forall_mem_cons.mpr ⟨zw_22, fun _ h => absurd h List.not_mem_nil⟩⟩⟩⟩⟩⟩⟩⟩⟩⟩⟩
theorem zi_Kept : ∀ w ∈ u_ws zR_Kept zF_Kept 4, w ∈ zq_W := by
  show ∀ w ∈ ([u_lay zR_Kept zF_Kept 0, u_lay zR_Kept zF_Kept 1, u_lay zR_Kept zF_Kept 2, u_lay zR_Kept zF_Kept 3] : List Cond), w ∈ zq_W
  exact List.forall_mem_cons.mpr ⟨zw_23, List.forall_mem_cons.mpr ⟨zw_24, List.forall_mem_cons.mpr ⟨zw_25, List.forall_mem_cons.mpr ⟨zw_26, fun _ h => absurd h List.not_mem_nil⟩⟩⟩⟩
theorem zi_Lines : ∀ w ∈ u_ws zR_Lines zF_Lines 2, w ∈ zq_W := by
  show ∀ w ∈ ([u_lay zR_Lines zF_Lines 0, u_lay zR_Lines zF_Lines 1] : List Cond), w ∈ zq_W
  exact List.forall_mem_cons.mpr ⟨zw_27, List.forall_mem_cons.mpr ⟨zw_28, fun _ h => absurd h List.not_mem_nil⟩⟩
theorem zi_Writes : ∀ w ∈ u_ws zR_Writes zF_Writes 6, w ∈ zq_W := by
  show ∀ w ∈ ([u_lay zR_Writes zF_Writes 0, u_lay zR_Writes zF_Writes 1, u_lay zR_Writes zF_Writes 2, u_lay zR_Writes zF_Writes 3, u_lay zR_Writes zF_Writes 4, u_lay zR_Writes zF_Writes 5] : List Cond), w ∈ zq_W
  exact List.forall_mem_cons.mpr ⟨zw_29, List.forall_mem_cons.mpr ⟨zw_30, List.forall_mem_cons.mpr ⟨zw_31, List.forall_mem_cons.mpr ⟨zw_32, List.forall_mem_cons.mpr ⟨zw_33, List.forall_mem_cons.mpr ⟨zw_34, fun _ h => absurd h List.not_mem_nil⟩⟩⟩⟩⟩⟩
theorem zi_Work : ∀ w ∈ u_ws zR_Work zF_Work 14, w ∈ zq_W := by
  show ∀ w ∈ ([u_lay zR_Work zF_Work 0, u_lay zR_Work zF_Work 1, u_lay zR_Work zF_Work 2, u_lay zR_Work zF_Work 3, u_lay zR_Work zF_Work 4, u_lay zR_Work zF_Work 5, u_lay zR_Work zF_Work 6, u_lay zR_Work zF_Work 7, u_lay zR_Work zF_Work 8, u_lay zR_Work zF_Work 9, u_lay zR_Work zF_Work 10, u_lay zR_Work zF_Work 11, u_lay zR_Work zF_Work 12, u_lay zR_Work zF_Work 13] : List Cond), w ∈ zq_W
  exact List.forall_mem_cons.mpr ⟨zw_35, List.forall_mem_cons.mpr ⟨zw_36, List.forall_mem_cons.mpr ⟨zw_37, List.forall_mem_cons.mpr ⟨zw_38, List.forall_mem_cons.mpr ⟨zw_39, List.forall_mem_cons.mpr ⟨zw_40, List.forall_mem_cons.mpr ⟨zw_41, List.forall_mem_cons.mpr ⟨zw_42, List.forall_mem_cons.mpr ⟨zw_43, List.forall_mem_cons.mpr ⟨zw_44, List.forall_mem_cons.mpr ⟨zw_45, List.forall_mem_cons.mpr ⟨zw_46, List.forall_mem_cons.mpr ⟨zw_47, List.forall_mem_cons.mpr ⟨zw_48, fun _ h => absurd h List.not_mem_nil⟩⟩⟩⟩⟩⟩⟩⟩⟩⟩⟩⟩⟩⟩
theorem zi_Machine : ∀ w ∈ u_ws zR_Machine zF_Machine 11, w ∈ zq_W := by
  show ∀ w ∈ ([u_lay zR_Machine zF_Machine 0, u_lay zR_Machine zF_Machine 1, u_lay zR_Machine zF_Machine 2, u_lay zR_Machine zF_Machine 3, u_lay zR_Machine zF_Machine 4, u_lay zR_Machine zF_Machine 5, u_lay zR_Machine zF_Machine 6, u_lay zR_Machine zF_Machine 7, u_lay zR_Machine zF_Machine 8, u_lay zR_Machine zF_Machine 9, u_lay zR_Machine zF_Machine 10] : List Cond), w ∈ zq_W
  exact List.forall_mem_cons.mpr ⟨zw_49, List.forall_mem_cons.mpr ⟨zw_50, List.forall_mem_cons.mpr ⟨zw_51, List.forall_mem_cons.mpr ⟨zw_52, List.forall_mem_cons.mpr ⟨zw_53, List.forall_mem_cons.mpr ⟨zw_54, List.forall_mem_cons.mpr ⟨zw_55, List.forall_mem_cons.mpr ⟨zw_56, List.forall_mem_cons.mpr ⟨zw_57, List.forall_mem_cons.mpr ⟨zw_58, List.forall_mem_cons.mpr ⟨zw_59, fun _ h => absurd h List.not_mem_nil⟩⟩⟩⟩⟩⟩⟩⟩⟩⟩⟩
theorem zi_PS : ∀ w ∈ u_ws zR_PS zF_PS 8, w ∈ zq_W := by
  show ∀ w ∈ ([u_lay zR_PS zF_PS 0, u_lay zR_PS zF_PS 1, u_lay zR_PS zF_PS 2, u_lay zR_PS zF_PS 3, u_lay zR_PS zF_PS 4, u_lay zR_PS zF_PS 5, u_lay zR_PS zF_PS 6, u_lay zR_PS zF_PS 7] : List Cond), w ∈ zq_W
  exact List.forall_mem_cons.mpr ⟨zw_60, List.forall_mem_cons.mpr ⟨zw_61, List.forall_mem_cons.mpr ⟨zw_62, List.forall_mem_cons.mpr ⟨zw_63, List.forall_mem_cons.mpr ⟨zw_64, List.forall_mem_cons.mpr ⟨zw_65, List.forall_mem_cons.mpr ⟨zw_66, List.forall_mem_cons.mpr ⟨zw_67, fun _ h => absurd h List.not_mem_nil⟩⟩⟩⟩⟩⟩⟩⟩
theorem zi_M : ∀ w ∈ u_ws zR_M zF_M 52, w ∈ zq_W := by
  show ∀ w ∈ ([u_lay zR_M zF_M 0, u_lay zR_M zF_M 1, u_lay zR_M zF_M 2, u_lay zR_M zF_M 3, u_lay zR_M zF_M 4, u_lay zR_M zF_M 5, u_lay zR_M zF_M 6, u_lay zR_M zF_M 7, u_lay zR_M zF_M 8, u_lay zR_M zF_M 9, u_lay zR_M zF_M 10, u_lay zR_M zF_M 11, u_lay zR_M zF_M 12, u_lay zR_M zF_M 13, u_lay zR_M zF_M 14, u_lay zR_M zF_M 15, u_lay zR_M zF_M 16, u_lay zR_M zF_M 17, u_lay zR_M zF_M 18, u_lay zR_M zF_M 19, u_lay zR_M zF_M 20, u_lay zR_M zF_M 21, u_lay zR_M zF_M 22, u_lay zR_M zF_M 23, u_lay zR_M zF_M 24, u_lay zR_M zF_M 25, u_lay zR_M zF_M 26, u_lay zR_M zF_M 27, u_lay zR_M zF_M 28, u_lay zR_M zF_M 29, u_lay zR_M zF_M 30, u_lay zR_M zF_M 31, u_lay zR_M zF_M 32, u_lay zR_M zF_M 33, u_lay zR_M zF_M 34, u_lay zR_M zF_M 35, u_lay zR_M zF_M 36, u_lay zR_M zF_M 37, u_lay zR_M zF_M 38, u_lay zR_M zF_M 39, u_lay zR_M zF_M 40, u_lay zR_M zF_M 41, u_lay zR_M zF_M 42, u_lay zR_M zF_M 43, u_lay zR_M zF_M 44, u_lay zR_M zF_M 45, u_lay zR_M zF_M 46, u_lay zR_M zF_M 47, u_lay zR_M zF_M 48, u_lay zR_M zF_M 49, u_lay zR_M zF_M 50, u_lay zR_M zF_M 51] : List Cond), w ∈ zq_W
  exact List.forall_mem_cons.mpr ⟨zw_68, List.forall_mem_cons.mpr ⟨zw_69, List.forall_mem_cons.mpr ⟨zw_70, List.forall_mem_cons.mpr ⟨zw_71, List.forall_mem_cons.mpr ⟨zw_72, List.forall_mem_cons.mpr ⟨zw_73, List.forall_mem_cons.mpr ⟨zw_74, List.forall_mem_cons.mpr ⟨zw_75, List.forall_mem_cons.mpr ⟨zw_76, List.forall_mem_cons.mpr ⟨zw_77, List.forall_mem_cons.mpr ⟨zw_78, List.forall_mem_cons.mpr ⟨zw_79, List.forall_mem_cons.mpr ⟨zw_80, List.forall_mem_cons.mpr ⟨zw_81, List.forall_mem_cons.mpr ⟨zw_82, List.forall_mem_cons.mpr ⟨zw_83, List.forall_mem_cons.mpr ⟨zw_84, List.forall_mem_cons.mpr ⟨zw_85, List.forall_mem_cons.mpr ⟨zw_86, List.forall_mem_cons.mpr ⟨zw_87, List.forall_mem_cons.mpr ⟨zw_88, List.forall_mem_cons.mpr ⟨zw_89, List.forall_mem_cons.mpr ⟨zw_90, List.forall_mem_cons.mpr ⟨zw_91, List.forall_mem_cons.mpr ⟨zw_92, List.forall_mem_cons.mpr ⟨zw_93, List.forall_mem_cons.mpr ⟨zw_94, List.forall_mem_cons.mpr ⟨zw_95, List.forall_mem_cons.mpr ⟨zw_96, List.forall_mem_cons.mpr ⟨zw_97, List.forall_mem_cons.mpr ⟨zw_98, List.forall_mem_cons.mpr ⟨zw_99, List.forall_mem_cons.mpr ⟨zw_100, List.forall_mem_cons.mpr ⟨zw_101, List.forall_mem_cons.mpr ⟨zw_102, List.forall_mem_cons.mpr ⟨zw_103, List.forall_mem_cons.mpr ⟨zw_104, List.forall_mem_cons.mpr ⟨zw_105, List.forall_mem_cons.mpr ⟨zw_106, List.forall_mem_cons.mpr ⟨zw_107, List.forall_mem_cons.mpr ⟨zw_108, List.forall_mem_cons.mpr ⟨zw_109, List.forall_mem_cons.mpr ⟨zw_110, List.forall_mem_cons.mpr ⟨zw_111, List.forall_mem_cons.mpr ⟨zw_112, List.forall_mem_cons.mpr ⟨zw_113, List.forall_mem_cons.mpr ⟨zw_114, List.forall_mem_cons.mpr ⟨zw_115, List.forall_mem_cons.mpr ⟨zw_116, List.forall_mem_cons.mpr ⟨zw_117, List.forall_mem_cons.mpr ⟨zw_118, List.forall_mem_cons.mpr ⟨zw_119, fun _ h => absurd h List.not_mem_nil⟩⟩⟩⟩⟩⟩⟩⟩⟩⟩⟩⟩⟩⟩⟩⟩⟩⟩⟩⟩⟩⟩⟩⟩⟩⟩⟩⟩⟩⟩⟩⟩⟩⟩⟩⟩⟩⟩⟩⟩⟩⟩⟩⟩⟩⟩⟩⟩⟩⟩⟩⟩
def zq_nws : List Cond := [(Jvm.Cond.fieldLinkNest "PlainSteps" (78 : Nat) "PlainSteps$Registers" "count" "I" "PlainSteps"), (Jvm.Cond.methodLinkNest "PlainSteps" (18 : Nat) ({ cls := "PlainSteps$Bytes", name := "<init>", desc := "()V" } : Jvm.MethodName) "PlainSteps"), (Jvm.Cond.fieldLinkNest "PlainSteps" (91 : Nat) "PlainSteps$Operands" "constantCount" "I" "PlainSteps"), (Jvm.Cond.fieldLinkNest "PlainSteps" (102 : Nat) "PlainSteps$Operands" "fieldCount" "I" "PlainSteps"), (Jvm.Cond.methodLinkNest "PlainSteps" (34 : Nat) ({ cls := "PlainSteps$Program", name := "<init>", desc := "()V" } : Jvm.MethodName) "PlainSteps"), (Jvm.Cond.fieldLinkNest "PlainSteps$Work" (119 : Nat) "PlainSteps$Program" "ops" "[I" "PlainSteps"), (Jvm.Cond.fieldLinkNest "PlainSteps$Work" (125 : Nat) "PlainSteps$Program" "firsts" "[I" "PlainSteps"), (Jvm.Cond.fieldLinkNest "PlainSteps$Work" (134 : Nat) "PlainSteps$Program" "seconds" "[I" "PlainSteps"), (Jvm.Cond.fieldLinkNest "PlainSteps$Work" (122 : Nat) "PlainSteps$Program" "targets" "[I" "PlainSteps"), (Jvm.Cond.fieldLinkNest "PlainSteps" (122 : Nat) "PlainSteps$Program" "transferCount" "I" "PlainSteps"), (Jvm.Cond.fieldLinkNest "PlainSteps$Work" (57 : Nat) "PlainSteps$Program" "starts" "[I" "PlainSteps"), (Jvm.Cond.fieldLinkNest "PlainSteps$Work" (62 : Nat) "PlainSteps$Program" "ends" "[I" "PlainSteps"), (Jvm.Cond.fieldLinkNest "PlainSteps" (138 : Nat) "PlainSteps$Program" "instructionCount" "I" "PlainSteps"), (Jvm.Cond.methodLinkNest "PlainSteps" (41 : Nat) ({ cls := "PlainSteps$Kept", name := "<init>", desc := "()V" } : Jvm.MethodName) "PlainSteps"), (Jvm.Cond.fieldLinkNest "PlainSteps$Work" (48 : Nat) "PlainSteps$Kept" "count" "I" "PlainSteps"), (Jvm.Cond.fieldLinkNest "PlainSteps" (218 : Nat) "PlainSteps$Kept" "count" "I" "PlainSteps"), (Jvm.Cond.fieldLinkNest "PlainSteps$Work" (54 : Nat) "PlainSteps$Kept" "level" "I" "PlainSteps"), (Jvm.Cond.fieldLinkNest "PlainSteps$Machine" (46 : Nat) "PlainSteps$Kept" "level" "I" "PlainSteps"), (Jvm.Cond.fieldLinkNest "PlainSteps" (215 : Nat) "PlainSteps$Kept" "level" "I" "PlainSteps"), (Jvm.Cond.fieldLinkNest "PlainSteps$Machine" (123 : Nat) "PlainSteps$Work" "wrotePlace" "Z" "PlainSteps"), (Jvm.Cond.fieldLinkNest "PlainSteps$Machine" (94 : Nat) "PlainSteps$Work" "halts" "Z" "PlainSteps"), (Jvm.Cond.fieldLinkNest "PlainSteps" (167 : Nat) "PlainSteps$Machine" "halt" "I" "PlainSteps"), (Jvm.Cond.fieldLinkNest "PlainSteps" (207 : Nat) "PlainSteps$Machine" "faultKind" "I" "PlainSteps"), (Jvm.Cond.fieldLinkNest "PlainSteps" (210 : Nat) "PlainSteps$Machine" "faultPlace" "I" "PlainSteps")]
theorem zx_0 : (.fieldLinkNest "PlainSteps" 78 "PlainSteps$Registers" "count" "I" "PlainSteps" : Cond) ∈ zq_nws := List.mem_of_getElem? (i := 0) rfl
theorem zx_1 : (.methodLinkNest "PlainSteps" 18 zy_Bytes_init "PlainSteps" : Cond) ∈ zq_nws := List.mem_of_getElem? (i := 1) rfl
theorem zx_2 : (.fieldLinkNest "PlainSteps" 91 "PlainSteps$Operands" "constantCount" "I" "PlainSteps" : Cond) ∈ zq_nws := List.mem_of_getElem? (i := 2) rfl
theorem zx_3 : (.fieldLinkNest "PlainSteps" 102 "PlainSteps$Operands" "fieldCount" "I" "PlainSteps" : Cond) ∈ zq_nws := List.mem_of_getElem? (i := 3) rfl
theorem zx_4 : (.methodLinkNest "PlainSteps" 34 zy_Program_init "PlainSteps" : Cond) ∈ zq_nws := List.mem_of_getElem? (i := 4) rfl
theorem zx_5 : (.fieldLinkNest "PlainSteps$Work" 119 "PlainSteps$Program" "ops" "[I" "PlainSteps" : Cond) ∈ zq_nws := List.mem_of_getElem? (i := 5) rfl
theorem zx_6 : (.fieldLinkNest "PlainSteps$Work" 125 "PlainSteps$Program" "firsts" "[I" "PlainSteps" : Cond) ∈ zq_nws := List.mem_of_getElem? (i := 6) rfl
theorem zx_7 : (.fieldLinkNest "PlainSteps$Work" 134 "PlainSteps$Program" "seconds" "[I" "PlainSteps" : Cond) ∈ zq_nws := List.mem_of_getElem? (i := 7) rfl
theorem zx_8 : (.fieldLinkNest "PlainSteps$Work" 122 "PlainSteps$Program" "targets" "[I" "PlainSteps" : Cond) ∈ zq_nws := List.mem_of_getElem? (i := 8) rfl
theorem zx_9 : (.fieldLinkNest "PlainSteps" 122 "PlainSteps$Program" "transferCount" "I" "PlainSteps" : Cond) ∈ zq_nws := List.mem_of_getElem? (i := 9) rfl
theorem zx_10 : (.fieldLinkNest "PlainSteps$Work" 57 "PlainSteps$Program" "starts" "[I" "PlainSteps" : Cond) ∈ zq_nws := List.mem_of_getElem? (i := 10) rfl
theorem zx_11 : (.fieldLinkNest "PlainSteps$Work" 62 "PlainSteps$Program" "ends" "[I" "PlainSteps" : Cond) ∈ zq_nws := List.mem_of_getElem? (i := 11) rfl
theorem zx_12 : (.fieldLinkNest "PlainSteps" 138 "PlainSteps$Program" "instructionCount" "I" "PlainSteps" : Cond) ∈ zq_nws := List.mem_of_getElem? (i := 12) rfl
theorem zx_13 : (.methodLinkNest "PlainSteps" 41 zy_Kept_init "PlainSteps" : Cond) ∈ zq_nws := List.mem_of_getElem? (i := 13) rfl
theorem zx_14 : (.fieldLinkNest "PlainSteps$Work" 48 "PlainSteps$Kept" "count" "I" "PlainSteps" : Cond) ∈ zq_nws := List.mem_of_getElem? (i := 14) rfl
theorem zx_15 : (.fieldLinkNest "PlainSteps" 218 "PlainSteps$Kept" "count" "I" "PlainSteps" : Cond) ∈ zq_nws := List.mem_of_getElem? (i := 15) rfl
theorem zx_16 : (.fieldLinkNest "PlainSteps$Work" 54 "PlainSteps$Kept" "level" "I" "PlainSteps" : Cond) ∈ zq_nws := List.mem_of_getElem? (i := 16) rfl
theorem zx_17 : (.fieldLinkNest "PlainSteps$Machine" 46 "PlainSteps$Kept" "level" "I" "PlainSteps" : Cond) ∈ zq_nws := List.mem_of_getElem? (i := 17) rfl
theorem zx_18 : (.fieldLinkNest "PlainSteps" 215 "PlainSteps$Kept" "level" "I" "PlainSteps" : Cond) ∈ zq_nws := List.mem_of_getElem? (i := 18) rfl
theorem zx_19 : (.fieldLinkNest "PlainSteps$Machine" 123 "PlainSteps$Work" "wrotePlace" "Z" "PlainSteps" : Cond) ∈ zq_nws := List.mem_of_getElem? (i := 19) rfl
theorem zx_20 : (.fieldLinkNest "PlainSteps$Machine" 94 "PlainSteps$Work" "halts" "Z" "PlainSteps" : Cond) ∈ zq_nws := List.mem_of_getElem? (i := 20) rfl
theorem zx_21 : (.fieldLinkNest "PlainSteps" 167 "PlainSteps$Machine" "halt" "I" "PlainSteps" : Cond) ∈ zq_nws := List.mem_of_getElem? (i := 21) rfl
theorem zx_22 : (.fieldLinkNest "PlainSteps" 207 "PlainSteps$Machine" "faultKind" "I" "PlainSteps" : Cond) ∈ zq_nws := List.mem_of_getElem? (i := 22) rfl
theorem zx_23 : (.fieldLinkNest "PlainSteps" 210 "PlainSteps$Machine" "faultPlace" "I" "PlainSteps" : Cond) ∈ zq_nws := List.mem_of_getElem? (i := 23) rfl
def zq_strs : List (String × Nat × String) := [("PlainSteps", 73, "a register has 1 to 64 bits"), ("PlainSteps", 84, "there are 24 registers"), ("PlainSteps", 94, "there are 16 constants"), ("PlainSteps", 100, "a field has bits of 0 to 15"), ("PlainSteps", 105, "there are 16 fields"), ("PlainSteps", 111, "no such op"), ("PlainSteps", 117, "no such operand"), ("PlainSteps", 120, "no such register"), ("PlainSteps", 125, "there are 200 transfers"), ("PlainSteps", 132, "mask and value have 16 bits"), ("PlainSteps", 134, "the value has bits that the mask has not"), ("PlainSteps", 136, "no such way"), ("PlainSteps", 141, "there are 40 instructions"), ("PlainSteps", 153, "no such byte"), ("PlainSteps", 156, "a byte is 0 to 255"), ("PlainSteps", 165, "1 to 5000 steps"), ("PlainSteps", 172, "the machine has halted"), ("PlainSteps", 193, "no such line"), ("PlainSteps", 199, "a rank is 0 to 14"), ("PlainSteps", 205, "0 for the kind, 1 for the place"), ("PlainSteps", 213, "no such counter")]
theorem zh_Registers_init : zy_Registers_init.cls ≠ "java/lang/invoke/MethodHandle" ∧ zy_Registers_init.cls ≠ "java/lang/invoke/VarHandle" ∧ (parseMethodDescriptor zy_Registers_init.desc).map (fun d => d.parameters.length) = some 0 := by decide +kernel
theorem zh_Registers_add : zy_Registers_add.cls = "PlainSteps$Registers" ∧ zy_Registers_add.cls ≠ "java/lang/invoke/MethodHandle" ∧ zy_Registers_add.cls ≠ "java/lang/invoke/VarHandle" ∧ (parseMethodDescriptor zy_Registers_add.desc).map (fun d => d.parameters.length) = some 1 := by decide +kernel
theorem zh_Registers_has : zy_Registers_has.cls = "PlainSteps$Registers" ∧ zy_Registers_has.cls ≠ "java/lang/invoke/MethodHandle" ∧ zy_Registers_has.cls ≠ "java/lang/invoke/VarHandle" ∧ (parseMethodDescriptor zy_Registers_has.desc).map (fun d => d.parameters.length) = some 1 := by decide +kernel
theorem zh_Registers_valueOf : zy_Registers_valueOf.cls = "PlainSteps$Registers" ∧ zy_Registers_valueOf.cls ≠ "java/lang/invoke/MethodHandle" ∧ zy_Registers_valueOf.cls ≠ "java/lang/invoke/VarHandle" ∧ (parseMethodDescriptor zy_Registers_valueOf.desc).map (fun d => d.parameters.length) = some 1 := by decide +kernel
theorem zh_Registers_isMarked : zy_Registers_isMarked.cls = "PlainSteps$Registers" ∧ zy_Registers_isMarked.cls ≠ "java/lang/invoke/MethodHandle" ∧ zy_Registers_isMarked.cls ≠ "java/lang/invoke/VarHandle" ∧ (parseMethodDescriptor zy_Registers_isMarked.desc).map (fun d => d.parameters.length) = some 1 := by decide +kernel
theorem zh_Registers_put : zy_Registers_put.cls = "PlainSteps$Registers" ∧ zy_Registers_put.cls ≠ "java/lang/invoke/MethodHandle" ∧ zy_Registers_put.cls ≠ "java/lang/invoke/VarHandle" ∧ (parseMethodDescriptor zy_Registers_put.desc).map (fun d => d.parameters.length) = some 3 := by decide +kernel
theorem zh_Registers_placeNow : zy_Registers_placeNow.cls = "PlainSteps$Registers" ∧ zy_Registers_placeNow.cls ≠ "java/lang/invoke/MethodHandle" ∧ zy_Registers_placeNow.cls ≠ "java/lang/invoke/VarHandle" ∧ (parseMethodDescriptor zy_Registers_placeNow.desc).map (fun d => d.parameters.length) = some 0 := by decide +kernel
theorem zh_Registers_movePlace : zy_Registers_movePlace.cls = "PlainSteps$Registers" ∧ zy_Registers_movePlace.cls ≠ "java/lang/invoke/MethodHandle" ∧ zy_Registers_movePlace.cls ≠ "java/lang/invoke/VarHandle" ∧ (parseMethodDescriptor zy_Registers_movePlace.desc).map (fun d => d.parameters.length) = some 1 := by decide +kernel
theorem zh_Bytes_init : zy_Bytes_init.cls ≠ "java/lang/invoke/MethodHandle" ∧ zy_Bytes_init.cls ≠ "java/lang/invoke/VarHandle" ∧ (parseMethodDescriptor zy_Bytes_init.desc).map (fun d => d.parameters.length) = some 0 := by decide +kernel
theorem zh_Bytes_hasByte : zy_Bytes_hasByte.cls = "PlainSteps$Bytes" ∧ zy_Bytes_hasByte.cls ≠ "java/lang/invoke/MethodHandle" ∧ zy_Bytes_hasByte.cls ≠ "java/lang/invoke/VarHandle" ∧ (parseMethodDescriptor zy_Bytes_hasByte.desc).map (fun d => d.parameters.length) = some 1 := by decide +kernel
theorem zh_Bytes_hasWord : zy_Bytes_hasWord.cls = "PlainSteps$Bytes" ∧ zy_Bytes_hasWord.cls ≠ "java/lang/invoke/MethodHandle" ∧ zy_Bytes_hasWord.cls ≠ "java/lang/invoke/VarHandle" ∧ (parseMethodDescriptor zy_Bytes_hasWord.desc).map (fun d => d.parameters.length) = some 1 := by decide +kernel
theorem zh_Bytes_byteOf : zy_Bytes_byteOf.cls = "PlainSteps$Bytes" ∧ zy_Bytes_byteOf.cls ≠ "java/lang/invoke/MethodHandle" ∧ zy_Bytes_byteOf.cls ≠ "java/lang/invoke/VarHandle" ∧ (parseMethodDescriptor zy_Bytes_byteOf.desc).map (fun d => d.parameters.length) = some 1 := by decide +kernel
theorem zh_Bytes_wordOf : zy_Bytes_wordOf.cls = "PlainSteps$Bytes" ∧ zy_Bytes_wordOf.cls ≠ "java/lang/invoke/MethodHandle" ∧ zy_Bytes_wordOf.cls ≠ "java/lang/invoke/VarHandle" ∧ (parseMethodDescriptor zy_Bytes_wordOf.desc).map (fun d => d.parameters.length) = some 1 := by decide +kernel
theorem zh_Bytes_putByte : zy_Bytes_putByte.cls = "PlainSteps$Bytes" ∧ zy_Bytes_putByte.cls ≠ "java/lang/invoke/MethodHandle" ∧ zy_Bytes_putByte.cls ≠ "java/lang/invoke/VarHandle" ∧ (parseMethodDescriptor zy_Bytes_putByte.desc).map (fun d => d.parameters.length) = some 2 := by decide +kernel
theorem zh_Bytes_putWord : zy_Bytes_putWord.cls = "PlainSteps$Bytes" ∧ zy_Bytes_putWord.cls ≠ "java/lang/invoke/MethodHandle" ∧ zy_Bytes_putWord.cls ≠ "java/lang/invoke/VarHandle" ∧ (parseMethodDescriptor zy_Bytes_putWord.desc).map (fun d => d.parameters.length) = some 2 := by decide +kernel
theorem zh_Operands_init : zy_Operands_init.cls ≠ "java/lang/invoke/MethodHandle" ∧ zy_Operands_init.cls ≠ "java/lang/invoke/VarHandle" ∧ (parseMethodDescriptor zy_Operands_init.desc).map (fun d => d.parameters.length) = some 1 := by decide +kernel
theorem zh_Operands_addConstant : zy_Operands_addConstant.cls = "PlainSteps$Operands" ∧ zy_Operands_addConstant.cls ≠ "java/lang/invoke/MethodHandle" ∧ zy_Operands_addConstant.cls ≠ "java/lang/invoke/VarHandle" ∧ (parseMethodDescriptor zy_Operands_addConstant.desc).map (fun d => d.parameters.length) = some 1 := by decide +kernel
theorem zh_Operands_addField : zy_Operands_addField.cls = "PlainSteps$Operands" ∧ zy_Operands_addField.cls ≠ "java/lang/invoke/MethodHandle" ∧ zy_Operands_addField.cls ≠ "java/lang/invoke/VarHandle" ∧ (parseMethodDescriptor zy_Operands_addField.desc).map (fun d => d.parameters.length) = some 3 := by decide +kernel
theorem zh_Operands_has : zy_Operands_has.cls = "PlainSteps$Operands" ∧ zy_Operands_has.cls ≠ "java/lang/invoke/MethodHandle" ∧ zy_Operands_has.cls ≠ "java/lang/invoke/VarHandle" ∧ (parseMethodDescriptor zy_Operands_has.desc).map (fun d => d.parameters.length) = some 1 := by decide +kernel
theorem zh_Operands_read : zy_Operands_read.cls = "PlainSteps$Operands" ∧ zy_Operands_read.cls ≠ "java/lang/invoke/MethodHandle" ∧ zy_Operands_read.cls ≠ "java/lang/invoke/VarHandle" ∧ (parseMethodDescriptor zy_Operands_read.desc).map (fun d => d.parameters.length) = some 2 := by decide +kernel
theorem zh_Operands_readField : zy_Operands_readField.cls = "PlainSteps$Operands" ∧ zy_Operands_readField.cls ≠ "java/lang/invoke/MethodHandle" ∧ zy_Operands_readField.cls ≠ "java/lang/invoke/VarHandle" ∧ (parseMethodDescriptor zy_Operands_readField.desc).map (fun d => d.parameters.length) = some 2 := by decide +kernel
theorem zh_Operands_isMarked : zy_Operands_isMarked.cls = "PlainSteps$Operands" ∧ zy_Operands_isMarked.cls ≠ "java/lang/invoke/MethodHandle" ∧ zy_Operands_isMarked.cls ≠ "java/lang/invoke/VarHandle" ∧ (parseMethodDescriptor zy_Operands_isMarked.desc).map (fun d => d.parameters.length) = some 1 := by decide +kernel
theorem zh_Program_init : zy_Program_init.cls ≠ "java/lang/invoke/MethodHandle" ∧ zy_Program_init.cls ≠ "java/lang/invoke/VarHandle" ∧ (parseMethodDescriptor zy_Program_init.desc).map (fun d => d.parameters.length) = some 0 := by decide +kernel
theorem zh_Program_addTransfer : zy_Program_addTransfer.cls = "PlainSteps$Program" ∧ zy_Program_addTransfer.cls ≠ "java/lang/invoke/MethodHandle" ∧ zy_Program_addTransfer.cls ≠ "java/lang/invoke/VarHandle" ∧ (parseMethodDescriptor zy_Program_addTransfer.desc).map (fun d => d.parameters.length) = some 4 := by decide +kernel
theorem zh_Program_addInstruction : zy_Program_addInstruction.cls = "PlainSteps$Program" ∧ zy_Program_addInstruction.cls ≠ "java/lang/invoke/MethodHandle" ∧ zy_Program_addInstruction.cls ≠ "java/lang/invoke/VarHandle" ∧ (parseMethodDescriptor zy_Program_addInstruction.desc).map (fun d => d.parameters.length) = some 3 := by decide +kernel
theorem zh_Program_find : zy_Program_find.cls = "PlainSteps$Program" ∧ zy_Program_find.cls ≠ "java/lang/invoke/MethodHandle" ∧ zy_Program_find.cls ≠ "java/lang/invoke/VarHandle" ∧ (parseMethodDescriptor zy_Program_find.desc).map (fun d => d.parameters.length) = some 1 := by decide +kernel
theorem zh_Program_is : zy_Program_is.cls = "PlainSteps$Program" ∧ zy_Program_is.cls ≠ "java/lang/invoke/MethodHandle" ∧ zy_Program_is.cls ≠ "java/lang/invoke/VarHandle" ∧ (parseMethodDescriptor zy_Program_is.desc).map (fun d => d.parameters.length) = some 2 := by decide +kernel
theorem zh_Kept_init : zy_Kept_init.cls ≠ "java/lang/invoke/MethodHandle" ∧ zy_Kept_init.cls ≠ "java/lang/invoke/VarHandle" ∧ (parseMethodDescriptor zy_Kept_init.desc).map (fun d => d.parameters.length) = some 0 := by decide +kernel
theorem zh_Kept_isFull : zy_Kept_isFull.cls = "PlainSteps$Kept" ∧ zy_Kept_isFull.cls ≠ "java/lang/invoke/MethodHandle" ∧ zy_Kept_isFull.cls ≠ "java/lang/invoke/VarHandle" ∧ (parseMethodDescriptor zy_Kept_isFull.desc).map (fun d => d.parameters.length) = some 0 := by decide +kernel
theorem zh_Kept_keep : zy_Kept_keep.cls = "PlainSteps$Kept" ∧ zy_Kept_keep.cls ≠ "java/lang/invoke/MethodHandle" ∧ zy_Kept_keep.cls ≠ "java/lang/invoke/VarHandle" ∧ (parseMethodDescriptor zy_Kept_keep.desc).map (fun d => d.parameters.length) = some 2 := by decide +kernel
theorem zh_Kept_goBack : zy_Kept_goBack.cls = "PlainSteps$Kept" ∧ zy_Kept_goBack.cls ≠ "java/lang/invoke/MethodHandle" ∧ zy_Kept_goBack.cls ≠ "java/lang/invoke/VarHandle" ∧ (parseMethodDescriptor zy_Kept_goBack.desc).map (fun d => d.parameters.length) = some 0 := by decide +kernel
theorem zh_Kept_restore : zy_Kept_restore.cls = "PlainSteps$Kept" ∧ zy_Kept_restore.cls ≠ "java/lang/invoke/MethodHandle" ∧ zy_Kept_restore.cls ≠ "java/lang/invoke/VarHandle" ∧ (parseMethodDescriptor zy_Kept_restore.desc).map (fun d => d.parameters.length) = some 2 := by decide +kernel
theorem zh_Lines_init : zy_Lines_init.cls ≠ "java/lang/invoke/MethodHandle" ∧ zy_Lines_init.cls ≠ "java/lang/invoke/VarHandle" ∧ (parseMethodDescriptor zy_Lines_init.desc).map (fun d => d.parameters.length) = some 0 := by decide +kernel
theorem zh_Lines_has : zy_Lines_has.cls = "PlainSteps$Lines" ∧ zy_Lines_has.cls ≠ "java/lang/invoke/MethodHandle" ∧ zy_Lines_has.cls ≠ "java/lang/invoke/VarHandle" ∧ (parseMethodDescriptor zy_Lines_has.desc).map (fun d => d.parameters.length) = some 1 := by decide +kernel
theorem zh_Lines_turn : zy_Lines_turn.cls = "PlainSteps$Lines" ∧ zy_Lines_turn.cls ≠ "java/lang/invoke/MethodHandle" ∧ zy_Lines_turn.cls ≠ "java/lang/invoke/VarHandle" ∧ (parseMethodDescriptor zy_Lines_turn.desc).map (fun d => d.parameters.length) = some 2 := by decide +kernel
theorem zh_Lines_giveRank : zy_Lines_giveRank.cls = "PlainSteps$Lines" ∧ zy_Lines_giveRank.cls ≠ "java/lang/invoke/MethodHandle" ∧ zy_Lines_giveRank.cls ≠ "java/lang/invoke/VarHandle" ∧ (parseMethodDescriptor zy_Lines_giveRank.desc).map (fun d => d.parameters.length) = some 2 := by decide +kernel
theorem zh_Lines_rankOf : zy_Lines_rankOf.cls = "PlainSteps$Lines" ∧ zy_Lines_rankOf.cls ≠ "java/lang/invoke/MethodHandle" ∧ zy_Lines_rankOf.cls ≠ "java/lang/invoke/VarHandle" ∧ (parseMethodDescriptor zy_Lines_rankOf.desc).map (fun d => d.parameters.length) = some 1 := by decide +kernel
theorem zh_Lines_mostUrgent : zy_Lines_mostUrgent.cls = "PlainSteps$Lines" ∧ zy_Lines_mostUrgent.cls ≠ "java/lang/invoke/MethodHandle" ∧ zy_Lines_mostUrgent.cls ≠ "java/lang/invoke/VarHandle" ∧ (parseMethodDescriptor zy_Lines_mostUrgent.desc).map (fun d => d.parameters.length) = some 1 := by decide +kernel
theorem zh_Writes_init : zy_Writes_init.cls ≠ "java/lang/invoke/MethodHandle" ∧ zy_Writes_init.cls ≠ "java/lang/invoke/VarHandle" ∧ (parseMethodDescriptor zy_Writes_init.desc).map (fun d => d.parameters.length) = some 2 := by decide +kernel
theorem zh_Writes_clear : zy_Writes_clear.cls = "PlainSteps$Writes" ∧ zy_Writes_clear.cls ≠ "java/lang/invoke/MethodHandle" ∧ zy_Writes_clear.cls ≠ "java/lang/invoke/VarHandle" ∧ (parseMethodDescriptor zy_Writes_clear.desc).map (fun d => d.parameters.length) = some 0 := by decide +kernel
theorem zh_Writes_note : zy_Writes_note.cls = "PlainSteps$Writes" ∧ zy_Writes_note.cls ≠ "java/lang/invoke/MethodHandle" ∧ zy_Writes_note.cls ≠ "java/lang/invoke/VarHandle" ∧ (parseMethodDescriptor zy_Writes_note.desc).map (fun d => d.parameters.length) = some 3 := by decide +kernel
theorem zh_Writes_noteReverse : zy_Writes_noteReverse.cls = "PlainSteps$Writes" ∧ zy_Writes_noteReverse.cls ≠ "java/lang/invoke/MethodHandle" ∧ zy_Writes_noteReverse.cls ≠ "java/lang/invoke/VarHandle" ∧ (parseMethodDescriptor zy_Writes_noteReverse.desc).map (fun d => d.parameters.length) = some 2 := by decide +kernel
theorem zh_Writes_perform : zy_Writes_perform.cls = "PlainSteps$Writes" ∧ zy_Writes_perform.cls ≠ "java/lang/invoke/MethodHandle" ∧ zy_Writes_perform.cls ≠ "java/lang/invoke/VarHandle" ∧ (parseMethodDescriptor zy_Writes_perform.desc).map (fun d => d.parameters.length) = some 3 := by decide +kernel
theorem zh_Writes_performInOrder : zy_Writes_performInOrder.cls = "PlainSteps$Writes" ∧ zy_Writes_performInOrder.cls ≠ "java/lang/invoke/MethodHandle" ∧ zy_Writes_performInOrder.cls ≠ "java/lang/invoke/VarHandle" ∧ (parseMethodDescriptor zy_Writes_performInOrder.desc).map (fun d => d.parameters.length) = some 0 := by decide +kernel
theorem zh_Writes_performBackwards : zy_Writes_performBackwards.cls = "PlainSteps$Writes" ∧ zy_Writes_performBackwards.cls ≠ "java/lang/invoke/MethodHandle" ∧ zy_Writes_performBackwards.cls ≠ "java/lang/invoke/VarHandle" ∧ (parseMethodDescriptor zy_Writes_performBackwards.desc).map (fun d => d.parameters.length) = some 0 := by decide +kernel
theorem zh_Work_init : zy_Work_init.cls ≠ "java/lang/invoke/MethodHandle" ∧ zy_Work_init.cls ≠ "java/lang/invoke/VarHandle" ∧ (parseMethodDescriptor zy_Work_init.desc).map (fun d => d.parameters.length) = some 6 := by decide +kernel
theorem zh_Work_carryOut : zy_Work_carryOut.cls = "PlainSteps$Work" ∧ zy_Work_carryOut.cls ≠ "java/lang/invoke/MethodHandle" ∧ zy_Work_carryOut.cls ≠ "java/lang/invoke/VarHandle" ∧ (parseMethodDescriptor zy_Work_carryOut.desc).map (fun d => d.parameters.length) = some 2 := by decide +kernel
theorem zh_Work_prepare : zy_Work_prepare.cls = "PlainSteps$Work" ∧ zy_Work_prepare.cls ≠ "java/lang/invoke/MethodHandle" ∧ zy_Work_prepare.cls ≠ "java/lang/invoke/VarHandle" ∧ (parseMethodDescriptor zy_Work_prepare.desc).map (fun d => d.parameters.length) = some 2 := by decide +kernel
theorem zh_Work_writeWhatWaits : zy_Work_writeWhatWaits.cls = "PlainSteps$Work" ∧ zy_Work_writeWhatWaits.cls ≠ "java/lang/invoke/MethodHandle" ∧ zy_Work_writeWhatWaits.cls ≠ "java/lang/invoke/VarHandle" ∧ (parseMethodDescriptor zy_Work_writeWhatWaits.desc).map (fun d => d.parameters.length) = some 0 := by decide +kernel
theorem zh_Work_takeBack : zy_Work_takeBack.cls = "PlainSteps$Work" ∧ zy_Work_takeBack.cls ≠ "java/lang/invoke/MethodHandle" ∧ zy_Work_takeBack.cls ≠ "java/lang/invoke/VarHandle" ∧ (parseMethodDescriptor zy_Work_takeBack.desc).map (fun d => d.parameters.length) = some 0 := by decide +kernel
theorem zh_Work_doTransfer : zy_Work_doTransfer.cls = "PlainSteps$Work" ∧ zy_Work_doTransfer.cls ≠ "java/lang/invoke/MethodHandle" ∧ zy_Work_doTransfer.cls ≠ "java/lang/invoke/VarHandle" ∧ (parseMethodDescriptor zy_Work_doTransfer.desc).map (fun d => d.parameters.length) = some 1 := by decide +kernel
theorem zh_Work_divide : zy_Work_divide.cls = "PlainSteps$Work" ∧ zy_Work_divide.cls ≠ "java/lang/invoke/MethodHandle" ∧ zy_Work_divide.cls ≠ "java/lang/invoke/VarHandle" ∧ (parseMethodDescriptor zy_Work_divide.desc).map (fun d => d.parameters.length) = some 5 := by decide +kernel
theorem zh_Work_load : zy_Work_load.cls = "PlainSteps$Work" ∧ zy_Work_load.cls ≠ "java/lang/invoke/MethodHandle" ∧ zy_Work_load.cls ≠ "java/lang/invoke/VarHandle" ∧ (parseMethodDescriptor zy_Work_load.desc).map (fun d => d.parameters.length) = some 4 := by decide +kernel
theorem zh_Work_store : zy_Work_store.cls = "PlainSteps$Work" ∧ zy_Work_store.cls ≠ "java/lang/invoke/MethodHandle" ∧ zy_Work_store.cls ≠ "java/lang/invoke/VarHandle" ∧ (parseMethodDescriptor zy_Work_store.desc).map (fun d => d.parameters.length) = some 3 := by decide +kernel
theorem zh_Work_goBack : zy_Work_goBack.cls = "PlainSteps$Work" ∧ zy_Work_goBack.cls ≠ "java/lang/invoke/MethodHandle" ∧ zy_Work_goBack.cls ≠ "java/lang/invoke/VarHandle" ∧ (parseMethodDescriptor zy_Work_goBack.desc).map (fun d => d.parameters.length) = some 0 := by decide +kernel
theorem zh_Work_write : zy_Work_write.cls = "PlainSteps$Work" ∧ zy_Work_write.cls ≠ "java/lang/invoke/MethodHandle" ∧ zy_Work_write.cls ≠ "java/lang/invoke/VarHandle" ∧ (parseMethodDescriptor zy_Work_write.desc).map (fun d => d.parameters.length) = some 3 := by decide +kernel
theorem zh_Work_result : zy_Work_result.cls = "PlainSteps$Work" ∧ zy_Work_result.cls ≠ "java/lang/invoke/MethodHandle" ∧ zy_Work_result.cls ≠ "java/lang/invoke/VarHandle" ∧ (parseMethodDescriptor zy_Work_result.desc).map (fun d => d.parameters.length) = some 3 := by decide +kernel
theorem zh_Work_isBelow : zy_Work_isBelow.cls = "PlainSteps$Work" ∧ zy_Work_isBelow.cls ≠ "java/lang/invoke/MethodHandle" ∧ zy_Work_isBelow.cls ≠ "java/lang/invoke/VarHandle" ∧ (parseMethodDescriptor zy_Work_isBelow.desc).map (fun d => d.parameters.length) = some 2 := by decide +kernel
theorem zh_Work_quotient : zy_Work_quotient.cls = "PlainSteps$Work" ∧ zy_Work_quotient.cls ≠ "java/lang/invoke/MethodHandle" ∧ zy_Work_quotient.cls ≠ "java/lang/invoke/VarHandle" ∧ (parseMethodDescriptor zy_Work_quotient.desc).map (fun d => d.parameters.length) = some 2 := by decide +kernel
theorem zh_Machine_init : zy_Machine_init.cls ≠ "java/lang/invoke/MethodHandle" ∧ zy_Machine_init.cls ≠ "java/lang/invoke/VarHandle" ∧ (parseMethodDescriptor zy_Machine_init.desc).map (fun d => d.parameters.length) = some 7 := by decide +kernel
theorem zh_Machine_loseWaiting : zy_Machine_loseWaiting.cls = "PlainSteps$Machine" ∧ zy_Machine_loseWaiting.cls ≠ "java/lang/invoke/MethodHandle" ∧ zy_Machine_loseWaiting.cls ≠ "java/lang/invoke/VarHandle" ∧ (parseMethodDescriptor zy_Machine_loseWaiting.desc).map (fun d => d.parameters.length) = some 0 := by decide +kernel
theorem zh_Machine_takeStep : zy_Machine_takeStep.cls = "PlainSteps$Machine" ∧ zy_Machine_takeStep.cls ≠ "java/lang/invoke/MethodHandle" ∧ zy_Machine_takeStep.cls ≠ "java/lang/invoke/VarHandle" ∧ (parseMethodDescriptor zy_Machine_takeStep.desc).map (fun d => d.parameters.length) = some 0 := by decide +kernel
theorem zh_Machine_interruptBy : zy_Machine_interruptBy.cls = "PlainSteps$Machine" ∧ zy_Machine_interruptBy.cls ≠ "java/lang/invoke/MethodHandle" ∧ zy_Machine_interruptBy.cls ≠ "java/lang/invoke/VarHandle" ∧ (parseMethodDescriptor zy_Machine_interruptBy.desc).map (fun d => d.parameters.length) = some 1 := by decide +kernel
theorem zh_Machine_settlePlace : zy_Machine_settlePlace.cls = "PlainSteps$Machine" ∧ zy_Machine_settlePlace.cls ≠ "java/lang/invoke/MethodHandle" ∧ zy_Machine_settlePlace.cls ≠ "java/lang/invoke/VarHandle" ∧ (parseMethodDescriptor zy_Machine_settlePlace.desc).map (fun d => d.parameters.length) = some 2 := by decide +kernel
theorem zh_Machine_failWith : zy_Machine_failWith.cls = "PlainSteps$Machine" ∧ zy_Machine_failWith.cls ≠ "java/lang/invoke/MethodHandle" ∧ zy_Machine_failWith.cls ≠ "java/lang/invoke/VarHandle" ∧ (parseMethodDescriptor zy_Machine_failWith.desc).map (fun d => d.parameters.length) = some 2 := by decide +kernel
theorem zh_PS_init : zy_PS_init.cls ≠ "java/lang/invoke/MethodHandle" ∧ zy_PS_init.cls ≠ "java/lang/invoke/VarHandle" ∧ (parseMethodDescriptor zy_PS_init.desc).map (fun d => d.parameters.length) = some 0 := by decide +kernel
theorem zh_PS_register : zy_PS_register.cls = "PlainSteps" ∧ zy_PS_register.cls ≠ "java/lang/invoke/MethodHandle" ∧ zy_PS_register.cls ≠ "java/lang/invoke/VarHandle" ∧ (parseMethodDescriptor zy_PS_register.desc).map (fun d => d.parameters.length) = some 1 := by decide +kernel
theorem zh_PS_constant : zy_PS_constant.cls = "PlainSteps" ∧ zy_PS_constant.cls ≠ "java/lang/invoke/MethodHandle" ∧ zy_PS_constant.cls ≠ "java/lang/invoke/VarHandle" ∧ (parseMethodDescriptor zy_PS_constant.desc).map (fun d => d.parameters.length) = some 1 := by decide +kernel
theorem zh_PS_field : zy_PS_field.cls = "PlainSteps" ∧ zy_PS_field.cls ≠ "java/lang/invoke/MethodHandle" ∧ zy_PS_field.cls ≠ "java/lang/invoke/VarHandle" ∧ (parseMethodDescriptor zy_PS_field.desc).map (fun d => d.parameters.length) = some 3 := by decide +kernel
theorem zh_PS_transfer : zy_PS_transfer.cls = "PlainSteps" ∧ zy_PS_transfer.cls ≠ "java/lang/invoke/MethodHandle" ∧ zy_PS_transfer.cls ≠ "java/lang/invoke/VarHandle" ∧ (parseMethodDescriptor zy_PS_transfer.desc).map (fun d => d.parameters.length) = some 4 := by decide +kernel
theorem zh_PS_instruction : zy_PS_instruction.cls = "PlainSteps" ∧ zy_PS_instruction.cls ≠ "java/lang/invoke/MethodHandle" ∧ zy_PS_instruction.cls ≠ "java/lang/invoke/VarHandle" ∧ (parseMethodDescriptor zy_PS_instruction.desc).map (fun d => d.parameters.length) = some 3 := by decide +kernel
theorem zh_PS_memory : zy_PS_memory.cls = "PlainSteps" ∧ zy_PS_memory.cls ≠ "java/lang/invoke/MethodHandle" ∧ zy_PS_memory.cls ≠ "java/lang/invoke/VarHandle" ∧ (parseMethodDescriptor zy_PS_memory.desc).map (fun d => d.parameters.length) = some 2 := by decide +kernel
theorem zh_PS_byteAt : zy_PS_byteAt.cls = "PlainSteps" ∧ zy_PS_byteAt.cls ≠ "java/lang/invoke/MethodHandle" ∧ zy_PS_byteAt.cls ≠ "java/lang/invoke/VarHandle" ∧ (parseMethodDescriptor zy_PS_byteAt.desc).map (fun d => d.parameters.length) = some 1 := by decide +kernel
theorem zh_PS_step : zy_PS_step.cls = "PlainSteps" ∧ zy_PS_step.cls ≠ "java/lang/invoke/MethodHandle" ∧ zy_PS_step.cls ≠ "java/lang/invoke/VarHandle" ∧ (parseMethodDescriptor zy_PS_step.desc).map (fun d => d.parameters.length) = some 1 := by decide +kernel
theorem zh_PS_set : zy_PS_set.cls = "PlainSteps" ∧ zy_PS_set.cls ≠ "java/lang/invoke/MethodHandle" ∧ zy_PS_set.cls ≠ "java/lang/invoke/VarHandle" ∧ (parseMethodDescriptor zy_PS_set.desc).map (fun d => d.parameters.length) = some 2 := by decide +kernel
theorem zh_PS_get : zy_PS_get.cls = "PlainSteps" ∧ zy_PS_get.cls ≠ "java/lang/invoke/MethodHandle" ∧ zy_PS_get.cls ≠ "java/lang/invoke/VarHandle" ∧ (parseMethodDescriptor zy_PS_get.desc).map (fun d => d.parameters.length) = some 1 := by decide +kernel
theorem zh_PS_mark : zy_PS_mark.cls = "PlainSteps" ∧ zy_PS_mark.cls ≠ "java/lang/invoke/MethodHandle" ∧ zy_PS_mark.cls ≠ "java/lang/invoke/VarHandle" ∧ (parseMethodDescriptor zy_PS_mark.desc).map (fun d => d.parameters.length) = some 1 := by decide +kernel
theorem zh_PS_line : zy_PS_line.cls = "PlainSteps" ∧ zy_PS_line.cls ≠ "java/lang/invoke/MethodHandle" ∧ zy_PS_line.cls ≠ "java/lang/invoke/VarHandle" ∧ (parseMethodDescriptor zy_PS_line.desc).map (fun d => d.parameters.length) = some 2 := by decide +kernel
theorem zh_PS_enable : zy_PS_enable.cls = "PlainSteps" ∧ zy_PS_enable.cls ≠ "java/lang/invoke/MethodHandle" ∧ zy_PS_enable.cls ≠ "java/lang/invoke/VarHandle" ∧ (parseMethodDescriptor zy_PS_enable.desc).map (fun d => d.parameters.length) = some 2 := by decide +kernel
theorem zh_PS_fault : zy_PS_fault.cls = "PlainSteps" ∧ zy_PS_fault.cls ≠ "java/lang/invoke/MethodHandle" ∧ zy_PS_fault.cls ≠ "java/lang/invoke/VarHandle" ∧ (parseMethodDescriptor zy_PS_fault.desc).map (fun d => d.parameters.length) = some 1 := by decide +kernel
theorem zh_PS_halted : zy_PS_halted.cls = "PlainSteps" ∧ zy_PS_halted.cls ≠ "java/lang/invoke/MethodHandle" ∧ zy_PS_halted.cls ≠ "java/lang/invoke/VarHandle" ∧ (parseMethodDescriptor zy_PS_halted.desc).map (fun d => d.parameters.length) = some 0 := by decide +kernel
theorem zh_PS_counter : zy_PS_counter.cls = "PlainSteps" ∧ zy_PS_counter.cls ≠ "java/lang/invoke/MethodHandle" ∧ zy_PS_counter.cls ≠ "java/lang/invoke/VarHandle" ∧ (parseMethodDescriptor zy_PS_counter.desc).map (fun d => d.parameters.length) = some 1 := by decide +kernel
theorem zh_M_init : zy_M_init.cls ≠ "java/lang/invoke/MethodHandle" ∧ zy_M_init.cls ≠ "java/lang/invoke/VarHandle" ∧ (parseMethodDescriptor zy_M_init.desc).map (fun d => d.parameters.length) = some 0 := by decide +kernel
theorem zh_M_thrown : zy_M_thrown.cls = "PlainStepsModel" ∧ zy_M_thrown.cls ≠ "java/lang/invoke/MethodHandle" ∧ zy_M_thrown.cls ≠ "java/lang/invoke/VarHandle" ∧ (parseMethodDescriptor zy_M_thrown.desc).map (fun d => d.parameters.length) = some 0 := by decide +kernel
theorem zh_M_in : zy_M_in.cls = "PlainStepsModel" ∧ zy_M_in.cls ≠ "java/lang/invoke/MethodHandle" ∧ zy_M_in.cls ≠ "java/lang/invoke/VarHandle" ∧ (parseMethodDescriptor zy_M_in.desc).map (fun d => d.parameters.length) = some 3 := by decide +kernel
theorem zh_M_goes : zy_M_goes.cls = "PlainStepsModel" ∧ zy_M_goes.cls ≠ "java/lang/invoke/MethodHandle" ∧ zy_M_goes.cls ≠ "java/lang/invoke/VarHandle" ∧ (parseMethodDescriptor zy_M_goes.desc).map (fun d => d.parameters.length) = some 2 := by decide +kernel
theorem zh_M_cut : zy_M_cut.cls = "PlainStepsModel" ∧ zy_M_cut.cls ≠ "java/lang/invoke/MethodHandle" ∧ zy_M_cut.cls ≠ "java/lang/invoke/VarHandle" ∧ (parseMethodDescriptor zy_M_cut.desc).map (fun d => d.parameters.length) = some 2 := by decide +kernel
theorem zh_M_register : zy_M_register.cls = "PlainStepsModel" ∧ zy_M_register.cls ≠ "java/lang/invoke/MethodHandle" ∧ zy_M_register.cls ≠ "java/lang/invoke/VarHandle" ∧ (parseMethodDescriptor zy_M_register.desc).map (fun d => d.parameters.length) = some 1 := by decide +kernel
theorem zh_M_constant : zy_M_constant.cls = "PlainStepsModel" ∧ zy_M_constant.cls ≠ "java/lang/invoke/MethodHandle" ∧ zy_M_constant.cls ≠ "java/lang/invoke/VarHandle" ∧ (parseMethodDescriptor zy_M_constant.desc).map (fun d => d.parameters.length) = some 1 := by decide +kernel
theorem zh_M_field : zy_M_field.cls = "PlainStepsModel" ∧ zy_M_field.cls ≠ "java/lang/invoke/MethodHandle" ∧ zy_M_field.cls ≠ "java/lang/invoke/VarHandle" ∧ (parseMethodDescriptor zy_M_field.desc).map (fun d => d.parameters.length) = some 3 := by decide +kernel
theorem zh_M_isOperand : zy_M_isOperand.cls = "PlainStepsModel" ∧ zy_M_isOperand.cls ≠ "java/lang/invoke/MethodHandle" ∧ zy_M_isOperand.cls ≠ "java/lang/invoke/VarHandle" ∧ (parseMethodDescriptor zy_M_isOperand.desc).map (fun d => d.parameters.length) = some 1 := by decide +kernel
theorem zh_M_transfer : zy_M_transfer.cls = "PlainStepsModel" ∧ zy_M_transfer.cls ≠ "java/lang/invoke/MethodHandle" ∧ zy_M_transfer.cls ≠ "java/lang/invoke/VarHandle" ∧ (parseMethodDescriptor zy_M_transfer.desc).map (fun d => d.parameters.length) = some 4 := by decide +kernel
theorem zh_M_instruction : zy_M_instruction.cls = "PlainStepsModel" ∧ zy_M_instruction.cls ≠ "java/lang/invoke/MethodHandle" ∧ zy_M_instruction.cls ≠ "java/lang/invoke/VarHandle" ∧ (parseMethodDescriptor zy_M_instruction.desc).map (fun d => d.parameters.length) = some 3 := by decide +kernel
theorem zh_M_memory : zy_M_memory.cls = "PlainStepsModel" ∧ zy_M_memory.cls ≠ "java/lang/invoke/MethodHandle" ∧ zy_M_memory.cls ≠ "java/lang/invoke/VarHandle" ∧ (parseMethodDescriptor zy_M_memory.desc).map (fun d => d.parameters.length) = some 2 := by decide +kernel
theorem zh_M_byteAt : zy_M_byteAt.cls = "PlainStepsModel" ∧ zy_M_byteAt.cls ≠ "java/lang/invoke/MethodHandle" ∧ zy_M_byteAt.cls ≠ "java/lang/invoke/VarHandle" ∧ (parseMethodDescriptor zy_M_byteAt.desc).map (fun d => d.parameters.length) = some 1 := by decide +kernel
theorem zh_M_keep : zy_M_keep.cls = "PlainStepsModel" ∧ zy_M_keep.cls ≠ "java/lang/invoke/MethodHandle" ∧ zy_M_keep.cls ≠ "java/lang/invoke/VarHandle" ∧ (parseMethodDescriptor zy_M_keep.desc).map (fun d => d.parameters.length) = some 3 := by decide +kernel
theorem zh_M_takeFault : zy_M_takeFault.cls = "PlainStepsModel" ∧ zy_M_takeFault.cls ≠ "java/lang/invoke/MethodHandle" ∧ zy_M_takeFault.cls ≠ "java/lang/invoke/VarHandle" ∧ (parseMethodDescriptor zy_M_takeFault.desc).map (fun d => d.parameters.length) = some 1 := by decide +kernel
theorem zh_M_waitingLine : zy_M_waitingLine.cls = "PlainStepsModel" ∧ zy_M_waitingLine.cls ≠ "java/lang/invoke/MethodHandle" ∧ zy_M_waitingLine.cls ≠ "java/lang/invoke/VarHandle" ∧ (parseMethodDescriptor zy_M_waitingLine.desc).map (fun d => d.parameters.length) = some 0 := by decide +kernel
theorem zh_M_isParallel : zy_M_isParallel.cls = "PlainStepsModel" ∧ zy_M_isParallel.cls ≠ "java/lang/invoke/MethodHandle" ∧ zy_M_isParallel.cls ≠ "java/lang/invoke/VarHandle" ∧ (parseMethodDescriptor zy_M_isParallel.desc).map (fun d => d.parameters.length) = some 1 := by decide +kernel
theorem zh_M_operand : zy_M_operand.cls = "PlainStepsModel" ∧ zy_M_operand.cls ≠ "java/lang/invoke/MethodHandle" ∧ zy_M_operand.cls ≠ "java/lang/invoke/VarHandle" ∧ (parseMethodDescriptor zy_M_operand.desc).map (fun d => d.parameters.length) = some 2 := by decide +kernel
theorem zh_M_isMarked : zy_M_isMarked.cls = "PlainStepsModel" ∧ zy_M_isMarked.cls ≠ "java/lang/invoke/MethodHandle" ∧ zy_M_isMarked.cls ≠ "java/lang/invoke/VarHandle" ∧ (parseMethodDescriptor zy_M_isMarked.desc).map (fun d => d.parameters.length) = some 2 := by decide +kernel
theorem zh_M_setRegister : zy_M_setRegister.cls = "PlainStepsModel" ∧ zy_M_setRegister.cls ≠ "java/lang/invoke/MethodHandle" ∧ zy_M_setRegister.cls ≠ "java/lang/invoke/VarHandle" ∧ (parseMethodDescriptor zy_M_setRegister.desc).map (fun d => d.parameters.length) = some 3 := by decide +kernel
theorem zh_M_setMemory : zy_M_setMemory.cls = "PlainStepsModel" ∧ zy_M_setMemory.cls ≠ "java/lang/invoke/MethodHandle" ∧ zy_M_setMemory.cls ≠ "java/lang/invoke/VarHandle" ∧ (parseMethodDescriptor zy_M_setMemory.desc).map (fun d => d.parameters.length) = some 3 := by decide +kernel
theorem zh_M_later : zy_M_later.cls = "PlainStepsModel" ∧ zy_M_later.cls ≠ "java/lang/invoke/MethodHandle" ∧ zy_M_later.cls ≠ "java/lang/invoke/VarHandle" ∧ (parseMethodDescriptor zy_M_later.desc).map (fun d => d.parameters.length) = some 4 := by decide +kernel
theorem zh_M_result : zy_M_result.cls = "PlainStepsModel" ∧ zy_M_result.cls ≠ "java/lang/invoke/MethodHandle" ∧ zy_M_result.cls ≠ "java/lang/invoke/VarHandle" ∧ (parseMethodDescriptor zy_M_result.desc).map (fun d => d.parameters.length) = some 4 := by decide +kernel
theorem zh_M_markOnly : zy_M_markOnly.cls = "PlainStepsModel" ∧ zy_M_markOnly.cls ≠ "java/lang/invoke/MethodHandle" ∧ zy_M_markOnly.cls ≠ "java/lang/invoke/VarHandle" ∧ (parseMethodDescriptor zy_M_markOnly.desc).map (fun d => d.parameters.length) = some 2 := by decide +kernel
theorem zh_M_writeAll : zy_M_writeAll.cls = "PlainStepsModel" ∧ zy_M_writeAll.cls ≠ "java/lang/invoke/MethodHandle" ∧ zy_M_writeAll.cls ≠ "java/lang/invoke/VarHandle" ∧ (parseMethodDescriptor zy_M_writeAll.desc).map (fun d => d.parameters.length) = some 0 := by decide +kernel
theorem zh_M_isLess : zy_M_isLess.cls = "PlainStepsModel" ∧ zy_M_isLess.cls ≠ "java/lang/invoke/MethodHandle" ∧ zy_M_isLess.cls ≠ "java/lang/invoke/VarHandle" ∧ (parseMethodDescriptor zy_M_isLess.desc).map (fun d => d.parameters.length) = some 2 := by decide +kernel
theorem zh_M_quotient : zy_M_quotient.cls = "PlainStepsModel" ∧ zy_M_quotient.cls ≠ "java/lang/invoke/MethodHandle" ∧ zy_M_quotient.cls ≠ "java/lang/invoke/VarHandle" ∧ (parseMethodDescriptor zy_M_quotient.desc).map (fun d => d.parameters.length) = some 2 := by decide +kernel
theorem zh_M_simple : zy_M_simple.cls = "PlainStepsModel" ∧ zy_M_simple.cls ≠ "java/lang/invoke/MethodHandle" ∧ zy_M_simple.cls ≠ "java/lang/invoke/VarHandle" ∧ (parseMethodDescriptor zy_M_simple.desc).map (fun d => d.parameters.length) = some 3 := by decide +kernel
theorem zh_M_isThere : zy_M_isThere.cls = "PlainStepsModel" ∧ zy_M_isThere.cls ≠ "java/lang/invoke/MethodHandle" ∧ zy_M_isThere.cls ≠ "java/lang/invoke/VarHandle" ∧ (parseMethodDescriptor zy_M_isThere.desc).map (fun d => d.parameters.length) = some 2 := by decide +kernel
theorem zh_M_compute : zy_M_compute.cls = "PlainStepsModel" ∧ zy_M_compute.cls ≠ "java/lang/invoke/MethodHandle" ∧ zy_M_compute.cls ≠ "java/lang/invoke/VarHandle" ∧ (parseMethodDescriptor zy_M_compute.desc).map (fun d => d.parameters.length) = some 4 := by decide +kernel
theorem zh_M_store : zy_M_store.cls = "PlainStepsModel" ∧ zy_M_store.cls ≠ "java/lang/invoke/MethodHandle" ∧ zy_M_store.cls ≠ "java/lang/invoke/VarHandle" ∧ (parseMethodDescriptor zy_M_store.desc).map (fun d => d.parameters.length) = some 4 := by decide +kernel
theorem zh_M_back : zy_M_back.cls = "PlainStepsModel" ∧ zy_M_back.cls ≠ "java/lang/invoke/MethodHandle" ∧ zy_M_back.cls ≠ "java/lang/invoke/VarHandle" ∧ (parseMethodDescriptor zy_M_back.desc).map (fun d => d.parameters.length) = some 0 := by decide +kernel
theorem zh_M_doTransfer : zy_M_doTransfer.cls = "PlainStepsModel" ∧ zy_M_doTransfer.cls ≠ "java/lang/invoke/MethodHandle" ∧ zy_M_doTransfer.cls ≠ "java/lang/invoke/VarHandle" ∧ (parseMethodDescriptor zy_M_doTransfer.desc).map (fun d => d.parameters.length) = some 2 := by decide +kernel
theorem zh_M_save : zy_M_save.cls = "PlainStepsModel" ∧ zy_M_save.cls ≠ "java/lang/invoke/MethodHandle" ∧ zy_M_save.cls ≠ "java/lang/invoke/VarHandle" ∧ (parseMethodDescriptor zy_M_save.desc).map (fun d => d.parameters.length) = some 0 := by decide +kernel
theorem zh_M_restore : zy_M_restore.cls = "PlainStepsModel" ∧ zy_M_restore.cls ≠ "java/lang/invoke/MethodHandle" ∧ zy_M_restore.cls ≠ "java/lang/invoke/VarHandle" ∧ (parseMethodDescriptor zy_M_restore.desc).map (fun d => d.parameters.length) = some 0 := by decide +kernel
theorem zh_M_find : zy_M_find.cls = "PlainStepsModel" ∧ zy_M_find.cls ≠ "java/lang/invoke/MethodHandle" ∧ zy_M_find.cls ≠ "java/lang/invoke/VarHandle" ∧ (parseMethodDescriptor zy_M_find.desc).map (fun d => d.parameters.length) = some 0 := by decide +kernel
theorem zh_M_doAll : zy_M_doAll.cls = "PlainStepsModel" ∧ zy_M_doAll.cls ≠ "java/lang/invoke/MethodHandle" ∧ zy_M_doAll.cls ≠ "java/lang/invoke/VarHandle" ∧ (parseMethodDescriptor zy_M_doAll.desc).map (fun d => d.parameters.length) = some 1 := by decide +kernel
theorem zh_M_comePlace : zy_M_comePlace.cls = "PlainStepsModel" ∧ zy_M_comePlace.cls ≠ "java/lang/invoke/MethodHandle" ∧ zy_M_comePlace.cls ≠ "java/lang/invoke/VarHandle" ∧ (parseMethodDescriptor zy_M_comePlace.desc).map (fun d => d.parameters.length) = some 1 := by decide +kernel
theorem zh_M_doInstruction : zy_M_doInstruction.cls = "PlainStepsModel" ∧ zy_M_doInstruction.cls ≠ "java/lang/invoke/MethodHandle" ∧ zy_M_doInstruction.cls ≠ "java/lang/invoke/VarHandle" ∧ (parseMethodDescriptor zy_M_doInstruction.desc).map (fun d => d.parameters.length) = some 0 := by decide +kernel
theorem zh_M_stepOnce : zy_M_stepOnce.cls = "PlainStepsModel" ∧ zy_M_stepOnce.cls ≠ "java/lang/invoke/MethodHandle" ∧ zy_M_stepOnce.cls ≠ "java/lang/invoke/VarHandle" ∧ (parseMethodDescriptor zy_M_stepOnce.desc).map (fun d => d.parameters.length) = some 0 := by decide +kernel
theorem zh_M_step : zy_M_step.cls = "PlainStepsModel" ∧ zy_M_step.cls ≠ "java/lang/invoke/MethodHandle" ∧ zy_M_step.cls ≠ "java/lang/invoke/VarHandle" ∧ (parseMethodDescriptor zy_M_step.desc).map (fun d => d.parameters.length) = some 1 := by decide +kernel
theorem zh_M_isRegister : zy_M_isRegister.cls = "PlainStepsModel" ∧ zy_M_isRegister.cls ≠ "java/lang/invoke/MethodHandle" ∧ zy_M_isRegister.cls ≠ "java/lang/invoke/VarHandle" ∧ (parseMethodDescriptor zy_M_isRegister.desc).map (fun d => d.parameters.length) = some 1 := by decide +kernel
theorem zh_M_set : zy_M_set.cls = "PlainStepsModel" ∧ zy_M_set.cls ≠ "java/lang/invoke/MethodHandle" ∧ zy_M_set.cls ≠ "java/lang/invoke/VarHandle" ∧ (parseMethodDescriptor zy_M_set.desc).map (fun d => d.parameters.length) = some 2 := by decide +kernel
theorem zh_M_get : zy_M_get.cls = "PlainStepsModel" ∧ zy_M_get.cls ≠ "java/lang/invoke/MethodHandle" ∧ zy_M_get.cls ≠ "java/lang/invoke/VarHandle" ∧ (parseMethodDescriptor zy_M_get.desc).map (fun d => d.parameters.length) = some 1 := by decide +kernel
theorem zh_M_mark : zy_M_mark.cls = "PlainStepsModel" ∧ zy_M_mark.cls ≠ "java/lang/invoke/MethodHandle" ∧ zy_M_mark.cls ≠ "java/lang/invoke/VarHandle" ∧ (parseMethodDescriptor zy_M_mark.desc).map (fun d => d.parameters.length) = some 1 := by decide +kernel
theorem zh_M_line : zy_M_line.cls = "PlainStepsModel" ∧ zy_M_line.cls ≠ "java/lang/invoke/MethodHandle" ∧ zy_M_line.cls ≠ "java/lang/invoke/VarHandle" ∧ (parseMethodDescriptor zy_M_line.desc).map (fun d => d.parameters.length) = some 2 := by decide +kernel
theorem zh_M_enable : zy_M_enable.cls = "PlainStepsModel" ∧ zy_M_enable.cls ≠ "java/lang/invoke/MethodHandle" ∧ zy_M_enable.cls ≠ "java/lang/invoke/VarHandle" ∧ (parseMethodDescriptor zy_M_enable.desc).map (fun d => d.parameters.length) = some 2 := by decide +kernel
theorem zh_M_fault : zy_M_fault.cls = "PlainStepsModel" ∧ zy_M_fault.cls ≠ "java/lang/invoke/MethodHandle" ∧ zy_M_fault.cls ≠ "java/lang/invoke/VarHandle" ∧ (parseMethodDescriptor zy_M_fault.desc).map (fun d => d.parameters.length) = some 1 := by decide +kernel
theorem zh_M_halted : zy_M_halted.cls = "PlainStepsModel" ∧ zy_M_halted.cls ≠ "java/lang/invoke/MethodHandle" ∧ zy_M_halted.cls ≠ "java/lang/invoke/VarHandle" ∧ (parseMethodDescriptor zy_M_halted.desc).map (fun d => d.parameters.length) = some 0 := by decide +kernel
theorem zh_M_counter : zy_M_counter.cls = "PlainStepsModel" ∧ zy_M_counter.cls ≠ "java/lang/invoke/MethodHandle" ∧ zy_M_counter.cls ≠ "java/lang/invoke/VarHandle" ∧ (parseMethodDescriptor zy_M_counter.desc).map (fun d => d.parameters.length) = some 1 := by decide +kernel

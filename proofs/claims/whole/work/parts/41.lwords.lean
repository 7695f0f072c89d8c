abbrev zs_L_register : List Cond := .codeWith zy_L_register zb_L_register 4 (some .int) [(0, 9, 12, 13), (0, 9, 15, 15)] :: zq_W
theorem zh_L_register : zy_L_register.cls = "PlainStepsLaw" ∧ zy_L_register.cls ≠ "java/lang/invoke/MethodHandle" ∧ zy_L_register.cls ≠ "java/lang/invoke/VarHandle" ∧ (parseMethodDescriptor zy_L_register.desc).map (fun d => d.parameters.length) = some 3 := by decide +kernel
abbrev zs_L_constant : List Cond := .codeWith zy_L_constant zb_L_constant 5 (some .int) [(0, 9, 12, 15)] :: zq_W
theorem zh_L_constant : zy_L_constant.cls = "PlainStepsLaw" ∧ zy_L_constant.cls ≠ "java/lang/invoke/MethodHandle" ∧ zy_L_constant.cls ≠ "java/lang/invoke/VarHandle" ∧ (parseMethodDescriptor zy_L_constant.desc).map (fun d => d.parameters.length) = some 3 := by decide +kernel
abbrev zs_L_field : List Cond := .codeWith zy_L_field zb_L_field 6 (some .int) [(0, 12, 15, 13), (0, 12, 19, 15)] :: zq_W
theorem zh_L_field : zy_L_field.cls = "PlainStepsLaw" ∧ zy_L_field.cls ≠ "java/lang/invoke/MethodHandle" ∧ zy_L_field.cls ≠ "java/lang/invoke/VarHandle" ∧ (parseMethodDescriptor zy_L_field.desc).map (fun d => d.parameters.length) = some 5 := by decide +kernel
abbrev zs_L_transfer : List Cond := .codeWith zy_L_transfer zb_L_transfer 7 (some .int) [(0, 14, 17, 13), (0, 14, 21, 15)] :: zq_W
theorem zh_L_transfer : zy_L_transfer.cls = "PlainStepsLaw" ∧ zy_L_transfer.cls ≠ "java/lang/invoke/MethodHandle" ∧ zy_L_transfer.cls ≠ "java/lang/invoke/VarHandle" ∧ (parseMethodDescriptor zy_L_transfer.desc).map (fun d => d.parameters.length) = some 6 := by decide +kernel
abbrev zs_L_instruction : List Cond := .codeWith zy_L_instruction zb_L_instruction 6 (some .int) [(0, 12, 15, 13), (0, 12, 19, 15)] :: zq_W
theorem zh_L_instruction : zy_L_instruction.cls = "PlainStepsLaw" ∧ zy_L_instruction.cls ≠ "java/lang/invoke/MethodHandle" ∧ zy_L_instruction.cls ≠ "java/lang/invoke/VarHandle" ∧ (parseMethodDescriptor zy_L_instruction.desc).map (fun d => d.parameters.length) = some 5 := by decide +kernel
abbrev zs_L_memory : List Cond := .codeWith zy_L_memory zb_L_memory 5 (some .int) [(0, 10, 13, 37), (0, 10, 17, 13)] :: zq_W
theorem zh_L_memory : zy_L_memory.cls = "PlainStepsLaw" ∧ zy_L_memory.cls ≠ "java/lang/invoke/MethodHandle" ∧ zy_L_memory.cls ≠ "java/lang/invoke/VarHandle" ∧ (parseMethodDescriptor zy_L_memory.desc).map (fun d => d.parameters.length) = some 4 := by decide +kernel
abbrev zs_L_byteAt : List Cond := .codeWith zy_L_byteAt zb_L_byteAt 4 (some .int) [(0, 9, 12, 37)] :: zq_W
theorem zh_L_byteAt : zy_L_byteAt.cls = "PlainStepsLaw" ∧ zy_L_byteAt.cls ≠ "java/lang/invoke/MethodHandle" ∧ zy_L_byteAt.cls ≠ "java/lang/invoke/VarHandle" ∧ (parseMethodDescriptor zy_L_byteAt.desc).map (fun d => d.parameters.length) = some 3 := by decide +kernel
abbrev zs_L_step : List Cond := .codeWith zy_L_step zb_L_step 4 (some .int) [(0, 9, 12, 13), (0, 9, 15, 45)] :: zq_W
theorem zh_L_step : zy_L_step.cls = "PlainStepsLaw" ∧ zy_L_step.cls ≠ "java/lang/invoke/MethodHandle" ∧ zy_L_step.cls ≠ "java/lang/invoke/VarHandle" ∧ (parseMethodDescriptor zy_L_step.desc).map (fun d => d.parameters.length) = some 3 := by decide +kernel
abbrev zs_L_set : List Cond := .codeWith zy_L_set zb_L_set 6 (some .int) [(0, 10, 13, 37)] :: zq_W
theorem zh_L_set : zy_L_set.cls = "PlainStepsLaw" ∧ zy_L_set.cls ≠ "java/lang/invoke/MethodHandle" ∧ zy_L_set.cls ≠ "java/lang/invoke/VarHandle" ∧ (parseMethodDescriptor zy_L_set.desc).map (fun d => d.parameters.length) = some 4 := by decide +kernel
abbrev zs_L_get : List Cond := .codeWith zy_L_get zb_L_get 4 (some .int) [(0, 8, 11, 37)] :: zq_W
theorem zh_L_get : zy_L_get.cls = "PlainStepsLaw" ∧ zy_L_get.cls ≠ "java/lang/invoke/MethodHandle" ∧ zy_L_get.cls ≠ "java/lang/invoke/VarHandle" ∧ (parseMethodDescriptor zy_L_get.desc).map (fun d => d.parameters.length) = some 3 := by decide +kernel
abbrev zs_L_mark : List Cond := .codeWith zy_L_mark zb_L_mark 4 (some .int) [(0, 16, 19, 37)] :: zq_W
theorem zh_L_mark : zy_L_mark.cls = "PlainStepsLaw" ∧ zy_L_mark.cls ≠ "java/lang/invoke/MethodHandle" ∧ zy_L_mark.cls ≠ "java/lang/invoke/VarHandle" ∧ (parseMethodDescriptor zy_L_mark.desc).map (fun d => d.parameters.length) = some 3 := by decide +kernel
abbrev zs_L_line : List Cond := .codeWith zy_L_line zb_L_line 5 (some .int) [(0, 17, 20, 37)] :: zq_W
theorem zh_L_line : zy_L_line.cls = "PlainStepsLaw" ∧ zy_L_line.cls ≠ "java/lang/invoke/MethodHandle" ∧ zy_L_line.cls ≠ "java/lang/invoke/VarHandle" ∧ (parseMethodDescriptor zy_L_line.desc).map (fun d => d.parameters.length) = some 4 := by decide +kernel
abbrev zs_L_enable : List Cond := .codeWith zy_L_enable zb_L_enable 5 (some .int) [(0, 10, 13, 37), (0, 10, 17, 13)] :: zq_W
theorem zh_L_enable : zy_L_enable.cls = "PlainStepsLaw" ∧ zy_L_enable.cls ≠ "java/lang/invoke/MethodHandle" ∧ zy_L_enable.cls ≠ "java/lang/invoke/VarHandle" ∧ (parseMethodDescriptor zy_L_enable.desc).map (fun d => d.parameters.length) = some 4 := by decide +kernel
abbrev zs_L_fault : List Cond := .codeWith zy_L_fault zb_L_fault 4 (some .int) [(0, 9, 12, 37)] :: zq_W
theorem zh_L_fault : zy_L_fault.cls = "PlainStepsLaw" ∧ zy_L_fault.cls ≠ "java/lang/invoke/MethodHandle" ∧ zy_L_fault.cls ≠ "java/lang/invoke/VarHandle" ∧ (parseMethodDescriptor zy_L_fault.desc).map (fun d => d.parameters.length) = some 3 := by decide +kernel
abbrev zs_L_counter : List Cond := .codeWith zy_L_counter zb_L_counter 4 (some .int) [(0, 9, 12, 37)] :: zq_W
theorem zh_L_counter : zy_L_counter.cls = "PlainStepsLaw" ∧ zy_L_counter.cls ≠ "java/lang/invoke/MethodHandle" ∧ zy_L_counter.cls ≠ "java/lang/invoke/VarHandle" ∧ (parseMethodDescriptor zy_L_counter.desc).map (fun d => d.parameters.length) = some 3 := by decide +kernel
theorem zd_L_register_0 : decode zb_L_register 0 = .ok (.aload_n 2, 1) := by decide +kernel
theorem zd_L_register_1 : decode zb_L_register 1 = .ok (.iconst 0, 1) := by decide +kernel
theorem zd_L_register_2 : decode zb_L_register 2 = .ok (.aload_n 0, 1) := by decide +kernel
theorem zd_L_register_3 : decode zb_L_register 3 = .ok (.iload_n 1, 1) := by decide +kernel
theorem zd_L_register_4 : decode zb_L_register 4 = .ok (.invokevirtual 7, 3) := by decide +kernel
theorem zd_L_register_7 : decode zb_L_register 7 = .ok (.i2l, 1) := by decide +kernel
theorem zd_L_register_8 : decode zb_L_register 8 = .ok (.lastore, 1) := by decide +kernel
theorem zd_L_register_9 : decode zb_L_register 9 = .ok (.goto 9, 3) := by decide +kernel
theorem zd_L_register_12 : decode zb_L_register 12 = .ok (.astore_n 3, 1) := by decide +kernel
theorem zd_L_register_13 : decode zb_L_register 13 = .ok (.iconst 1, 1) := by decide +kernel
theorem zd_L_register_14 : decode zb_L_register 14 = .ok (.ireturn, 1) := by decide +kernel
theorem zd_L_register_15 : decode zb_L_register 15 = .ok (.astore_n 3, 1) := by decide +kernel
theorem zd_L_register_16 : decode zb_L_register 16 = .ok (.iconst 2, 1) := by decide +kernel
theorem zd_L_register_17 : decode zb_L_register 17 = .ok (.ireturn, 1) := by decide +kernel
theorem zd_L_register_18 : decode zb_L_register 18 = .ok (.iconst 0, 1) := by decide +kernel
theorem zd_L_register_19 : decode zb_L_register 19 = .ok (.ireturn, 1) := by decide +kernel
theorem zd_L_constant_0 : decode zb_L_constant 0 = .ok (.aload_n 3, 1) := by decide +kernel
theorem zd_L_constant_1 : decode zb_L_constant 1 = .ok (.iconst 0, 1) := by decide +kernel
theorem zd_L_constant_2 : decode zb_L_constant 2 = .ok (.aload_n 0, 1) := by decide +kernel
theorem zd_L_constant_3 : decode zb_L_constant 3 = .ok (.lload_n 1, 1) := by decide +kernel
theorem zd_L_constant_4 : decode zb_L_constant 4 = .ok (.invokevirtual 17, 3) := by decide +kernel
theorem zd_L_constant_7 : decode zb_L_constant 7 = .ok (.i2l, 1) := by decide +kernel
theorem zd_L_constant_8 : decode zb_L_constant 8 = .ok (.lastore, 1) := by decide +kernel
theorem zd_L_constant_9 : decode zb_L_constant 9 = .ok (.goto 7, 3) := by decide +kernel
theorem zd_L_constant_12 : decode zb_L_constant 12 = .ok (.astore 4, 2) := by decide +kernel
theorem zd_L_constant_14 : decode zb_L_constant 14 = .ok (.iconst 1, 1) := by decide +kernel
theorem zd_L_constant_15 : decode zb_L_constant 15 = .ok (.ireturn, 1) := by decide +kernel
theorem zd_L_constant_16 : decode zb_L_constant 16 = .ok (.iconst 0, 1) := by decide +kernel
theorem zd_L_constant_17 : decode zb_L_constant 17 = .ok (.ireturn, 1) := by decide +kernel
theorem zd_L_field_0 : decode zb_L_field 0 = .ok (.aload 4, 2) := by decide +kernel
theorem zd_L_field_2 : decode zb_L_field 2 = .ok (.iconst 0, 1) := by decide +kernel
theorem zd_L_field_3 : decode zb_L_field 3 = .ok (.aload_n 0, 1) := by decide +kernel
theorem zd_L_field_4 : decode zb_L_field 4 = .ok (.iload_n 1, 1) := by decide +kernel
theorem zd_L_field_5 : decode zb_L_field 5 = .ok (.iload_n 2, 1) := by decide +kernel
theorem zd_L_field_6 : decode zb_L_field 6 = .ok (.iload_n 3, 1) := by decide +kernel
theorem zd_L_field_7 : decode zb_L_field 7 = .ok (.invokevirtual 21, 3) := by decide +kernel
theorem zd_L_field_10 : decode zb_L_field 10 = .ok (.i2l, 1) := by decide +kernel
theorem zd_L_field_11 : decode zb_L_field 11 = .ok (.lastore, 1) := by decide +kernel
theorem zd_L_field_12 : decode zb_L_field 12 = .ok (.goto 11, 3) := by decide +kernel
theorem zd_L_field_15 : decode zb_L_field 15 = .ok (.astore 5, 2) := by decide +kernel
theorem zd_L_field_17 : decode zb_L_field 17 = .ok (.iconst 1, 1) := by decide +kernel
theorem zd_L_field_18 : decode zb_L_field 18 = .ok (.ireturn, 1) := by decide +kernel
theorem zd_L_field_19 : decode zb_L_field 19 = .ok (.astore 5, 2) := by decide +kernel
theorem zd_L_field_21 : decode zb_L_field 21 = .ok (.iconst 2, 1) := by decide +kernel
theorem zd_L_field_22 : decode zb_L_field 22 = .ok (.ireturn, 1) := by decide +kernel
theorem zd_L_field_23 : decode zb_L_field 23 = .ok (.iconst 0, 1) := by decide +kernel
theorem zd_L_field_24 : decode zb_L_field 24 = .ok (.ireturn, 1) := by decide +kernel
theorem zd_L_transfer_0 : decode zb_L_transfer 0 = .ok (.aload 5, 2) := by decide +kernel
theorem zd_L_transfer_2 : decode zb_L_transfer 2 = .ok (.iconst 0, 1) := by decide +kernel
theorem zd_L_transfer_3 : decode zb_L_transfer 3 = .ok (.aload_n 0, 1) := by decide +kernel
theorem zd_L_transfer_4 : decode zb_L_transfer 4 = .ok (.iload_n 1, 1) := by decide +kernel
theorem zd_L_transfer_5 : decode zb_L_transfer 5 = .ok (.iload_n 2, 1) := by decide +kernel
theorem zd_L_transfer_6 : decode zb_L_transfer 6 = .ok (.iload_n 3, 1) := by decide +kernel
theorem zd_L_transfer_7 : decode zb_L_transfer 7 = .ok (.iload 4, 2) := by decide +kernel
theorem zd_L_transfer_9 : decode zb_L_transfer 9 = .ok (.invokevirtual 25, 3) := by decide +kernel
theorem zd_L_transfer_12 : decode zb_L_transfer 12 = .ok (.i2l, 1) := by decide +kernel
theorem zd_L_transfer_13 : decode zb_L_transfer 13 = .ok (.lastore, 1) := by decide +kernel
theorem zd_L_transfer_14 : decode zb_L_transfer 14 = .ok (.goto 11, 3) := by decide +kernel
theorem zd_L_transfer_17 : decode zb_L_transfer 17 = .ok (.astore 6, 2) := by decide +kernel
theorem zd_L_transfer_19 : decode zb_L_transfer 19 = .ok (.iconst 1, 1) := by decide +kernel
theorem zd_L_transfer_20 : decode zb_L_transfer 20 = .ok (.ireturn, 1) := by decide +kernel
theorem zd_L_transfer_21 : decode zb_L_transfer 21 = .ok (.astore 6, 2) := by decide +kernel
theorem zd_L_transfer_23 : decode zb_L_transfer 23 = .ok (.iconst 2, 1) := by decide +kernel
theorem zd_L_transfer_24 : decode zb_L_transfer 24 = .ok (.ireturn, 1) := by decide +kernel
theorem zd_L_transfer_25 : decode zb_L_transfer 25 = .ok (.iconst 0, 1) := by decide +kernel
theorem zd_L_transfer_26 : decode zb_L_transfer 26 = .ok (.ireturn, 1) := by decide +kernel
theorem zd_L_instruction_0 : decode zb_L_instruction 0 = .ok (.aload 4, 2) := by decide +kernel
theorem zd_L_instruction_2 : decode zb_L_instruction 2 = .ok (.iconst 0, 1) := by decide +kernel
theorem zd_L_instruction_3 : decode zb_L_instruction 3 = .ok (.aload_n 0, 1) := by decide +kernel
theorem zd_L_instruction_4 : decode zb_L_instruction 4 = .ok (.iload_n 1, 1) := by decide +kernel
theorem zd_L_instruction_5 : decode zb_L_instruction 5 = .ok (.iload_n 2, 1) := by decide +kernel
theorem zd_L_instruction_6 : decode zb_L_instruction 6 = .ok (.iload_n 3, 1) := by decide +kernel
theorem zd_L_instruction_7 : decode zb_L_instruction 7 = .ok (.invokevirtual 29, 3) := by decide +kernel
theorem zd_L_instruction_10 : decode zb_L_instruction 10 = .ok (.i2l, 1) := by decide +kernel
theorem zd_L_instruction_11 : decode zb_L_instruction 11 = .ok (.lastore, 1) := by decide +kernel
theorem zd_L_instruction_12 : decode zb_L_instruction 12 = .ok (.goto 11, 3) := by decide +kernel
theorem zd_L_instruction_15 : decode zb_L_instruction 15 = .ok (.astore 5, 2) := by decide +kernel
theorem zd_L_instruction_17 : decode zb_L_instruction 17 = .ok (.iconst 1, 1) := by decide +kernel
theorem zd_L_instruction_18 : decode zb_L_instruction 18 = .ok (.ireturn, 1) := by decide +kernel
theorem zd_L_instruction_19 : decode zb_L_instruction 19 = .ok (.astore 5, 2) := by decide +kernel
theorem zd_L_instruction_21 : decode zb_L_instruction 21 = .ok (.iconst 2, 1) := by decide +kernel
theorem zd_L_instruction_22 : decode zb_L_instruction 22 = .ok (.ireturn, 1) := by decide +kernel
theorem zd_L_instruction_23 : decode zb_L_instruction 23 = .ok (.iconst 0, 1) := by decide +kernel
theorem zd_L_instruction_24 : decode zb_L_instruction 24 = .ok (.ireturn, 1) := by decide +kernel
theorem zd_L_memory_0 : decode zb_L_memory 0 = .ok (.aload_n 3, 1) := by decide +kernel
theorem zd_L_memory_1 : decode zb_L_memory 1 = .ok (.iconst 0, 1) := by decide +kernel
theorem zd_L_memory_2 : decode zb_L_memory 2 = .ok (.aload_n 0, 1) := by decide +kernel
theorem zd_L_memory_3 : decode zb_L_memory 3 = .ok (.iload_n 1, 1) := by decide +kernel
theorem zd_L_memory_4 : decode zb_L_memory 4 = .ok (.iload_n 2, 1) := by decide +kernel
theorem zd_L_memory_5 : decode zb_L_memory 5 = .ok (.invokevirtual 33, 3) := by decide +kernel
theorem zd_L_memory_8 : decode zb_L_memory 8 = .ok (.i2l, 1) := by decide +kernel
theorem zd_L_memory_9 : decode zb_L_memory 9 = .ok (.lastore, 1) := by decide +kernel
theorem zd_L_memory_10 : decode zb_L_memory 10 = .ok (.goto 11, 3) := by decide +kernel
theorem zd_L_memory_13 : decode zb_L_memory 13 = .ok (.astore 4, 2) := by decide +kernel
theorem zd_L_memory_15 : decode zb_L_memory 15 = .ok (.iconst 1, 1) := by decide +kernel
theorem zd_L_memory_16 : decode zb_L_memory 16 = .ok (.ireturn, 1) := by decide +kernel
theorem zd_L_memory_17 : decode zb_L_memory 17 = .ok (.astore 4, 2) := by decide +kernel
theorem zd_L_memory_19 : decode zb_L_memory 19 = .ok (.iconst 2, 1) := by decide +kernel
theorem zd_L_memory_20 : decode zb_L_memory 20 = .ok (.ireturn, 1) := by decide +kernel
theorem zd_L_memory_21 : decode zb_L_memory 21 = .ok (.iconst 0, 1) := by decide +kernel
theorem zd_L_memory_22 : decode zb_L_memory 22 = .ok (.ireturn, 1) := by decide +kernel
theorem zd_L_byteAt_0 : decode zb_L_byteAt 0 = .ok (.aload_n 2, 1) := by decide +kernel
theorem zd_L_byteAt_1 : decode zb_L_byteAt 1 = .ok (.iconst 0, 1) := by decide +kernel
theorem zd_L_byteAt_2 : decode zb_L_byteAt 2 = .ok (.aload_n 0, 1) := by decide +kernel
theorem zd_L_byteAt_3 : decode zb_L_byteAt 3 = .ok (.iload_n 1, 1) := by decide +kernel
theorem zd_L_byteAt_4 : decode zb_L_byteAt 4 = .ok (.invokevirtual 39, 3) := by decide +kernel
theorem zd_L_byteAt_7 : decode zb_L_byteAt 7 = .ok (.i2l, 1) := by decide +kernel
theorem zd_L_byteAt_8 : decode zb_L_byteAt 8 = .ok (.lastore, 1) := by decide +kernel
theorem zd_L_byteAt_9 : decode zb_L_byteAt 9 = .ok (.goto 6, 3) := by decide +kernel
theorem zd_L_byteAt_12 : decode zb_L_byteAt 12 = .ok (.astore_n 3, 1) := by decide +kernel
theorem zd_L_byteAt_13 : decode zb_L_byteAt 13 = .ok (.iconst 1, 1) := by decide +kernel
theorem zd_L_byteAt_14 : decode zb_L_byteAt 14 = .ok (.ireturn, 1) := by decide +kernel
theorem zd_L_byteAt_15 : decode zb_L_byteAt 15 = .ok (.iconst 0, 1) := by decide +kernel
theorem zd_L_byteAt_16 : decode zb_L_byteAt 16 = .ok (.ireturn, 1) := by decide +kernel
theorem zd_L_step_0 : decode zb_L_step 0 = .ok (.aload_n 2, 1) := by decide +kernel
theorem zd_L_step_1 : decode zb_L_step 1 = .ok (.iconst 0, 1) := by decide +kernel
theorem zd_L_step_2 : decode zb_L_step 2 = .ok (.aload_n 0, 1) := by decide +kernel
theorem zd_L_step_3 : decode zb_L_step 3 = .ok (.iload_n 1, 1) := by decide +kernel
theorem zd_L_step_4 : decode zb_L_step 4 = .ok (.invokevirtual 42, 3) := by decide +kernel
theorem zd_L_step_7 : decode zb_L_step 7 = .ok (.i2l, 1) := by decide +kernel
theorem zd_L_step_8 : decode zb_L_step 8 = .ok (.lastore, 1) := by decide +kernel
theorem zd_L_step_9 : decode zb_L_step 9 = .ok (.goto 9, 3) := by decide +kernel
theorem zd_L_step_12 : decode zb_L_step 12 = .ok (.astore_n 3, 1) := by decide +kernel
theorem zd_L_step_13 : decode zb_L_step 13 = .ok (.iconst 1, 1) := by decide +kernel
theorem zd_L_step_14 : decode zb_L_step 14 = .ok (.ireturn, 1) := by decide +kernel
theorem zd_L_step_15 : decode zb_L_step 15 = .ok (.astore_n 3, 1) := by decide +kernel
theorem zd_L_step_16 : decode zb_L_step 16 = .ok (.iconst 2, 1) := by decide +kernel
theorem zd_L_step_17 : decode zb_L_step 17 = .ok (.ireturn, 1) := by decide +kernel
theorem zd_L_step_18 : decode zb_L_step 18 = .ok (.iconst 0, 1) := by decide +kernel
theorem zd_L_step_19 : decode zb_L_step 19 = .ok (.ireturn, 1) := by decide +kernel
theorem zd_L_set_0 : decode zb_L_set 0 = .ok (.aload 4, 2) := by decide +kernel
theorem zd_L_set_2 : decode zb_L_set 2 = .ok (.iconst 0, 1) := by decide +kernel
theorem zd_L_set_3 : decode zb_L_set 3 = .ok (.aload_n 0, 1) := by decide +kernel
theorem zd_L_set_4 : decode zb_L_set 4 = .ok (.iload_n 1, 1) := by decide +kernel
theorem zd_L_set_5 : decode zb_L_set 5 = .ok (.lload_n 2, 1) := by decide +kernel
theorem zd_L_set_6 : decode zb_L_set 6 = .ok (.invokevirtual 47, 3) := by decide +kernel
theorem zd_L_set_9 : decode zb_L_set 9 = .ok (.lastore, 1) := by decide +kernel
theorem zd_L_set_10 : decode zb_L_set 10 = .ok (.goto 7, 3) := by decide +kernel
theorem zd_L_set_13 : decode zb_L_set 13 = .ok (.astore 5, 2) := by decide +kernel
theorem zd_L_set_15 : decode zb_L_set 15 = .ok (.iconst 1, 1) := by decide +kernel
theorem zd_L_set_16 : decode zb_L_set 16 = .ok (.ireturn, 1) := by decide +kernel
theorem zd_L_set_17 : decode zb_L_set 17 = .ok (.iconst 0, 1) := by decide +kernel
theorem zd_L_set_18 : decode zb_L_set 18 = .ok (.ireturn, 1) := by decide +kernel
theorem zd_L_get_0 : decode zb_L_get 0 = .ok (.aload_n 2, 1) := by decide +kernel
theorem zd_L_get_1 : decode zb_L_get 1 = .ok (.iconst 0, 1) := by decide +kernel
theorem zd_L_get_2 : decode zb_L_get 2 = .ok (.aload_n 0, 1) := by decide +kernel
theorem zd_L_get_3 : decode zb_L_get 3 = .ok (.iload_n 1, 1) := by decide +kernel
theorem zd_L_get_4 : decode zb_L_get 4 = .ok (.invokevirtual 51, 3) := by decide +kernel
theorem zd_L_get_7 : decode zb_L_get 7 = .ok (.lastore, 1) := by decide +kernel
theorem zd_L_get_8 : decode zb_L_get 8 = .ok (.goto 6, 3) := by decide +kernel
theorem zd_L_get_11 : decode zb_L_get 11 = .ok (.astore_n 3, 1) := by decide +kernel
theorem zd_L_get_12 : decode zb_L_get 12 = .ok (.iconst 1, 1) := by decide +kernel
theorem zd_L_get_13 : decode zb_L_get 13 = .ok (.ireturn, 1) := by decide +kernel
theorem zd_L_get_14 : decode zb_L_get 14 = .ok (.iconst 0, 1) := by decide +kernel
theorem zd_L_get_15 : decode zb_L_get 15 = .ok (.ireturn, 1) := by decide +kernel
theorem zd_L_mark_0 : decode zb_L_mark 0 = .ok (.aload_n 2, 1) := by decide +kernel
theorem zd_L_mark_1 : decode zb_L_mark 1 = .ok (.iconst 0, 1) := by decide +kernel
theorem zd_L_mark_2 : decode zb_L_mark 2 = .ok (.aload_n 0, 1) := by decide +kernel
theorem zd_L_mark_3 : decode zb_L_mark 3 = .ok (.iload_n 1, 1) := by decide +kernel
theorem zd_L_mark_4 : decode zb_L_mark 4 = .ok (.invokevirtual 55, 3) := by decide +kernel
theorem zd_L_mark_7 : decode zb_L_mark 7 = .ok (.ifCond .eq 7, 3) := by decide +kernel
theorem zd_L_mark_10 : decode zb_L_mark 10 = .ok (.lconst 1, 1) := by decide +kernel
theorem zd_L_mark_11 : decode zb_L_mark 11 = .ok (.goto 4, 3) := by decide +kernel
theorem zd_L_mark_14 : decode zb_L_mark 14 = .ok (.lconst 0, 1) := by decide +kernel
theorem zd_L_mark_15 : decode zb_L_mark 15 = .ok (.lastore, 1) := by decide +kernel
theorem zd_L_mark_16 : decode zb_L_mark 16 = .ok (.goto 6, 3) := by decide +kernel
theorem zd_L_mark_19 : decode zb_L_mark 19 = .ok (.astore_n 3, 1) := by decide +kernel
theorem zd_L_mark_20 : decode zb_L_mark 20 = .ok (.iconst 1, 1) := by decide +kernel
theorem zd_L_mark_21 : decode zb_L_mark 21 = .ok (.ireturn, 1) := by decide +kernel
theorem zd_L_mark_22 : decode zb_L_mark 22 = .ok (.iconst 0, 1) := by decide +kernel
theorem zd_L_mark_23 : decode zb_L_mark 23 = .ok (.ireturn, 1) := by decide +kernel
theorem zd_L_line_0 : decode zb_L_line 0 = .ok (.aload_n 3, 1) := by decide +kernel
theorem zd_L_line_1 : decode zb_L_line 1 = .ok (.iconst 0, 1) := by decide +kernel
theorem zd_L_line_2 : decode zb_L_line 2 = .ok (.aload_n 0, 1) := by decide +kernel
theorem zd_L_line_3 : decode zb_L_line 3 = .ok (.iload_n 1, 1) := by decide +kernel
theorem zd_L_line_4 : decode zb_L_line 4 = .ok (.iload_n 2, 1) := by decide +kernel
theorem zd_L_line_5 : decode zb_L_line 5 = .ok (.invokevirtual 59, 3) := by decide +kernel
theorem zd_L_line_8 : decode zb_L_line 8 = .ok (.ifCond .eq 7, 3) := by decide +kernel
theorem zd_L_line_11 : decode zb_L_line 11 = .ok (.lconst 1, 1) := by decide +kernel
theorem zd_L_line_12 : decode zb_L_line 12 = .ok (.goto 4, 3) := by decide +kernel
theorem zd_L_line_15 : decode zb_L_line 15 = .ok (.lconst 0, 1) := by decide +kernel
theorem zd_L_line_16 : decode zb_L_line 16 = .ok (.lastore, 1) := by decide +kernel
theorem zd_L_line_17 : decode zb_L_line 17 = .ok (.goto 7, 3) := by decide +kernel
theorem zd_L_line_20 : decode zb_L_line 20 = .ok (.astore 4, 2) := by decide +kernel
theorem zd_L_line_22 : decode zb_L_line 22 = .ok (.iconst 1, 1) := by decide +kernel
theorem zd_L_line_23 : decode zb_L_line 23 = .ok (.ireturn, 1) := by decide +kernel
theorem zd_L_line_24 : decode zb_L_line 24 = .ok (.iconst 0, 1) := by decide +kernel
theorem zd_L_line_25 : decode zb_L_line 25 = .ok (.ireturn, 1) := by decide +kernel
theorem zd_L_enable_0 : decode zb_L_enable 0 = .ok (.aload_n 3, 1) := by decide +kernel
theorem zd_L_enable_1 : decode zb_L_enable 1 = .ok (.iconst 0, 1) := by decide +kernel
theorem zd_L_enable_2 : decode zb_L_enable 2 = .ok (.aload_n 0, 1) := by decide +kernel
theorem zd_L_enable_3 : decode zb_L_enable 3 = .ok (.iload_n 1, 1) := by decide +kernel
theorem zd_L_enable_4 : decode zb_L_enable 4 = .ok (.iload_n 2, 1) := by decide +kernel
theorem zd_L_enable_5 : decode zb_L_enable 5 = .ok (.invokevirtual 63, 3) := by decide +kernel
theorem zd_L_enable_8 : decode zb_L_enable 8 = .ok (.i2l, 1) := by decide +kernel
theorem zd_L_enable_9 : decode zb_L_enable 9 = .ok (.lastore, 1) := by decide +kernel
theorem zd_L_enable_10 : decode zb_L_enable 10 = .ok (.goto 11, 3) := by decide +kernel
theorem zd_L_enable_13 : decode zb_L_enable 13 = .ok (.astore 4, 2) := by decide +kernel
theorem zd_L_enable_15 : decode zb_L_enable 15 = .ok (.iconst 1, 1) := by decide +kernel
theorem zd_L_enable_16 : decode zb_L_enable 16 = .ok (.ireturn, 1) := by decide +kernel
theorem zd_L_enable_17 : decode zb_L_enable 17 = .ok (.astore 4, 2) := by decide +kernel
theorem zd_L_enable_19 : decode zb_L_enable 19 = .ok (.iconst 2, 1) := by decide +kernel
theorem zd_L_enable_20 : decode zb_L_enable 20 = .ok (.ireturn, 1) := by decide +kernel
theorem zd_L_enable_21 : decode zb_L_enable 21 = .ok (.iconst 0, 1) := by decide +kernel
theorem zd_L_enable_22 : decode zb_L_enable 22 = .ok (.ireturn, 1) := by decide +kernel
theorem zd_L_fault_0 : decode zb_L_fault 0 = .ok (.aload_n 2, 1) := by decide +kernel
theorem zd_L_fault_1 : decode zb_L_fault 1 = .ok (.iconst 0, 1) := by decide +kernel
theorem zd_L_fault_2 : decode zb_L_fault 2 = .ok (.aload_n 0, 1) := by decide +kernel
theorem zd_L_fault_3 : decode zb_L_fault 3 = .ok (.iload_n 1, 1) := by decide +kernel
theorem zd_L_fault_4 : decode zb_L_fault 4 = .ok (.invokevirtual 66, 3) := by decide +kernel
theorem zd_L_fault_7 : decode zb_L_fault 7 = .ok (.i2l, 1) := by decide +kernel
theorem zd_L_fault_8 : decode zb_L_fault 8 = .ok (.lastore, 1) := by decide +kernel
theorem zd_L_fault_9 : decode zb_L_fault 9 = .ok (.goto 6, 3) := by decide +kernel
theorem zd_L_fault_12 : decode zb_L_fault 12 = .ok (.astore_n 3, 1) := by decide +kernel
theorem zd_L_fault_13 : decode zb_L_fault 13 = .ok (.iconst 1, 1) := by decide +kernel
theorem zd_L_fault_14 : decode zb_L_fault 14 = .ok (.ireturn, 1) := by decide +kernel
theorem zd_L_fault_15 : decode zb_L_fault 15 = .ok (.iconst 0, 1) := by decide +kernel
theorem zd_L_fault_16 : decode zb_L_fault 16 = .ok (.ireturn, 1) := by decide +kernel
theorem zd_L_counter_0 : decode zb_L_counter 0 = .ok (.aload_n 2, 1) := by decide +kernel
theorem zd_L_counter_1 : decode zb_L_counter 1 = .ok (.iconst 0, 1) := by decide +kernel
theorem zd_L_counter_2 : decode zb_L_counter 2 = .ok (.aload_n 0, 1) := by decide +kernel
theorem zd_L_counter_3 : decode zb_L_counter 3 = .ok (.iload_n 1, 1) := by decide +kernel
theorem zd_L_counter_4 : decode zb_L_counter 4 = .ok (.invokevirtual 69, 3) := by decide +kernel
theorem zd_L_counter_7 : decode zb_L_counter 7 = .ok (.i2l, 1) := by decide +kernel
theorem zd_L_counter_8 : decode zb_L_counter 8 = .ok (.lastore, 1) := by decide +kernel
theorem zd_L_counter_9 : decode zb_L_counter 9 = .ok (.goto 6, 3) := by decide +kernel
theorem zd_L_counter_12 : decode zb_L_counter 12 = .ok (.astore_n 3, 1) := by decide +kernel
theorem zd_L_counter_13 : decode zb_L_counter 13 = .ok (.iconst 1, 1) := by decide +kernel
theorem zd_L_counter_14 : decode zb_L_counter 14 = .ok (.ireturn, 1) := by decide +kernel
theorem zd_L_counter_15 : decode zb_L_counter 15 = .ok (.iconst 0, 1) := by decide +kernel
theorem zd_L_counter_16 : decode zb_L_counter 16 = .ok (.ireturn, 1) := by decide +kernel
theorem zw_705 : (.methodLink "PlainStepsLaw" 7 zy_PS_register : Cond) ∈ zq_W := List.mem_filter.mpr ⟨List.mem_append_right _ (List.mem_append_right _ (List.mem_append_left _ (List.mem_of_getElem? (i := 90) rfl))), rfl⟩
theorem zw_706 : (.instanceMethod zy_PS_register : Cond) ∈ zq_W := List.mem_filter.mpr ⟨List.mem_append_right _ (List.mem_append_right _ (List.mem_append_left _ (List.mem_of_getElem? (i := 91) rfl))), rfl⟩
theorem zw_707 : (.selects "PlainSteps" zy_PS_register zy_PS_register : Cond) ∈ zq_W := List.mem_filter.mpr ⟨List.mem_append_right _ (List.mem_append_right _ (List.mem_append_left _ (List.mem_of_getElem? (i := 92) rfl))), rfl⟩
theorem zw_708 : (.initialized "PlainSteps" : Cond) ∈ zq_W := List.mem_filter.mpr ⟨List.mem_append_right _ (List.mem_append_left _ (List.mem_of_getElem? (i := 1) rfl)), rfl⟩
theorem zw_709 : (.code zy_PS_register zb_PS_register 2 (some .int) : Cond) ∈ zq_W := List.mem_filter.mpr ⟨List.mem_append_right _ (List.mem_append_right _ (List.mem_append_left _ (List.mem_of_getElem? (i := 93) rfl))), rfl⟩
theorem zw_710 : (.classLink "PlainStepsLaw" 13 "java/lang/IllegalArgumentException" : Cond) ∈ zq_W := List.mem_filter.mpr ⟨List.mem_append_right _ (List.mem_append_right _ (List.mem_append_left _ (List.mem_of_getElem? (i := 88) rfl))), rfl⟩
theorem zw_711 : (.classLink "PlainStepsLaw" 15 "java/lang/UnsupportedOperationException" : Cond) ∈ zq_W := List.mem_filter.mpr ⟨List.mem_append_right _ (List.mem_append_right _ (List.mem_append_left _ (List.mem_of_getElem? (i := 89) rfl))), rfl⟩
theorem zw_712 : (.methodLink "PlainStepsLaw" 17 zy_PS_constant : Cond) ∈ zq_W := List.mem_filter.mpr ⟨List.mem_append_right _ (List.mem_append_right _ (List.mem_append_left _ (List.mem_of_getElem? (i := 186) rfl))), rfl⟩
theorem zw_713 : (.instanceMethod zy_PS_constant : Cond) ∈ zq_W := List.mem_filter.mpr ⟨List.mem_append_right _ (List.mem_append_right _ (List.mem_append_left _ (List.mem_of_getElem? (i := 187) rfl))), rfl⟩
theorem zw_714 : (.selects "PlainSteps" zy_PS_constant zy_PS_constant : Cond) ∈ zq_W := List.mem_filter.mpr ⟨List.mem_append_right _ (List.mem_append_right _ (List.mem_append_left _ (List.mem_of_getElem? (i := 188) rfl))), rfl⟩
theorem zw_715 : (.code zy_PS_constant zb_PS_constant 3 (some .int) : Cond) ∈ zq_W := List.mem_filter.mpr ⟨List.mem_append_right _ (List.mem_append_right _ (List.mem_append_left _ (List.mem_of_getElem? (i := 189) rfl))), rfl⟩
theorem zw_716 : (.methodLink "PlainStepsLaw" 21 zy_PS_field : Cond) ∈ zq_W := List.mem_filter.mpr ⟨List.mem_append_right _ (List.mem_append_right _ (List.mem_append_left _ (List.mem_of_getElem? (i := 198) rfl))), rfl⟩
theorem zw_717 : (.instanceMethod zy_PS_field : Cond) ∈ zq_W := List.mem_filter.mpr ⟨List.mem_append_right _ (List.mem_append_right _ (List.mem_append_left _ (List.mem_of_getElem? (i := 199) rfl))), rfl⟩
theorem zw_718 : (.selects "PlainSteps" zy_PS_field zy_PS_field : Cond) ∈ zq_W := List.mem_filter.mpr ⟨List.mem_append_right _ (List.mem_append_right _ (List.mem_append_left _ (List.mem_of_getElem? (i := 200) rfl))), rfl⟩
theorem zw_719 : (.code zy_PS_field zb_PS_field 4 (some .int) : Cond) ∈ zq_W := List.mem_filter.mpr ⟨List.mem_append_right _ (List.mem_append_right _ (List.mem_append_left _ (List.mem_of_getElem? (i := 201) rfl))), rfl⟩
theorem zw_720 : (.methodLink "PlainStepsLaw" 25 zy_PS_transfer : Cond) ∈ zq_W := List.mem_filter.mpr ⟨List.mem_append_right _ (List.mem_append_right _ (List.mem_append_left _ (List.mem_of_getElem? (i := 211) rfl))), rfl⟩
theorem zw_721 : (.instanceMethod zy_PS_transfer : Cond) ∈ zq_W := List.mem_filter.mpr ⟨List.mem_append_right _ (List.mem_append_right _ (List.mem_append_left _ (List.mem_of_getElem? (i := 212) rfl))), rfl⟩
theorem zw_722 : (.selects "PlainSteps" zy_PS_transfer zy_PS_transfer : Cond) ∈ zq_W := List.mem_filter.mpr ⟨List.mem_append_right _ (List.mem_append_right _ (List.mem_append_left _ (List.mem_of_getElem? (i := 213) rfl))), rfl⟩
theorem zw_723 : (.code zy_PS_transfer zb_PS_transfer 5 (some .int) : Cond) ∈ zq_W := List.mem_filter.mpr ⟨List.mem_append_right _ (List.mem_append_right _ (List.mem_append_left _ (List.mem_of_getElem? (i := 214) rfl))), rfl⟩
theorem zw_724 : (.methodLink "PlainStepsLaw" 29 zy_PS_instruction : Cond) ∈ zq_W := List.mem_filter.mpr ⟨List.mem_append_right _ (List.mem_append_right _ (List.mem_append_left _ (List.mem_of_getElem? (i := 235) rfl))), rfl⟩
theorem zw_725 : (.instanceMethod zy_PS_instruction : Cond) ∈ zq_W := List.mem_filter.mpr ⟨List.mem_append_right _ (List.mem_append_right _ (List.mem_append_left _ (List.mem_of_getElem? (i := 236) rfl))), rfl⟩
theorem zw_726 : (.selects "PlainSteps" zy_PS_instruction zy_PS_instruction : Cond) ∈ zq_W := List.mem_filter.mpr ⟨List.mem_append_right _ (List.mem_append_right _ (List.mem_append_left _ (List.mem_of_getElem? (i := 237) rfl))), rfl⟩
theorem zw_727 : (.code zy_PS_instruction zb_PS_instruction 4 (some .int) : Cond) ∈ zq_W := List.mem_filter.mpr ⟨List.mem_append_right _ (List.mem_append_right _ (List.mem_append_left _ (List.mem_of_getElem? (i := 238) rfl))), rfl⟩
theorem zw_728 : (.methodLink "PlainStepsLaw" 33 zy_PS_memory : Cond) ∈ zq_W := List.mem_filter.mpr ⟨List.mem_append_right _ (List.mem_append_right _ (List.mem_append_right _ (List.mem_append_left _ (List.mem_of_getElem? (i := 12) rfl)))), rfl⟩
theorem zw_729 : (.instanceMethod zy_PS_memory : Cond) ∈ zq_W := List.mem_filter.mpr ⟨List.mem_append_right _ (List.mem_append_right _ (List.mem_append_right _ (List.mem_append_left _ (List.mem_of_getElem? (i := 13) rfl)))), rfl⟩
theorem zw_730 : (.selects "PlainSteps" zy_PS_memory zy_PS_memory : Cond) ∈ zq_W := List.mem_filter.mpr ⟨List.mem_append_right _ (List.mem_append_right _ (List.mem_append_right _ (List.mem_append_left _ (List.mem_of_getElem? (i := 14) rfl)))), rfl⟩
theorem zw_731 : (.code zy_PS_memory zb_PS_memory 4 (some .int) : Cond) ∈ zq_W := List.mem_filter.mpr ⟨List.mem_append_right _ (List.mem_append_right _ (List.mem_append_right _ (List.mem_append_left _ (List.mem_of_getElem? (i := 15) rfl)))), rfl⟩
theorem zw_732 : (.classLink "PlainStepsLaw" 37 "java/lang/IndexOutOfBoundsException" : Cond) ∈ zq_W := List.mem_filter.mpr ⟨List.mem_append_right _ (List.mem_append_right _ (List.mem_append_right _ (List.mem_append_left _ (List.mem_of_getElem? (i := 11) rfl)))), rfl⟩
theorem zw_733 : (.methodLink "PlainStepsLaw" 39 zy_PS_byteAt : Cond) ∈ zq_W := List.mem_filter.mpr ⟨List.mem_append_right _ (List.mem_append_right _ (List.mem_append_right _ (List.mem_append_left _ (List.mem_of_getElem? (i := 49) rfl)))), rfl⟩
theorem zw_734 : (.instanceMethod zy_PS_byteAt : Cond) ∈ zq_W := List.mem_filter.mpr ⟨List.mem_append_right _ (List.mem_append_right _ (List.mem_append_right _ (List.mem_append_left _ (List.mem_of_getElem? (i := 50) rfl)))), rfl⟩
theorem zw_735 : (.selects "PlainSteps" zy_PS_byteAt zy_PS_byteAt : Cond) ∈ zq_W := List.mem_filter.mpr ⟨List.mem_append_right _ (List.mem_append_right _ (List.mem_append_right _ (List.mem_append_left _ (List.mem_of_getElem? (i := 51) rfl)))), rfl⟩
theorem zw_736 : (.code zy_PS_byteAt zb_PS_byteAt 2 (some .int) : Cond) ∈ zq_W := List.mem_filter.mpr ⟨List.mem_append_right _ (List.mem_append_right _ (List.mem_append_right _ (List.mem_append_left _ (List.mem_of_getElem? (i := 52) rfl)))), rfl⟩
theorem zw_737 : (.methodLink "PlainStepsLaw" 42 zy_PS_step : Cond) ∈ zq_W := List.mem_filter.mpr ⟨List.mem_append_right _ (List.mem_append_right _ (List.mem_append_right _ (List.mem_append_left _ (List.mem_of_getElem? (i := 57) rfl)))), rfl⟩
theorem zw_738 : (.instanceMethod zy_PS_step : Cond) ∈ zq_W := List.mem_filter.mpr ⟨List.mem_append_right _ (List.mem_append_right _ (List.mem_append_right _ (List.mem_append_left _ (List.mem_of_getElem? (i := 58) rfl)))), rfl⟩
theorem zw_739 : (.selects "PlainSteps" zy_PS_step zy_PS_step : Cond) ∈ zq_W := List.mem_filter.mpr ⟨List.mem_append_right _ (List.mem_append_right _ (List.mem_append_right _ (List.mem_append_left _ (List.mem_of_getElem? (i := 59) rfl)))), rfl⟩
theorem zw_740 : (.code zy_PS_step zb_PS_step 3 (some .int) : Cond) ∈ zq_W := List.mem_filter.mpr ⟨List.mem_append_right _ (List.mem_append_right _ (List.mem_append_right _ (List.mem_append_left _ (List.mem_of_getElem? (i := 60) rfl)))), rfl⟩
theorem zw_741 : (.classLink "PlainStepsLaw" 45 "java/lang/IllegalStateException" : Cond) ∈ zq_W := List.mem_filter.mpr ⟨List.mem_append_right _ (List.mem_append_right _ (List.mem_append_right _ (List.mem_append_left _ (List.mem_of_getElem? (i := 56) rfl)))), rfl⟩
theorem zw_742 : (.methodLink "PlainStepsLaw" 47 zy_PS_set : Cond) ∈ zq_W := List.mem_filter.mpr ⟨List.mem_append_right _ (List.mem_append_right _ (List.mem_append_right _ (List.mem_append_right _ (List.mem_append_left _ (List.mem_of_getElem? (i := 29) rfl))))), rfl⟩
theorem zw_743 : (.instanceMethod zy_PS_set : Cond) ∈ zq_W := List.mem_filter.mpr ⟨List.mem_append_right _ (List.mem_append_right _ (List.mem_append_right _ (List.mem_append_right _ (List.mem_append_left _ (List.mem_of_getElem? (i := 30) rfl))))), rfl⟩
theorem zw_744 : (.selects "PlainSteps" zy_PS_set zy_PS_set : Cond) ∈ zq_W := List.mem_filter.mpr ⟨List.mem_append_right _ (List.mem_append_right _ (List.mem_append_right _ (List.mem_append_right _ (List.mem_append_left _ (List.mem_of_getElem? (i := 31) rfl))))), rfl⟩
theorem zw_745 : (.code zy_PS_set zb_PS_set 6 (some .long) : Cond) ∈ zq_W := List.mem_filter.mpr ⟨List.mem_append_right _ (List.mem_append_right _ (List.mem_append_right _ (List.mem_append_right _ (List.mem_append_left _ (List.mem_of_getElem? (i := 32) rfl))))), rfl⟩
theorem zw_746 : (.methodLink "PlainStepsLaw" 51 zy_PS_get : Cond) ∈ zq_W := List.mem_filter.mpr ⟨List.mem_append_right _ (List.mem_append_right _ (List.mem_append_right _ (List.mem_append_right _ (List.mem_append_left _ (List.mem_of_getElem? (i := 39) rfl))))), rfl⟩
theorem zw_747 : (.instanceMethod zy_PS_get : Cond) ∈ zq_W := List.mem_filter.mpr ⟨List.mem_append_right _ (List.mem_append_right _ (List.mem_append_right _ (List.mem_append_right _ (List.mem_append_left _ (List.mem_of_getElem? (i := 40) rfl))))), rfl⟩
theorem zw_748 : (.selects "PlainSteps" zy_PS_get zy_PS_get : Cond) ∈ zq_W := List.mem_filter.mpr ⟨List.mem_append_right _ (List.mem_append_right _ (List.mem_append_right _ (List.mem_append_right _ (List.mem_append_left _ (List.mem_of_getElem? (i := 41) rfl))))), rfl⟩
theorem zw_749 : (.code zy_PS_get zb_PS_get 2 (some .long) : Cond) ∈ zq_W := List.mem_filter.mpr ⟨List.mem_append_right _ (List.mem_append_right _ (List.mem_append_right _ (List.mem_append_right _ (List.mem_append_left _ (List.mem_of_getElem? (i := 42) rfl))))), rfl⟩
theorem zw_750 : (.methodLink "PlainStepsLaw" 55 zy_PS_mark : Cond) ∈ zq_W := List.mem_filter.mpr ⟨List.mem_append_right _ (List.mem_append_right _ (List.mem_append_right _ (List.mem_append_right _ (List.mem_append_left _ (List.mem_of_getElem? (i := 46) rfl))))), rfl⟩
theorem zw_751 : (.instanceMethod zy_PS_mark : Cond) ∈ zq_W := List.mem_filter.mpr ⟨List.mem_append_right _ (List.mem_append_right _ (List.mem_append_right _ (List.mem_append_right _ (List.mem_append_left _ (List.mem_of_getElem? (i := 47) rfl))))), rfl⟩
theorem zw_752 : (.selects "PlainSteps" zy_PS_mark zy_PS_mark : Cond) ∈ zq_W := List.mem_filter.mpr ⟨List.mem_append_right _ (List.mem_append_right _ (List.mem_append_right _ (List.mem_append_right _ (List.mem_append_left _ (List.mem_of_getElem? (i := 48) rfl))))), rfl⟩
theorem zw_753 : (.code zy_PS_mark zb_PS_mark 2 (some .boolean) : Cond) ∈ zq_W := List.mem_filter.mpr ⟨List.mem_append_right _ (List.mem_append_right _ (List.mem_append_right _ (List.mem_append_right _ (List.mem_append_left _ (List.mem_of_getElem? (i := 49) rfl))))), rfl⟩
theorem zw_754 : (.methodLink "PlainStepsLaw" 59 zy_PS_line : Cond) ∈ zq_W := List.mem_filter.mpr ⟨List.mem_append_right _ (List.mem_append_right _ (List.mem_append_right _ (List.mem_append_right _ (List.mem_append_left _ (List.mem_of_getElem? (i := 54) rfl))))), rfl⟩
theorem zw_755 : (.instanceMethod zy_PS_line : Cond) ∈ zq_W := List.mem_filter.mpr ⟨List.mem_append_right _ (List.mem_append_right _ (List.mem_append_right _ (List.mem_append_right _ (List.mem_append_left _ (List.mem_of_getElem? (i := 55) rfl))))), rfl⟩
theorem zw_756 : (.selects "PlainSteps" zy_PS_line zy_PS_line : Cond) ∈ zq_W := List.mem_filter.mpr ⟨List.mem_append_right _ (List.mem_append_right _ (List.mem_append_right _ (List.mem_append_right _ (List.mem_append_left _ (List.mem_of_getElem? (i := 56) rfl))))), rfl⟩
theorem zw_757 : (.code zy_PS_line zb_PS_line 3 (some .boolean) : Cond) ∈ zq_W := List.mem_filter.mpr ⟨List.mem_append_right _ (List.mem_append_right _ (List.mem_append_right _ (List.mem_append_right _ (List.mem_append_left _ (List.mem_of_getElem? (i := 57) rfl))))), rfl⟩
theorem zw_758 : (.methodLink "PlainStepsLaw" 63 zy_PS_enable : Cond) ∈ zq_W := List.mem_filter.mpr ⟨List.mem_append_right _ (List.mem_append_right _ (List.mem_append_right _ (List.mem_append_right _ (List.mem_append_left _ (List.mem_of_getElem? (i := 70) rfl))))), rfl⟩
theorem zw_759 : (.instanceMethod zy_PS_enable : Cond) ∈ zq_W := List.mem_filter.mpr ⟨List.mem_append_right _ (List.mem_append_right _ (List.mem_append_right _ (List.mem_append_right _ (List.mem_append_left _ (List.mem_of_getElem? (i := 71) rfl))))), rfl⟩
theorem zw_760 : (.selects "PlainSteps" zy_PS_enable zy_PS_enable : Cond) ∈ zq_W := List.mem_filter.mpr ⟨List.mem_append_right _ (List.mem_append_right _ (List.mem_append_right _ (List.mem_append_right _ (List.mem_append_left _ (List.mem_of_getElem? (i := 72) rfl))))), rfl⟩
theorem zw_761 : (.code zy_PS_enable zb_PS_enable 3 (some .int) : Cond) ∈ zq_W := List.mem_filter.mpr ⟨List.mem_append_right _ (List.mem_append_right _ (List.mem_append_right _ (List.mem_append_right _ (List.mem_append_left _ (List.mem_of_getElem? (i := 73) rfl))))), rfl⟩
theorem zw_762 : (.methodLink "PlainStepsLaw" 66 zy_PS_fault : Cond) ∈ zq_W := List.mem_filter.mpr ⟨List.mem_append_right _ (List.mem_append_right _ (List.mem_append_right _ (List.mem_append_right _ (List.mem_append_left _ (List.mem_of_getElem? (i := 82) rfl))))), rfl⟩
theorem zw_763 : (.instanceMethod zy_PS_fault : Cond) ∈ zq_W := List.mem_filter.mpr ⟨List.mem_append_right _ (List.mem_append_right _ (List.mem_append_right _ (List.mem_append_right _ (List.mem_append_left _ (List.mem_of_getElem? (i := 83) rfl))))), rfl⟩
theorem zw_764 : (.selects "PlainSteps" zy_PS_fault zy_PS_fault : Cond) ∈ zq_W := List.mem_filter.mpr ⟨List.mem_append_right _ (List.mem_append_right _ (List.mem_append_right _ (List.mem_append_right _ (List.mem_append_left _ (List.mem_of_getElem? (i := 84) rfl))))), rfl⟩
theorem zw_765 : (.code zy_PS_fault zb_PS_fault 2 (some .int) : Cond) ∈ zq_W := List.mem_filter.mpr ⟨List.mem_append_right _ (List.mem_append_right _ (List.mem_append_right _ (List.mem_append_right _ (List.mem_append_left _ (List.mem_of_getElem? (i := 85) rfl))))), rfl⟩
theorem zw_766 : (.methodLink "PlainStepsLaw" 69 zy_PS_counter : Cond) ∈ zq_W := List.mem_filter.mpr ⟨List.mem_append_right _ (List.mem_append_right _ (List.mem_append_right _ (List.mem_append_right _ (List.mem_append_left _ (List.mem_of_getElem? (i := 90) rfl))))), rfl⟩
theorem zw_767 : (.instanceMethod zy_PS_counter : Cond) ∈ zq_W := List.mem_filter.mpr ⟨List.mem_append_right _ (List.mem_append_right _ (List.mem_append_right _ (List.mem_append_right _ (List.mem_append_left _ (List.mem_of_getElem? (i := 91) rfl))))), rfl⟩
theorem zw_768 : (.selects "PlainSteps" zy_PS_counter zy_PS_counter : Cond) ∈ zq_W := List.mem_filter.mpr ⟨List.mem_append_right _ (List.mem_append_right _ (List.mem_append_right _ (List.mem_append_right _ (List.mem_append_left _ (List.mem_of_getElem? (i := 92) rfl))))), rfl⟩
theorem zw_769 : (.code zy_PS_counter zb_PS_counter 2 (some .int) : Cond) ∈ zq_W := List.mem_filter.mpr ⟨List.mem_append_right _ (List.mem_append_right _ (List.mem_append_right _ (List.mem_append_right _ (List.mem_append_left _ (List.mem_of_getElem? (i := 93) rfl))))), rfl⟩

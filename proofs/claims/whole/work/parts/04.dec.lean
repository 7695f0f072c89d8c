theorem zd_Registers_init_0 : decode zb_Registers_init 0 = .ok (.aload_n 0, 1) := by decide +kernel
theorem zd_Registers_init_1 : decode zb_Registers_init 1 = .ok (.invokespecial 3, 3) := by decide +kernel
theorem zd_Registers_init_4 : decode zb_Registers_init 4 = .ok (.aload_n 0, 1) := by decide +kernel
theorem zd_Registers_init_5 : decode zb_Registers_init 5 = .ok (.bipush 24, 2) := by decide +kernel
theorem zd_Registers_init_7 : decode zb_Registers_init 7 = .ok (.newarray .long, 2) := by decide +kernel
theorem zd_Registers_init_9 : decode zb_Registers_init 9 = .ok (.putfield 9, 3) := by decide +kernel
theorem zd_Registers_init_12 : decode zb_Registers_init 12 = .ok (.aload_n 0, 1) := by decide +kernel
theorem zd_Registers_init_13 : decode zb_Registers_init 13 = .ok (.bipush 24, 2) := by decide +kernel
theorem zd_Registers_init_15 : decode zb_Registers_init 15 = .ok (.newarray .long, 2) := by decide +kernel
theorem zd_Registers_init_17 : decode zb_Registers_init 17 = .ok (.putfield 15, 3) := by decide +kernel
theorem zd_Registers_init_20 : decode zb_Registers_init 20 = .ok (.aload_n 0, 1) := by decide +kernel
theorem zd_Registers_init_21 : decode zb_Registers_init 21 = .ok (.bipush 24, 2) := by decide +kernel
theorem zd_Registers_init_23 : decode zb_Registers_init 23 = .ok (.newarray .boolean, 2) := by decide +kernel
theorem zd_Registers_init_25 : decode zb_Registers_init 25 = .ok (.putfield 18, 3) := by decide +kernel
theorem zd_Registers_init_28 : decode zb_Registers_init 28 = .ok (.aload_n 0, 1) := by decide +kernel
theorem zd_Registers_init_29 : decode zb_Registers_init 29 = .ok (.getfield 9, 3) := by decide +kernel
theorem zd_Registers_init_32 : decode zb_Registers_init 32 = .ok (.iconst 0, 1) := by decide +kernel
theorem zd_Registers_init_33 : decode zb_Registers_init 33 = .ok (.ldc2_w 22, 3) := by decide +kernel
theorem zd_Registers_init_36 : decode zb_Registers_init 36 = .ok (.lastore, 1) := by decide +kernel
theorem zd_Registers_init_37 : decode zb_Registers_init 37 = .ok (.aload_n 0, 1) := by decide +kernel
theorem zd_Registers_init_38 : decode zb_Registers_init 38 = .ok (.iconst 1, 1) := by decide +kernel
theorem zd_Registers_init_39 : decode zb_Registers_init 39 = .ok (.putfield 24, 3) := by decide +kernel
theorem zd_Registers_init_42 : decode zb_Registers_init 42 = .ok (.return_, 1) := by decide +kernel
theorem zd_Registers_add_0 : decode zb_Registers_add 0 = .ok (.aload_n 0, 1) := by decide +kernel
theorem zd_Registers_add_1 : decode zb_Registers_add 1 = .ok (.getfield 9, 3) := by decide +kernel
theorem zd_Registers_add_4 : decode zb_Registers_add 4 = .ok (.aload_n 0, 1) := by decide +kernel
theorem zd_Registers_add_5 : decode zb_Registers_add 5 = .ok (.getfield 24, 3) := by decide +kernel
theorem zd_Registers_add_8 : decode zb_Registers_add 8 = .ok (.ldc2_w 28, 3) := by decide +kernel
theorem zd_Registers_add_11 : decode zb_Registers_add 11 = .ok (.bipush 64, 2) := by decide +kernel
theorem zd_Registers_add_13 : decode zb_Registers_add 13 = .ok (.iload_n 1, 1) := by decide +kernel
theorem zd_Registers_add_14 : decode zb_Registers_add 14 = .ok (.isub, 1) := by decide +kernel
theorem zd_Registers_add_15 : decode zb_Registers_add 15 = .ok (.lushr, 1) := by decide +kernel
theorem zd_Registers_add_16 : decode zb_Registers_add 16 = .ok (.lastore, 1) := by decide +kernel
theorem zd_Registers_add_17 : decode zb_Registers_add 17 = .ok (.aload_n 0, 1) := by decide +kernel
theorem zd_Registers_add_18 : decode zb_Registers_add 18 = .ok (.getfield 18, 3) := by decide +kernel
theorem zd_Registers_add_21 : decode zb_Registers_add 21 = .ok (.aload_n 0, 1) := by decide +kernel
theorem zd_Registers_add_22 : decode zb_Registers_add 22 = .ok (.getfield 24, 3) := by decide +kernel
theorem zd_Registers_add_25 : decode zb_Registers_add 25 = .ok (.iconst 1, 1) := by decide +kernel
theorem zd_Registers_add_26 : decode zb_Registers_add 26 = .ok (.bastore, 1) := by decide +kernel
theorem zd_Registers_add_27 : decode zb_Registers_add 27 = .ok (.aload_n 0, 1) := by decide +kernel
theorem zd_Registers_add_28 : decode zb_Registers_add 28 = .ok (.dup, 1) := by decide +kernel
theorem zd_Registers_add_29 : decode zb_Registers_add 29 = .ok (.getfield 24, 3) := by decide +kernel
theorem zd_Registers_add_32 : decode zb_Registers_add 32 = .ok (.iconst 1, 1) := by decide +kernel
theorem zd_Registers_add_33 : decode zb_Registers_add 33 = .ok (.iadd, 1) := by decide +kernel
theorem zd_Registers_add_34 : decode zb_Registers_add 34 = .ok (.putfield 24, 3) := by decide +kernel
theorem zd_Registers_add_37 : decode zb_Registers_add 37 = .ok (.aload_n 0, 1) := by decide +kernel
theorem zd_Registers_add_38 : decode zb_Registers_add 38 = .ok (.getfield 24, 3) := by decide +kernel
theorem zd_Registers_add_41 : decode zb_Registers_add 41 = .ok (.iconst 1, 1) := by decide +kernel
theorem zd_Registers_add_42 : decode zb_Registers_add 42 = .ok (.isub, 1) := by decide +kernel
theorem zd_Registers_add_43 : decode zb_Registers_add 43 = .ok (.ireturn, 1) := by decide +kernel
theorem zd_Registers_has_0 : decode zb_Registers_has 0 = .ok (.iload_n 1, 1) := by decide +kernel
theorem zd_Registers_has_1 : decode zb_Registers_has 1 = .ok (.ifCond .lt 15, 3) := by decide +kernel
theorem zd_Registers_has_4 : decode zb_Registers_has 4 = .ok (.iload_n 1, 1) := by decide +kernel
theorem zd_Registers_has_5 : decode zb_Registers_has 5 = .ok (.aload_n 0, 1) := by decide +kernel
theorem zd_Registers_has_6 : decode zb_Registers_has 6 = .ok (.getfield 24, 3) := by decide +kernel
theorem zd_Registers_has_9 : decode zb_Registers_has 9 = .ok (.if_icmp .ge 7, 3) := by decide +kernel
theorem zd_Registers_has_12 : decode zb_Registers_has 12 = .ok (.iconst 1, 1) := by decide +kernel
theorem zd_Registers_has_13 : decode zb_Registers_has 13 = .ok (.goto 4, 3) := by decide +kernel
theorem zd_Registers_has_16 : decode zb_Registers_has 16 = .ok (.iconst 0, 1) := by decide +kernel
theorem zd_Registers_has_17 : decode zb_Registers_has 17 = .ok (.ireturn, 1) := by decide +kernel
theorem zd_Registers_valueOf_0 : decode zb_Registers_valueOf 0 = .ok (.aload_n 0, 1) := by decide +kernel
theorem zd_Registers_valueOf_1 : decode zb_Registers_valueOf 1 = .ok (.getfield 15, 3) := by decide +kernel
theorem zd_Registers_valueOf_4 : decode zb_Registers_valueOf 4 = .ok (.iload_n 1, 1) := by decide +kernel
theorem zd_Registers_valueOf_5 : decode zb_Registers_valueOf 5 = .ok (.laload, 1) := by decide +kernel
theorem zd_Registers_valueOf_6 : decode zb_Registers_valueOf 6 = .ok (.lreturn, 1) := by decide +kernel
theorem zd_Registers_isMarked_0 : decode zb_Registers_isMarked 0 = .ok (.aload_n 0, 1) := by decide +kernel
theorem zd_Registers_isMarked_1 : decode zb_Registers_isMarked 1 = .ok (.getfield 18, 3) := by decide +kernel
theorem zd_Registers_isMarked_4 : decode zb_Registers_isMarked 4 = .ok (.iload_n 1, 1) := by decide +kernel
theorem zd_Registers_isMarked_5 : decode zb_Registers_isMarked 5 = .ok (.baload, 1) := by decide +kernel
theorem zd_Registers_isMarked_6 : decode zb_Registers_isMarked 6 = .ok (.ireturn, 1) := by decide +kernel
theorem zd_Registers_put_0 : decode zb_Registers_put 0 = .ok (.aload_n 0, 1) := by decide +kernel
theorem zd_Registers_put_1 : decode zb_Registers_put 1 = .ok (.getfield 15, 3) := by decide +kernel
theorem zd_Registers_put_4 : decode zb_Registers_put 4 = .ok (.iload_n 1, 1) := by decide +kernel
theorem zd_Registers_put_5 : decode zb_Registers_put 5 = .ok (.lload_n 2, 1) := by decide +kernel
theorem zd_Registers_put_6 : decode zb_Registers_put 6 = .ok (.aload_n 0, 1) := by decide +kernel
theorem zd_Registers_put_7 : decode zb_Registers_put 7 = .ok (.getfield 9, 3) := by decide +kernel
theorem zd_Registers_put_10 : decode zb_Registers_put 10 = .ok (.iload_n 1, 1) := by decide +kernel
theorem zd_Registers_put_11 : decode zb_Registers_put 11 = .ok (.laload, 1) := by decide +kernel
theorem zd_Registers_put_12 : decode zb_Registers_put 12 = .ok (.land, 1) := by decide +kernel
theorem zd_Registers_put_13 : decode zb_Registers_put 13 = .ok (.lastore, 1) := by decide +kernel
theorem zd_Registers_put_14 : decode zb_Registers_put 14 = .ok (.aload_n 0, 1) := by decide +kernel
theorem zd_Registers_put_15 : decode zb_Registers_put 15 = .ok (.getfield 18, 3) := by decide +kernel
theorem zd_Registers_put_18 : decode zb_Registers_put 18 = .ok (.iload_n 1, 1) := by decide +kernel
theorem zd_Registers_put_19 : decode zb_Registers_put 19 = .ok (.iload 4, 2) := by decide +kernel
theorem zd_Registers_put_21 : decode zb_Registers_put 21 = .ok (.bastore, 1) := by decide +kernel
theorem zd_Registers_put_22 : decode zb_Registers_put 22 = .ok (.return_, 1) := by decide +kernel
theorem zd_Registers_placeNow_0 : decode zb_Registers_placeNow 0 = .ok (.aload_n 0, 1) := by decide +kernel
theorem zd_Registers_placeNow_1 : decode zb_Registers_placeNow 1 = .ok (.getfield 15, 3) := by decide +kernel
theorem zd_Registers_placeNow_4 : decode zb_Registers_placeNow 4 = .ok (.iconst 0, 1) := by decide +kernel
theorem zd_Registers_placeNow_5 : decode zb_Registers_placeNow 5 = .ok (.laload, 1) := by decide +kernel
theorem zd_Registers_placeNow_6 : decode zb_Registers_placeNow 6 = .ok (.l2i, 1) := by decide +kernel
theorem zd_Registers_placeNow_7 : decode zb_Registers_placeNow 7 = .ok (.ireturn, 1) := by decide +kernel
theorem zd_Registers_movePlace_0 : decode zb_Registers_movePlace 0 = .ok (.aload_n 0, 1) := by decide +kernel
theorem zd_Registers_movePlace_1 : decode zb_Registers_movePlace 1 = .ok (.iconst 0, 1) := by decide +kernel
theorem zd_Registers_movePlace_2 : decode zb_Registers_movePlace 2 = .ok (.iload_n 1, 1) := by decide +kernel
theorem zd_Registers_movePlace_3 : decode zb_Registers_movePlace 3 = .ok (.i2l, 1) := by decide +kernel
theorem zd_Registers_movePlace_4 : decode zb_Registers_movePlace 4 = .ok (.aload_n 0, 1) := by decide +kernel
theorem zd_Registers_movePlace_5 : decode zb_Registers_movePlace 5 = .ok (.getfield 18, 3) := by decide +kernel
theorem zd_Registers_movePlace_8 : decode zb_Registers_movePlace 8 = .ok (.iconst 0, 1) := by decide +kernel
theorem zd_Registers_movePlace_9 : decode zb_Registers_movePlace 9 = .ok (.baload, 1) := by decide +kernel
theorem zd_Registers_movePlace_10 : decode zb_Registers_movePlace 10 = .ok (.invokevirtual 30, 3) := by decide +kernel
theorem zd_Registers_movePlace_13 : decode zb_Registers_movePlace 13 = .ok (.return_, 1) := by decide +kernel
theorem zd_Bytes_init_0 : decode zb_Bytes_init 0 = .ok (.aload_n 0, 1) := by decide +kernel
theorem zd_Bytes_init_1 : decode zb_Bytes_init 1 = .ok (.invokespecial 3, 3) := by decide +kernel
theorem zd_Bytes_init_4 : decode zb_Bytes_init 4 = .ok (.aload_n 0, 1) := by decide +kernel
theorem zd_Bytes_init_5 : decode zb_Bytes_init 5 = .ok (.sipush 4096, 3) := by decide +kernel
theorem zd_Bytes_init_8 : decode zb_Bytes_init 8 = .ok (.newarray .byte, 2) := by decide +kernel
theorem zd_Bytes_init_10 : decode zb_Bytes_init 10 = .ok (.putfield 9, 3) := by decide +kernel
theorem zd_Bytes_init_13 : decode zb_Bytes_init 13 = .ok (.return_, 1) := by decide +kernel
theorem zd_Bytes_hasByte_0 : decode zb_Bytes_hasByte 0 = .ok (.lload_n 1, 1) := by decide +kernel
theorem zd_Bytes_hasByte_1 : decode zb_Bytes_hasByte 1 = .ok (.lconst 0, 1) := by decide +kernel
theorem zd_Bytes_hasByte_2 : decode zb_Bytes_hasByte 2 = .ok (.lcmp, 1) := by decide +kernel
theorem zd_Bytes_hasByte_3 : decode zb_Bytes_hasByte 3 = .ok (.ifCond .lt 15, 3) := by decide +kernel
theorem zd_Bytes_hasByte_6 : decode zb_Bytes_hasByte 6 = .ok (.lload_n 1, 1) := by decide +kernel
theorem zd_Bytes_hasByte_7 : decode zb_Bytes_hasByte 7 = .ok (.ldc2_w 15, 3) := by decide +kernel
theorem zd_Bytes_hasByte_10 : decode zb_Bytes_hasByte 10 = .ok (.lcmp, 1) := by decide +kernel
theorem zd_Bytes_hasByte_11 : decode zb_Bytes_hasByte 11 = .ok (.ifCond .ge 7, 3) := by decide +kernel
theorem zd_Bytes_hasByte_14 : decode zb_Bytes_hasByte 14 = .ok (.iconst 1, 1) := by decide +kernel
theorem zd_Bytes_hasByte_15 : decode zb_Bytes_hasByte 15 = .ok (.goto 4, 3) := by decide +kernel
theorem zd_Bytes_hasByte_18 : decode zb_Bytes_hasByte 18 = .ok (.iconst 0, 1) := by decide +kernel
theorem zd_Bytes_hasByte_19 : decode zb_Bytes_hasByte 19 = .ok (.ireturn, 1) := by decide +kernel
theorem zd_Bytes_hasWord_0 : decode zb_Bytes_hasWord 0 = .ok (.aload_n 0, 1) := by decide +kernel
theorem zd_Bytes_hasWord_1 : decode zb_Bytes_hasWord 1 = .ok (.lload_n 1, 1) := by decide +kernel
theorem zd_Bytes_hasWord_2 : decode zb_Bytes_hasWord 2 = .ok (.invokevirtual 17, 3) := by decide +kernel
theorem zd_Bytes_hasWord_5 : decode zb_Bytes_hasWord 5 = .ok (.ifCond .eq 15, 3) := by decide +kernel
theorem zd_Bytes_hasWord_8 : decode zb_Bytes_hasWord 8 = .ok (.lload_n 1, 1) := by decide +kernel
theorem zd_Bytes_hasWord_9 : decode zb_Bytes_hasWord 9 = .ok (.lconst 1, 1) := by decide +kernel
theorem zd_Bytes_hasWord_10 : decode zb_Bytes_hasWord 10 = .ok (.land, 1) := by decide +kernel
theorem zd_Bytes_hasWord_11 : decode zb_Bytes_hasWord 11 = .ok (.lconst 0, 1) := by decide +kernel
theorem zd_Bytes_hasWord_12 : decode zb_Bytes_hasWord 12 = .ok (.lcmp, 1) := by decide +kernel
theorem zd_Bytes_hasWord_13 : decode zb_Bytes_hasWord 13 = .ok (.ifCond .ne 7, 3) := by decide +kernel
theorem zd_Bytes_hasWord_16 : decode zb_Bytes_hasWord 16 = .ok (.iconst 1, 1) := by decide +kernel
theorem zd_Bytes_hasWord_17 : decode zb_Bytes_hasWord 17 = .ok (.goto 4, 3) := by decide +kernel
theorem zd_Bytes_hasWord_20 : decode zb_Bytes_hasWord 20 = .ok (.iconst 0, 1) := by decide +kernel
theorem zd_Bytes_hasWord_21 : decode zb_Bytes_hasWord 21 = .ok (.ireturn, 1) := by decide +kernel
theorem zd_Bytes_byteOf_0 : decode zb_Bytes_byteOf 0 = .ok (.aload_n 0, 1) := by decide +kernel
theorem zd_Bytes_byteOf_1 : decode zb_Bytes_byteOf 1 = .ok (.getfield 9, 3) := by decide +kernel
theorem zd_Bytes_byteOf_4 : decode zb_Bytes_byteOf 4 = .ok (.iload_n 1, 1) := by decide +kernel
theorem zd_Bytes_byteOf_5 : decode zb_Bytes_byteOf 5 = .ok (.baload, 1) := by decide +kernel
theorem zd_Bytes_byteOf_6 : decode zb_Bytes_byteOf 6 = .ok (.sipush 255, 3) := by decide +kernel
theorem zd_Bytes_byteOf_9 : decode zb_Bytes_byteOf 9 = .ok (.iand, 1) := by decide +kernel
theorem zd_Bytes_byteOf_10 : decode zb_Bytes_byteOf 10 = .ok (.ireturn, 1) := by decide +kernel
theorem zd_Bytes_wordOf_0 : decode zb_Bytes_wordOf 0 = .ok (.aload_n 0, 1) := by decide +kernel
theorem zd_Bytes_wordOf_1 : decode zb_Bytes_wordOf 1 = .ok (.getfield 9, 3) := by decide +kernel
theorem zd_Bytes_wordOf_4 : decode zb_Bytes_wordOf 4 = .ok (.iload_n 1, 1) := by decide +kernel
theorem zd_Bytes_wordOf_5 : decode zb_Bytes_wordOf 5 = .ok (.baload, 1) := by decide +kernel
theorem zd_Bytes_wordOf_6 : decode zb_Bytes_wordOf 6 = .ok (.sipush 255, 3) := by decide +kernel
theorem zd_Bytes_wordOf_9 : decode zb_Bytes_wordOf 9 = .ok (.iand, 1) := by decide +kernel
theorem zd_Bytes_wordOf_10 : decode zb_Bytes_wordOf 10 = .ok (.aload_n 0, 1) := by decide +kernel
theorem zd_Bytes_wordOf_11 : decode zb_Bytes_wordOf 11 = .ok (.getfield 9, 3) := by decide +kernel
theorem zd_Bytes_wordOf_14 : decode zb_Bytes_wordOf 14 = .ok (.iload_n 1, 1) := by decide +kernel
theorem zd_Bytes_wordOf_15 : decode zb_Bytes_wordOf 15 = .ok (.iconst 1, 1) := by decide +kernel
theorem zd_Bytes_wordOf_16 : decode zb_Bytes_wordOf 16 = .ok (.iadd, 1) := by decide +kernel
theorem zd_Bytes_wordOf_17 : decode zb_Bytes_wordOf 17 = .ok (.baload, 1) := by decide +kernel
theorem zd_Bytes_wordOf_18 : decode zb_Bytes_wordOf 18 = .ok (.sipush 255, 3) := by decide +kernel
theorem zd_Bytes_wordOf_21 : decode zb_Bytes_wordOf 21 = .ok (.iand, 1) := by decide +kernel
theorem zd_Bytes_wordOf_22 : decode zb_Bytes_wordOf 22 = .ok (.bipush 8, 2) := by decide +kernel
theorem zd_Bytes_wordOf_24 : decode zb_Bytes_wordOf 24 = .ok (.ishl, 1) := by decide +kernel
theorem zd_Bytes_wordOf_25 : decode zb_Bytes_wordOf 25 = .ok (.ior, 1) := by decide +kernel
theorem zd_Bytes_wordOf_26 : decode zb_Bytes_wordOf 26 = .ok (.ireturn, 1) := by decide +kernel
theorem zd_Bytes_putByte_0 : decode zb_Bytes_putByte 0 = .ok (.aload_n 0, 1) := by decide +kernel
theorem zd_Bytes_putByte_1 : decode zb_Bytes_putByte 1 = .ok (.getfield 9, 3) := by decide +kernel
theorem zd_Bytes_putByte_4 : decode zb_Bytes_putByte 4 = .ok (.iload_n 1, 1) := by decide +kernel
theorem zd_Bytes_putByte_5 : decode zb_Bytes_putByte 5 = .ok (.lload_n 2, 1) := by decide +kernel
theorem zd_Bytes_putByte_6 : decode zb_Bytes_putByte 6 = .ok (.l2i, 1) := by decide +kernel
theorem zd_Bytes_putByte_7 : decode zb_Bytes_putByte 7 = .ok (.i2b, 1) := by decide +kernel
theorem zd_Bytes_putByte_8 : decode zb_Bytes_putByte 8 = .ok (.bastore, 1) := by decide +kernel
theorem zd_Bytes_putByte_9 : decode zb_Bytes_putByte 9 = .ok (.return_, 1) := by decide +kernel
theorem zd_Bytes_putWord_0 : decode zb_Bytes_putWord 0 = .ok (.aload_n 0, 1) := by decide +kernel
theorem zd_Bytes_putWord_1 : decode zb_Bytes_putWord 1 = .ok (.getfield 9, 3) := by decide +kernel
theorem zd_Bytes_putWord_4 : decode zb_Bytes_putWord 4 = .ok (.iload_n 1, 1) := by decide +kernel
theorem zd_Bytes_putWord_5 : decode zb_Bytes_putWord 5 = .ok (.lload_n 2, 1) := by decide +kernel
theorem zd_Bytes_putWord_6 : decode zb_Bytes_putWord 6 = .ok (.l2i, 1) := by decide +kernel
theorem zd_Bytes_putWord_7 : decode zb_Bytes_putWord 7 = .ok (.i2b, 1) := by decide +kernel
theorem zd_Bytes_putWord_8 : decode zb_Bytes_putWord 8 = .ok (.bastore, 1) := by decide +kernel
theorem zd_Bytes_putWord_9 : decode zb_Bytes_putWord 9 = .ok (.aload_n 0, 1) := by decide +kernel
theorem zd_Bytes_putWord_10 : decode zb_Bytes_putWord 10 = .ok (.getfield 9, 3) := by decide +kernel
theorem zd_Bytes_putWord_13 : decode zb_Bytes_putWord 13 = .ok (.iload_n 1, 1) := by decide +kernel
theorem zd_Bytes_putWord_14 : decode zb_Bytes_putWord 14 = .ok (.iconst 1, 1) := by decide +kernel
theorem zd_Bytes_putWord_15 : decode zb_Bytes_putWord 15 = .ok (.iadd, 1) := by decide +kernel
theorem zd_Bytes_putWord_16 : decode zb_Bytes_putWord 16 = .ok (.lload_n 2, 1) := by decide +kernel
theorem zd_Bytes_putWord_17 : decode zb_Bytes_putWord 17 = .ok (.bipush 8, 2) := by decide +kernel
theorem zd_Bytes_putWord_19 : decode zb_Bytes_putWord 19 = .ok (.lushr, 1) := by decide +kernel
theorem zd_Bytes_putWord_20 : decode zb_Bytes_putWord 20 = .ok (.l2i, 1) := by decide +kernel
theorem zd_Bytes_putWord_21 : decode zb_Bytes_putWord 21 = .ok (.i2b, 1) := by decide +kernel
theorem zd_Bytes_putWord_22 : decode zb_Bytes_putWord 22 = .ok (.bastore, 1) := by decide +kernel
theorem zd_Bytes_putWord_23 : decode zb_Bytes_putWord 23 = .ok (.return_, 1) := by decide +kernel
theorem zd_Operands_init_0 : decode zb_Operands_init 0 = .ok (.aload_n 0, 1) := by decide +kernel
theorem zd_Operands_init_1 : decode zb_Operands_init 1 = .ok (.invokespecial 3, 3) := by decide +kernel
theorem zd_Operands_init_4 : decode zb_Operands_init 4 = .ok (.aload_n 0, 1) := by decide +kernel
theorem zd_Operands_init_5 : decode zb_Operands_init 5 = .ok (.bipush 16, 2) := by decide +kernel
theorem zd_Operands_init_7 : decode zb_Operands_init 7 = .ok (.newarray .long, 2) := by decide +kernel
theorem zd_Operands_init_9 : decode zb_Operands_init 9 = .ok (.putfield 9, 3) := by decide +kernel
theorem zd_Operands_init_12 : decode zb_Operands_init 12 = .ok (.aload_n 0, 1) := by decide +kernel
theorem zd_Operands_init_13 : decode zb_Operands_init 13 = .ok (.bipush 16, 2) := by decide +kernel
theorem zd_Operands_init_15 : decode zb_Operands_init 15 = .ok (.newarray .int, 2) := by decide +kernel
theorem zd_Operands_init_17 : decode zb_Operands_init 17 = .ok (.putfield 15, 3) := by decide +kernel
theorem zd_Operands_init_20 : decode zb_Operands_init 20 = .ok (.aload_n 0, 1) := by decide +kernel
theorem zd_Operands_init_21 : decode zb_Operands_init 21 = .ok (.bipush 16, 2) := by decide +kernel
theorem zd_Operands_init_23 : decode zb_Operands_init 23 = .ok (.newarray .int, 2) := by decide +kernel
theorem zd_Operands_init_25 : decode zb_Operands_init 25 = .ok (.putfield 19, 3) := by decide +kernel
theorem zd_Operands_init_28 : decode zb_Operands_init 28 = .ok (.aload_n 0, 1) := by decide +kernel
theorem zd_Operands_init_29 : decode zb_Operands_init 29 = .ok (.bipush 16, 2) := by decide +kernel
theorem zd_Operands_init_31 : decode zb_Operands_init 31 = .ok (.newarray .boolean, 2) := by decide +kernel
theorem zd_Operands_init_33 : decode zb_Operands_init 33 = .ok (.putfield 22, 3) := by decide +kernel
theorem zd_Operands_init_36 : decode zb_Operands_init 36 = .ok (.aload_n 0, 1) := by decide +kernel
theorem zd_Operands_init_37 : decode zb_Operands_init 37 = .ok (.aload_n 1, 1) := by decide +kernel
theorem zd_Operands_init_38 : decode zb_Operands_init 38 = .ok (.putfield 26, 3) := by decide +kernel
theorem zd_Operands_init_41 : decode zb_Operands_init 41 = .ok (.return_, 1) := by decide +kernel
theorem zd_Operands_addConstant_0 : decode zb_Operands_addConstant 0 = .ok (.aload_n 0, 1) := by decide +kernel
theorem zd_Operands_addConstant_1 : decode zb_Operands_addConstant 1 = .ok (.getfield 9, 3) := by decide +kernel
theorem zd_Operands_addConstant_4 : decode zb_Operands_addConstant 4 = .ok (.aload_n 0, 1) := by decide +kernel
theorem zd_Operands_addConstant_5 : decode zb_Operands_addConstant 5 = .ok (.getfield 30, 3) := by decide +kernel
theorem zd_Operands_addConstant_8 : decode zb_Operands_addConstant 8 = .ok (.lload_n 1, 1) := by decide +kernel
theorem zd_Operands_addConstant_9 : decode zb_Operands_addConstant 9 = .ok (.lastore, 1) := by decide +kernel
theorem zd_Operands_addConstant_10 : decode zb_Operands_addConstant 10 = .ok (.aload_n 0, 1) := by decide +kernel
theorem zd_Operands_addConstant_11 : decode zb_Operands_addConstant 11 = .ok (.dup, 1) := by decide +kernel
theorem zd_Operands_addConstant_12 : decode zb_Operands_addConstant 12 = .ok (.getfield 30, 3) := by decide +kernel
theorem zd_Operands_addConstant_15 : decode zb_Operands_addConstant 15 = .ok (.iconst 1, 1) := by decide +kernel
theorem zd_Operands_addConstant_16 : decode zb_Operands_addConstant 16 = .ok (.iadd, 1) := by decide +kernel
theorem zd_Operands_addConstant_17 : decode zb_Operands_addConstant 17 = .ok (.putfield 30, 3) := by decide +kernel
theorem zd_Operands_addConstant_20 : decode zb_Operands_addConstant 20 = .ok (.bipush 32, 2) := by decide +kernel
theorem zd_Operands_addConstant_22 : decode zb_Operands_addConstant 22 = .ok (.aload_n 0, 1) := by decide +kernel
theorem zd_Operands_addConstant_23 : decode zb_Operands_addConstant 23 = .ok (.getfield 30, 3) := by decide +kernel
theorem zd_Operands_addConstant_26 : decode zb_Operands_addConstant 26 = .ok (.iadd, 1) := by decide +kernel
theorem zd_Operands_addConstant_27 : decode zb_Operands_addConstant 27 = .ok (.iconst 1, 1) := by decide +kernel
theorem zd_Operands_addConstant_28 : decode zb_Operands_addConstant 28 = .ok (.isub, 1) := by decide +kernel
theorem zd_Operands_addConstant_29 : decode zb_Operands_addConstant 29 = .ok (.ireturn, 1) := by decide +kernel
theorem zd_Operands_addField_0 : decode zb_Operands_addField 0 = .ok (.aload_n 0, 1) := by decide +kernel
theorem zd_Operands_addField_1 : decode zb_Operands_addField 1 = .ok (.getfield 15, 3) := by decide +kernel
theorem zd_Operands_addField_4 : decode zb_Operands_addField 4 = .ok (.aload_n 0, 1) := by decide +kernel
theorem zd_Operands_addField_5 : decode zb_Operands_addField 5 = .ok (.getfield 34, 3) := by decide +kernel
theorem zd_Operands_addField_8 : decode zb_Operands_addField 8 = .ok (.iload_n 1, 1) := by decide +kernel
theorem zd_Operands_addField_9 : decode zb_Operands_addField 9 = .ok (.iastore, 1) := by decide +kernel
theorem zd_Operands_addField_10 : decode zb_Operands_addField 10 = .ok (.aload_n 0, 1) := by decide +kernel
theorem zd_Operands_addField_11 : decode zb_Operands_addField 11 = .ok (.getfield 19, 3) := by decide +kernel
theorem zd_Operands_addField_14 : decode zb_Operands_addField 14 = .ok (.aload_n 0, 1) := by decide +kernel
theorem zd_Operands_addField_15 : decode zb_Operands_addField 15 = .ok (.getfield 34, 3) := by decide +kernel
theorem zd_Operands_addField_18 : decode zb_Operands_addField 18 = .ok (.iload_n 2, 1) := by decide +kernel
theorem zd_Operands_addField_19 : decode zb_Operands_addField 19 = .ok (.iastore, 1) := by decide +kernel
theorem zd_Operands_addField_20 : decode zb_Operands_addField 20 = .ok (.aload_n 0, 1) := by decide +kernel
theorem zd_Operands_addField_21 : decode zb_Operands_addField 21 = .ok (.getfield 22, 3) := by decide +kernel
theorem zd_Operands_addField_24 : decode zb_Operands_addField 24 = .ok (.aload_n 0, 1) := by decide +kernel
theorem zd_Operands_addField_25 : decode zb_Operands_addField 25 = .ok (.getfield 34, 3) := by decide +kernel
theorem zd_Operands_addField_28 : decode zb_Operands_addField 28 = .ok (.iload_n 3, 1) := by decide +kernel
theorem zd_Operands_addField_29 : decode zb_Operands_addField 29 = .ok (.bastore, 1) := by decide +kernel
theorem zd_Operands_addField_30 : decode zb_Operands_addField 30 = .ok (.aload_n 0, 1) := by decide +kernel
theorem zd_Operands_addField_31 : decode zb_Operands_addField 31 = .ok (.dup, 1) := by decide +kernel
theorem zd_Operands_addField_32 : decode zb_Operands_addField 32 = .ok (.getfield 34, 3) := by decide +kernel
theorem zd_Operands_addField_35 : decode zb_Operands_addField 35 = .ok (.iconst 1, 1) := by decide +kernel
theorem zd_Operands_addField_36 : decode zb_Operands_addField 36 = .ok (.iadd, 1) := by decide +kernel
theorem zd_Operands_addField_37 : decode zb_Operands_addField 37 = .ok (.putfield 34, 3) := by decide +kernel
theorem zd_Operands_addField_40 : decode zb_Operands_addField 40 = .ok (.bipush 64, 2) := by decide +kernel
theorem zd_Operands_addField_42 : decode zb_Operands_addField 42 = .ok (.aload_n 0, 1) := by decide +kernel
theorem zd_Operands_addField_43 : decode zb_Operands_addField 43 = .ok (.getfield 34, 3) := by decide +kernel
theorem zd_Operands_addField_46 : decode zb_Operands_addField 46 = .ok (.iadd, 1) := by decide +kernel
theorem zd_Operands_addField_47 : decode zb_Operands_addField 47 = .ok (.iconst 1, 1) := by decide +kernel
theorem zd_Operands_addField_48 : decode zb_Operands_addField 48 = .ok (.isub, 1) := by decide +kernel
theorem zd_Operands_addField_49 : decode zb_Operands_addField 49 = .ok (.ireturn, 1) := by decide +kernel
theorem zd_Operands_has_0 : decode zb_Operands_has 0 = .ok (.iload_n 1, 1) := by decide +kernel
theorem zd_Operands_has_1 : decode zb_Operands_has 1 = .ok (.bipush 64, 2) := by decide +kernel
theorem zd_Operands_has_3 : decode zb_Operands_has 3 = .ok (.if_icmp .lt 20, 3) := by decide +kernel
theorem zd_Operands_has_6 : decode zb_Operands_has 6 = .ok (.iload_n 1, 1) := by decide +kernel
theorem zd_Operands_has_7 : decode zb_Operands_has 7 = .ok (.bipush 64, 2) := by decide +kernel
theorem zd_Operands_has_9 : decode zb_Operands_has 9 = .ok (.isub, 1) := by decide +kernel
theorem zd_Operands_has_10 : decode zb_Operands_has 10 = .ok (.aload_n 0, 1) := by decide +kernel
theorem zd_Operands_has_11 : decode zb_Operands_has 11 = .ok (.getfield 34, 3) := by decide +kernel
theorem zd_Operands_has_14 : decode zb_Operands_has 14 = .ok (.if_icmp .ge 7, 3) := by decide +kernel
theorem zd_Operands_has_17 : decode zb_Operands_has 17 = .ok (.iconst 1, 1) := by decide +kernel
theorem zd_Operands_has_18 : decode zb_Operands_has 18 = .ok (.goto 4, 3) := by decide +kernel
theorem zd_Operands_has_21 : decode zb_Operands_has 21 = .ok (.iconst 0, 1) := by decide +kernel
theorem zd_Operands_has_22 : decode zb_Operands_has 22 = .ok (.ireturn, 1) := by decide +kernel
theorem zd_Operands_has_23 : decode zb_Operands_has 23 = .ok (.iload_n 1, 1) := by decide +kernel
theorem zd_Operands_has_24 : decode zb_Operands_has 24 = .ok (.bipush 32, 2) := by decide +kernel
theorem zd_Operands_has_26 : decode zb_Operands_has 26 = .ok (.if_icmp .lt 20, 3) := by decide +kernel
theorem zd_Operands_has_29 : decode zb_Operands_has 29 = .ok (.iload_n 1, 1) := by decide +kernel
theorem zd_Operands_has_30 : decode zb_Operands_has 30 = .ok (.bipush 32, 2) := by decide +kernel
theorem zd_Operands_has_32 : decode zb_Operands_has 32 = .ok (.isub, 1) := by decide +kernel
theorem zd_Operands_has_33 : decode zb_Operands_has 33 = .ok (.aload_n 0, 1) := by decide +kernel
theorem zd_Operands_has_34 : decode zb_Operands_has 34 = .ok (.getfield 30, 3) := by decide +kernel
theorem zd_Operands_has_37 : decode zb_Operands_has 37 = .ok (.if_icmp .ge 7, 3) := by decide +kernel
theorem zd_Operands_has_40 : decode zb_Operands_has 40 = .ok (.iconst 1, 1) := by decide +kernel
theorem zd_Operands_has_41 : decode zb_Operands_has 41 = .ok (.goto 4, 3) := by decide +kernel
theorem zd_Operands_has_44 : decode zb_Operands_has 44 = .ok (.iconst 0, 1) := by decide +kernel
theorem zd_Operands_has_45 : decode zb_Operands_has 45 = .ok (.ireturn, 1) := by decide +kernel
theorem zd_Operands_has_46 : decode zb_Operands_has 46 = .ok (.aload_n 0, 1) := by decide +kernel
theorem zd_Operands_has_47 : decode zb_Operands_has 47 = .ok (.getfield 26, 3) := by decide +kernel
theorem zd_Operands_has_50 : decode zb_Operands_has 50 = .ok (.iload_n 1, 1) := by decide +kernel
theorem zd_Operands_has_51 : decode zb_Operands_has 51 = .ok (.invokevirtual 37, 3) := by decide +kernel
theorem zd_Operands_has_54 : decode zb_Operands_has 54 = .ok (.ireturn, 1) := by decide +kernel
theorem zd_Operands_read_0 : decode zb_Operands_read 0 = .ok (.iload_n 1, 1) := by decide +kernel
theorem zd_Operands_read_1 : decode zb_Operands_read 1 = .ok (.bipush 64, 2) := by decide +kernel
theorem zd_Operands_read_3 : decode zb_Operands_read 3 = .ok (.if_icmp .lt 13, 3) := by decide +kernel
theorem zd_Operands_read_6 : decode zb_Operands_read 6 = .ok (.aload_n 0, 1) := by decide +kernel
theorem zd_Operands_read_7 : decode zb_Operands_read 7 = .ok (.iload_n 1, 1) := by decide +kernel
theorem zd_Operands_read_8 : decode zb_Operands_read 8 = .ok (.bipush 64, 2) := by decide +kernel
theorem zd_Operands_read_10 : decode zb_Operands_read 10 = .ok (.isub, 1) := by decide +kernel
theorem zd_Operands_read_11 : decode zb_Operands_read 11 = .ok (.iload_n 2, 1) := by decide +kernel
theorem zd_Operands_read_12 : decode zb_Operands_read 12 = .ok (.invokevirtual 43, 3) := by decide +kernel
theorem zd_Operands_read_15 : decode zb_Operands_read 15 = .ok (.lreturn, 1) := by decide +kernel
theorem zd_Operands_read_16 : decode zb_Operands_read 16 = .ok (.iload_n 1, 1) := by decide +kernel
theorem zd_Operands_read_17 : decode zb_Operands_read 17 = .ok (.bipush 32, 2) := by decide +kernel
theorem zd_Operands_read_19 : decode zb_Operands_read 19 = .ok (.if_icmp .lt 13, 3) := by decide +kernel
theorem zd_Operands_read_22 : decode zb_Operands_read 22 = .ok (.aload_n 0, 1) := by decide +kernel
theorem zd_Operands_read_23 : decode zb_Operands_read 23 = .ok (.getfield 9, 3) := by decide +kernel
theorem zd_Operands_read_26 : decode zb_Operands_read 26 = .ok (.iload_n 1, 1) := by decide +kernel
theorem zd_Operands_read_27 : decode zb_Operands_read 27 = .ok (.bipush 32, 2) := by decide +kernel
theorem zd_Operands_read_29 : decode zb_Operands_read 29 = .ok (.isub, 1) := by decide +kernel
theorem zd_Operands_read_30 : decode zb_Operands_read 30 = .ok (.laload, 1) := by decide +kernel
theorem zd_Operands_read_31 : decode zb_Operands_read 31 = .ok (.lreturn, 1) := by decide +kernel
theorem zd_Operands_read_32 : decode zb_Operands_read 32 = .ok (.aload_n 0, 1) := by decide +kernel
theorem zd_Operands_read_33 : decode zb_Operands_read 33 = .ok (.getfield 26, 3) := by decide +kernel
theorem zd_Operands_read_36 : decode zb_Operands_read 36 = .ok (.iload_n 1, 1) := by decide +kernel
theorem zd_Operands_read_37 : decode zb_Operands_read 37 = .ok (.invokevirtual 47, 3) := by decide +kernel
theorem zd_Operands_read_40 : decode zb_Operands_read 40 = .ok (.lreturn, 1) := by decide +kernel
theorem zd_Operands_readField_0 : decode zb_Operands_readField 0 = .ok (.bipush 63, 2) := by decide +kernel
theorem zd_Operands_readField_2 : decode zb_Operands_readField 2 = .ok (.aload_n 0, 1) := by decide +kernel
theorem zd_Operands_readField_3 : decode zb_Operands_readField 3 = .ok (.getfield 19, 3) := by decide +kernel
theorem zd_Operands_readField_6 : decode zb_Operands_readField 6 = .ok (.iload_n 1, 1) := by decide +kernel
theorem zd_Operands_readField_7 : decode zb_Operands_readField 7 = .ok (.iaload, 1) := by decide +kernel
theorem zd_Operands_readField_8 : decode zb_Operands_readField 8 = .ok (.isub, 1) := by decide +kernel
theorem zd_Operands_readField_9 : decode zb_Operands_readField 9 = .ok (.istore_n 3, 1) := by decide +kernel
theorem zd_Operands_readField_10 : decode zb_Operands_readField 10 = .ok (.iload_n 3, 1) := by decide +kernel
theorem zd_Operands_readField_11 : decode zb_Operands_readField 11 = .ok (.aload_n 0, 1) := by decide +kernel
theorem zd_Operands_readField_12 : decode zb_Operands_readField 12 = .ok (.getfield 15, 3) := by decide +kernel
theorem zd_Operands_readField_15 : decode zb_Operands_readField 15 = .ok (.iload_n 1, 1) := by decide +kernel
theorem zd_Operands_readField_16 : decode zb_Operands_readField 16 = .ok (.iaload, 1) := by decide +kernel
theorem zd_Operands_readField_17 : decode zb_Operands_readField 17 = .ok (.iadd, 1) := by decide +kernel
theorem zd_Operands_readField_18 : decode zb_Operands_readField 18 = .ok (.istore 4, 2) := by decide +kernel
theorem zd_Operands_readField_20 : decode zb_Operands_readField 20 = .ok (.iload_n 2, 1) := by decide +kernel
theorem zd_Operands_readField_21 : decode zb_Operands_readField 21 = .ok (.i2l, 1) := by decide +kernel
theorem zd_Operands_readField_22 : decode zb_Operands_readField 22 = .ok (.iload_n 3, 1) := by decide +kernel
theorem zd_Operands_readField_23 : decode zb_Operands_readField 23 = .ok (.lshl, 1) := by decide +kernel
theorem zd_Operands_readField_24 : decode zb_Operands_readField 24 = .ok (.lstore 5, 2) := by decide +kernel
theorem zd_Operands_readField_26 : decode zb_Operands_readField 26 = .ok (.aload_n 0, 1) := by decide +kernel
theorem zd_Operands_readField_27 : decode zb_Operands_readField 27 = .ok (.getfield 22, 3) := by decide +kernel
theorem zd_Operands_readField_30 : decode zb_Operands_readField 30 = .ok (.iload_n 1, 1) := by decide +kernel
theorem zd_Operands_readField_31 : decode zb_Operands_readField 31 = .ok (.baload, 1) := by decide +kernel
theorem zd_Operands_readField_32 : decode zb_Operands_readField 32 = .ok (.ifCond .eq 11, 3) := by decide +kernel
theorem zd_Operands_readField_35 : decode zb_Operands_readField 35 = .ok (.lload 5, 2) := by decide +kernel
theorem zd_Operands_readField_37 : decode zb_Operands_readField 37 = .ok (.iload 4, 2) := by decide +kernel
theorem zd_Operands_readField_39 : decode zb_Operands_readField 39 = .ok (.lshr, 1) := by decide +kernel
theorem zd_Operands_readField_40 : decode zb_Operands_readField 40 = .ok (.goto 8, 3) := by decide +kernel
theorem zd_Operands_readField_43 : decode zb_Operands_readField 43 = .ok (.lload 5, 2) := by decide +kernel
theorem zd_Operands_readField_45 : decode zb_Operands_readField 45 = .ok (.iload 4, 2) := by decide +kernel
theorem zd_Operands_readField_47 : decode zb_Operands_readField 47 = .ok (.lushr, 1) := by decide +kernel
theorem zd_Operands_readField_48 : decode zb_Operands_readField 48 = .ok (.lreturn, 1) := by decide +kernel
theorem zd_Operands_isMarked_0 : decode zb_Operands_isMarked 0 = .ok (.iload_n 1, 1) := by decide +kernel
theorem zd_Operands_isMarked_1 : decode zb_Operands_isMarked 1 = .ok (.bipush 32, 2) := by decide +kernel
theorem zd_Operands_isMarked_3 : decode zb_Operands_isMarked 3 = .ok (.if_icmp .ge 18, 3) := by decide +kernel
theorem zd_Operands_isMarked_6 : decode zb_Operands_isMarked 6 = .ok (.aload_n 0, 1) := by decide +kernel
theorem zd_Operands_isMarked_7 : decode zb_Operands_isMarked 7 = .ok (.getfield 26, 3) := by decide +kernel
theorem zd_Operands_isMarked_10 : decode zb_Operands_isMarked 10 = .ok (.iload_n 1, 1) := by decide +kernel
theorem zd_Operands_isMarked_11 : decode zb_Operands_isMarked 11 = .ok (.invokevirtual 51, 3) := by decide +kernel
theorem zd_Operands_isMarked_14 : decode zb_Operands_isMarked 14 = .ok (.ifCond .eq 7, 3) := by decide +kernel
theorem zd_Operands_isMarked_17 : decode zb_Operands_isMarked 17 = .ok (.iconst 1, 1) := by decide +kernel
theorem zd_Operands_isMarked_18 : decode zb_Operands_isMarked 18 = .ok (.goto 4, 3) := by decide +kernel
theorem zd_Operands_isMarked_21 : decode zb_Operands_isMarked 21 = .ok (.iconst 0, 1) := by decide +kernel
theorem zd_Operands_isMarked_22 : decode zb_Operands_isMarked 22 = .ok (.ireturn, 1) := by decide +kernel
theorem zd_Program_init_0 : decode zb_Program_init 0 = .ok (.aload_n 0, 1) := by decide +kernel
theorem zd_Program_init_1 : decode zb_Program_init 1 = .ok (.invokespecial 3, 3) := by decide +kernel
theorem zd_Program_init_4 : decode zb_Program_init 4 = .ok (.aload_n 0, 1) := by decide +kernel
theorem zd_Program_init_5 : decode zb_Program_init 5 = .ok (.sipush 200, 3) := by decide +kernel
theorem zd_Program_init_8 : decode zb_Program_init 8 = .ok (.newarray .int, 2) := by decide +kernel
theorem zd_Program_init_10 : decode zb_Program_init 10 = .ok (.putfield 9, 3) := by decide +kernel
theorem zd_Program_init_13 : decode zb_Program_init 13 = .ok (.aload_n 0, 1) := by decide +kernel
theorem zd_Program_init_14 : decode zb_Program_init 14 = .ok (.sipush 200, 3) := by decide +kernel
theorem zd_Program_init_17 : decode zb_Program_init 17 = .ok (.newarray .int, 2) := by decide +kernel
theorem zd_Program_init_19 : decode zb_Program_init 19 = .ok (.putfield 15, 3) := by decide +kernel
theorem zd_Program_init_22 : decode zb_Program_init 22 = .ok (.aload_n 0, 1) := by decide +kernel
theorem zd_Program_init_23 : decode zb_Program_init 23 = .ok (.sipush 200, 3) := by decide +kernel
theorem zd_Program_init_26 : decode zb_Program_init 26 = .ok (.newarray .int, 2) := by decide +kernel
theorem zd_Program_init_28 : decode zb_Program_init 28 = .ok (.putfield 18, 3) := by decide +kernel
theorem zd_Program_init_31 : decode zb_Program_init 31 = .ok (.aload_n 0, 1) := by decide +kernel
theorem zd_Program_init_32 : decode zb_Program_init 32 = .ok (.sipush 200, 3) := by decide +kernel
theorem zd_Program_init_35 : decode zb_Program_init 35 = .ok (.newarray .int, 2) := by decide +kernel
theorem zd_Program_init_37 : decode zb_Program_init 37 = .ok (.putfield 21, 3) := by decide +kernel
theorem zd_Program_init_40 : decode zb_Program_init 40 = .ok (.aload_n 0, 1) := by decide +kernel
theorem zd_Program_init_41 : decode zb_Program_init 41 = .ok (.bipush 40, 2) := by decide +kernel
theorem zd_Program_init_43 : decode zb_Program_init 43 = .ok (.newarray .int, 2) := by decide +kernel
theorem zd_Program_init_45 : decode zb_Program_init 45 = .ok (.putfield 24, 3) := by decide +kernel
theorem zd_Program_init_48 : decode zb_Program_init 48 = .ok (.aload_n 0, 1) := by decide +kernel
theorem zd_Program_init_49 : decode zb_Program_init 49 = .ok (.bipush 40, 2) := by decide +kernel
theorem zd_Program_init_51 : decode zb_Program_init 51 = .ok (.newarray .int, 2) := by decide +kernel
theorem zd_Program_init_53 : decode zb_Program_init 53 = .ok (.putfield 27, 3) := by decide +kernel
theorem zd_Program_init_56 : decode zb_Program_init 56 = .ok (.aload_n 0, 1) := by decide +kernel
theorem zd_Program_init_57 : decode zb_Program_init 57 = .ok (.bipush 40, 2) := by decide +kernel
theorem zd_Program_init_59 : decode zb_Program_init 59 = .ok (.newarray .int, 2) := by decide +kernel
theorem zd_Program_init_61 : decode zb_Program_init 61 = .ok (.putfield 30, 3) := by decide +kernel
theorem zd_Program_init_64 : decode zb_Program_init 64 = .ok (.aload_n 0, 1) := by decide +kernel
theorem zd_Program_init_65 : decode zb_Program_init 65 = .ok (.bipush 40, 2) := by decide +kernel
theorem zd_Program_init_67 : decode zb_Program_init 67 = .ok (.newarray .int, 2) := by decide +kernel
theorem zd_Program_init_69 : decode zb_Program_init 69 = .ok (.putfield 33, 3) := by decide +kernel
theorem zd_Program_init_72 : decode zb_Program_init 72 = .ok (.aload_n 0, 1) := by decide +kernel
theorem zd_Program_init_73 : decode zb_Program_init 73 = .ok (.bipush 40, 2) := by decide +kernel
theorem zd_Program_init_75 : decode zb_Program_init 75 = .ok (.newarray .int, 2) := by decide +kernel
theorem zd_Program_init_77 : decode zb_Program_init 77 = .ok (.putfield 36, 3) := by decide +kernel
theorem zd_Program_init_80 : decode zb_Program_init 80 = .ok (.return_, 1) := by decide +kernel
theorem zd_Program_addTransfer_0 : decode zb_Program_addTransfer 0 = .ok (.aload_n 0, 1) := by decide +kernel
theorem zd_Program_addTransfer_1 : decode zb_Program_addTransfer 1 = .ok (.getfield 9, 3) := by decide +kernel
theorem zd_Program_addTransfer_4 : decode zb_Program_addTransfer 4 = .ok (.aload_n 0, 1) := by decide +kernel
theorem zd_Program_addTransfer_5 : decode zb_Program_addTransfer 5 = .ok (.getfield 39, 3) := by decide +kernel
theorem zd_Program_addTransfer_8 : decode zb_Program_addTransfer 8 = .ok (.iload_n 1, 1) := by decide +kernel
theorem zd_Program_addTransfer_9 : decode zb_Program_addTransfer 9 = .ok (.iastore, 1) := by decide +kernel
theorem zd_Program_addTransfer_10 : decode zb_Program_addTransfer 10 = .ok (.aload_n 0, 1) := by decide +kernel
theorem zd_Program_addTransfer_11 : decode zb_Program_addTransfer 11 = .ok (.getfield 15, 3) := by decide +kernel
theorem zd_Program_addTransfer_14 : decode zb_Program_addTransfer 14 = .ok (.aload_n 0, 1) := by decide +kernel
theorem zd_Program_addTransfer_15 : decode zb_Program_addTransfer 15 = .ok (.getfield 39, 3) := by decide +kernel
theorem zd_Program_addTransfer_18 : decode zb_Program_addTransfer 18 = .ok (.iload_n 2, 1) := by decide +kernel
theorem zd_Program_addTransfer_19 : decode zb_Program_addTransfer 19 = .ok (.iastore, 1) := by decide +kernel
theorem zd_Program_addTransfer_20 : decode zb_Program_addTransfer 20 = .ok (.aload_n 0, 1) := by decide +kernel
theorem zd_Program_addTransfer_21 : decode zb_Program_addTransfer 21 = .ok (.getfield 18, 3) := by decide +kernel
theorem zd_Program_addTransfer_24 : decode zb_Program_addTransfer 24 = .ok (.aload_n 0, 1) := by decide +kernel
theorem zd_Program_addTransfer_25 : decode zb_Program_addTransfer 25 = .ok (.getfield 39, 3) := by decide +kernel
theorem zd_Program_addTransfer_28 : decode zb_Program_addTransfer 28 = .ok (.iload_n 3, 1) := by decide +kernel
theorem zd_Program_addTransfer_29 : decode zb_Program_addTransfer 29 = .ok (.iastore, 1) := by decide +kernel
theorem zd_Program_addTransfer_30 : decode zb_Program_addTransfer 30 = .ok (.aload_n 0, 1) := by decide +kernel
theorem zd_Program_addTransfer_31 : decode zb_Program_addTransfer 31 = .ok (.getfield 21, 3) := by decide +kernel
theorem zd_Program_addTransfer_34 : decode zb_Program_addTransfer 34 = .ok (.aload_n 0, 1) := by decide +kernel
theorem zd_Program_addTransfer_35 : decode zb_Program_addTransfer 35 = .ok (.getfield 39, 3) := by decide +kernel
theorem zd_Program_addTransfer_38 : decode zb_Program_addTransfer 38 = .ok (.iload 4, 2) := by decide +kernel
theorem zd_Program_addTransfer_40 : decode zb_Program_addTransfer 40 = .ok (.iastore, 1) := by decide +kernel
theorem zd_Program_addTransfer_41 : decode zb_Program_addTransfer 41 = .ok (.aload_n 0, 1) := by decide +kernel
theorem zd_Program_addTransfer_42 : decode zb_Program_addTransfer 42 = .ok (.dup, 1) := by decide +kernel
theorem zd_Program_addTransfer_43 : decode zb_Program_addTransfer 43 = .ok (.getfield 39, 3) := by decide +kernel
theorem zd_Program_addTransfer_46 : decode zb_Program_addTransfer 46 = .ok (.iconst 1, 1) := by decide +kernel
theorem zd_Program_addTransfer_47 : decode zb_Program_addTransfer 47 = .ok (.iadd, 1) := by decide +kernel
theorem zd_Program_addTransfer_48 : decode zb_Program_addTransfer 48 = .ok (.putfield 39, 3) := by decide +kernel
theorem zd_Program_addTransfer_51 : decode zb_Program_addTransfer 51 = .ok (.aload_n 0, 1) := by decide +kernel
theorem zd_Program_addTransfer_52 : decode zb_Program_addTransfer 52 = .ok (.getfield 39, 3) := by decide +kernel
theorem zd_Program_addTransfer_55 : decode zb_Program_addTransfer 55 = .ok (.ireturn, 1) := by decide +kernel
theorem zd_Program_addInstruction_0 : decode zb_Program_addInstruction 0 = .ok (.aload_n 0, 1) := by decide +kernel
theorem zd_Program_addInstruction_1 : decode zb_Program_addInstruction 1 = .ok (.getfield 24, 3) := by decide +kernel
theorem zd_Program_addInstruction_4 : decode zb_Program_addInstruction 4 = .ok (.aload_n 0, 1) := by decide +kernel
theorem zd_Program_addInstruction_5 : decode zb_Program_addInstruction 5 = .ok (.getfield 43, 3) := by decide +kernel
theorem zd_Program_addInstruction_8 : decode zb_Program_addInstruction 8 = .ok (.iload_n 1, 1) := by decide +kernel
theorem zd_Program_addInstruction_9 : decode zb_Program_addInstruction 9 = .ok (.iastore, 1) := by decide +kernel
theorem zd_Program_addInstruction_10 : decode zb_Program_addInstruction 10 = .ok (.aload_n 0, 1) := by decide +kernel
theorem zd_Program_addInstruction_11 : decode zb_Program_addInstruction 11 = .ok (.getfield 27, 3) := by decide +kernel
theorem zd_Program_addInstruction_14 : decode zb_Program_addInstruction 14 = .ok (.aload_n 0, 1) := by decide +kernel
theorem zd_Program_addInstruction_15 : decode zb_Program_addInstruction 15 = .ok (.getfield 43, 3) := by decide +kernel
theorem zd_Program_addInstruction_18 : decode zb_Program_addInstruction 18 = .ok (.iload_n 2, 1) := by decide +kernel
theorem zd_Program_addInstruction_19 : decode zb_Program_addInstruction 19 = .ok (.iastore, 1) := by decide +kernel
theorem zd_Program_addInstruction_20 : decode zb_Program_addInstruction 20 = .ok (.aload_n 0, 1) := by decide +kernel
theorem zd_Program_addInstruction_21 : decode zb_Program_addInstruction 21 = .ok (.getfield 30, 3) := by decide +kernel
theorem zd_Program_addInstruction_24 : decode zb_Program_addInstruction 24 = .ok (.aload_n 0, 1) := by decide +kernel
theorem zd_Program_addInstruction_25 : decode zb_Program_addInstruction 25 = .ok (.getfield 43, 3) := by decide +kernel
theorem zd_Program_addInstruction_28 : decode zb_Program_addInstruction 28 = .ok (.iload_n 3, 1) := by decide +kernel
theorem zd_Program_addInstruction_29 : decode zb_Program_addInstruction 29 = .ok (.iastore, 1) := by decide +kernel
theorem zd_Program_addInstruction_30 : decode zb_Program_addInstruction 30 = .ok (.aload_n 0, 1) := by decide +kernel
theorem zd_Program_addInstruction_31 : decode zb_Program_addInstruction 31 = .ok (.getfield 33, 3) := by decide +kernel
theorem zd_Program_addInstruction_34 : decode zb_Program_addInstruction 34 = .ok (.aload_n 0, 1) := by decide +kernel
theorem zd_Program_addInstruction_35 : decode zb_Program_addInstruction 35 = .ok (.getfield 43, 3) := by decide +kernel
theorem zd_Program_addInstruction_38 : decode zb_Program_addInstruction 38 = .ok (.aload_n 0, 1) := by decide +kernel
theorem zd_Program_addInstruction_39 : decode zb_Program_addInstruction 39 = .ok (.getfield 43, 3) := by decide +kernel
theorem zd_Program_addInstruction_42 : decode zb_Program_addInstruction 42 = .ok (.ifCond .ne 7, 3) := by decide +kernel
theorem zd_Program_addInstruction_45 : decode zb_Program_addInstruction 45 = .ok (.iconst 0, 1) := by decide +kernel
theorem zd_Program_addInstruction_46 : decode zb_Program_addInstruction 46 = .ok (.goto 14, 3) := by decide +kernel
theorem zd_Program_addInstruction_49 : decode zb_Program_addInstruction 49 = .ok (.aload_n 0, 1) := by decide +kernel
theorem zd_Program_addInstruction_50 : decode zb_Program_addInstruction 50 = .ok (.getfield 36, 3) := by decide +kernel
theorem zd_Program_addInstruction_53 : decode zb_Program_addInstruction 53 = .ok (.aload_n 0, 1) := by decide +kernel
theorem zd_Program_addInstruction_54 : decode zb_Program_addInstruction 54 = .ok (.getfield 43, 3) := by decide +kernel
theorem zd_Program_addInstruction_57 : decode zb_Program_addInstruction 57 = .ok (.iconst 1, 1) := by decide +kernel
theorem zd_Program_addInstruction_58 : decode zb_Program_addInstruction 58 = .ok (.isub, 1) := by decide +kernel
theorem zd_Program_addInstruction_59 : decode zb_Program_addInstruction 59 = .ok (.iaload, 1) := by decide +kernel
theorem zd_Program_addInstruction_60 : decode zb_Program_addInstruction 60 = .ok (.iastore, 1) := by decide +kernel
theorem zd_Program_addInstruction_61 : decode zb_Program_addInstruction 61 = .ok (.aload_n 0, 1) := by decide +kernel
theorem zd_Program_addInstruction_62 : decode zb_Program_addInstruction 62 = .ok (.getfield 36, 3) := by decide +kernel
theorem zd_Program_addInstruction_65 : decode zb_Program_addInstruction 65 = .ok (.aload_n 0, 1) := by decide +kernel
theorem zd_Program_addInstruction_66 : decode zb_Program_addInstruction 66 = .ok (.getfield 43, 3) := by decide +kernel
theorem zd_Program_addInstruction_69 : decode zb_Program_addInstruction 69 = .ok (.aload_n 0, 1) := by decide +kernel
theorem zd_Program_addInstruction_70 : decode zb_Program_addInstruction 70 = .ok (.getfield 39, 3) := by decide +kernel
theorem zd_Program_addInstruction_73 : decode zb_Program_addInstruction 73 = .ok (.iastore, 1) := by decide +kernel
theorem zd_Program_addInstruction_74 : decode zb_Program_addInstruction 74 = .ok (.aload_n 0, 1) := by decide +kernel
theorem zd_Program_addInstruction_75 : decode zb_Program_addInstruction 75 = .ok (.dup, 1) := by decide +kernel
theorem zd_Program_addInstruction_76 : decode zb_Program_addInstruction 76 = .ok (.getfield 43, 3) := by decide +kernel
theorem zd_Program_addInstruction_79 : decode zb_Program_addInstruction 79 = .ok (.iconst 1, 1) := by decide +kernel
theorem zd_Program_addInstruction_80 : decode zb_Program_addInstruction 80 = .ok (.iadd, 1) := by decide +kernel
theorem zd_Program_addInstruction_81 : decode zb_Program_addInstruction 81 = .ok (.putfield 43, 3) := by decide +kernel
theorem zd_Program_addInstruction_84 : decode zb_Program_addInstruction 84 = .ok (.aload_n 0, 1) := by decide +kernel
theorem zd_Program_addInstruction_85 : decode zb_Program_addInstruction 85 = .ok (.getfield 43, 3) := by decide +kernel
theorem zd_Program_addInstruction_88 : decode zb_Program_addInstruction 88 = .ok (.iconst 1, 1) := by decide +kernel
theorem zd_Program_addInstruction_89 : decode zb_Program_addInstruction 89 = .ok (.isub, 1) := by decide +kernel
theorem zd_Program_addInstruction_90 : decode zb_Program_addInstruction 90 = .ok (.ireturn, 1) := by decide +kernel
theorem zd_Program_find_0 : decode zb_Program_find 0 = .ok (.iconst 0, 1) := by decide +kernel
theorem zd_Program_find_1 : decode zb_Program_find 1 = .ok (.istore_n 2, 1) := by decide +kernel
theorem zd_Program_find_2 : decode zb_Program_find 2 = .ok (.iload_n 2, 1) := by decide +kernel
theorem zd_Program_find_3 : decode zb_Program_find 3 = .ok (.aload_n 0, 1) := by decide +kernel
theorem zd_Program_find_4 : decode zb_Program_find 4 = .ok (.getfield 43, 3) := by decide +kernel
theorem zd_Program_find_7 : decode zb_Program_find 7 = .ok (.if_icmp .ge 28, 3) := by decide +kernel
theorem zd_Program_find_10 : decode zb_Program_find 10 = .ok (.iload_n 1, 1) := by decide +kernel
theorem zd_Program_find_11 : decode zb_Program_find 11 = .ok (.aload_n 0, 1) := by decide +kernel
theorem zd_Program_find_12 : decode zb_Program_find 12 = .ok (.getfield 24, 3) := by decide +kernel
theorem zd_Program_find_15 : decode zb_Program_find 15 = .ok (.iload_n 2, 1) := by decide +kernel
theorem zd_Program_find_16 : decode zb_Program_find 16 = .ok (.iaload, 1) := by decide +kernel
theorem zd_Program_find_17 : decode zb_Program_find 17 = .ok (.iand, 1) := by decide +kernel
theorem zd_Program_find_18 : decode zb_Program_find 18 = .ok (.aload_n 0, 1) := by decide +kernel
theorem zd_Program_find_19 : decode zb_Program_find 19 = .ok (.getfield 27, 3) := by decide +kernel
theorem zd_Program_find_22 : decode zb_Program_find 22 = .ok (.iload_n 2, 1) := by decide +kernel
theorem zd_Program_find_23 : decode zb_Program_find 23 = .ok (.iaload, 1) := by decide +kernel
theorem zd_Program_find_24 : decode zb_Program_find 24 = .ok (.if_icmp .ne 5, 3) := by decide +kernel
theorem zd_Program_find_27 : decode zb_Program_find 27 = .ok (.iload_n 2, 1) := by decide +kernel
theorem zd_Program_find_28 : decode zb_Program_find 28 = .ok (.ireturn, 1) := by decide +kernel
theorem zd_Program_find_29 : decode zb_Program_find 29 = .ok (.iinc 2 1, 3) := by decide +kernel
theorem zd_Program_find_32 : decode zb_Program_find 32 = .ok (.goto (-30), 3) := by decide +kernel
theorem zd_Program_find_35 : decode zb_Program_find 35 = .ok (.iconst (-1), 1) := by decide +kernel
theorem zd_Program_find_36 : decode zb_Program_find 36 = .ok (.ireturn, 1) := by decide +kernel
theorem zd_Program_is_0 : decode zb_Program_is 0 = .ok (.aload_n 0, 1) := by decide +kernel
theorem zd_Program_is_1 : decode zb_Program_is 1 = .ok (.getfield 30, 3) := by decide +kernel
theorem zd_Program_is_4 : decode zb_Program_is 4 = .ok (.iload_n 1, 1) := by decide +kernel
theorem zd_Program_is_5 : decode zb_Program_is 5 = .ok (.iaload, 1) := by decide +kernel
theorem zd_Program_is_6 : decode zb_Program_is 6 = .ok (.iload_n 2, 1) := by decide +kernel
theorem zd_Program_is_7 : decode zb_Program_is 7 = .ok (.iand, 1) := by decide +kernel
theorem zd_Program_is_8 : decode zb_Program_is 8 = .ok (.ifCond .eq 7, 3) := by decide +kernel
theorem zd_Program_is_11 : decode zb_Program_is 11 = .ok (.iconst 1, 1) := by decide +kernel
theorem zd_Program_is_12 : decode zb_Program_is 12 = .ok (.goto 4, 3) := by decide +kernel
theorem zd_Program_is_15 : decode zb_Program_is 15 = .ok (.iconst 0, 1) := by decide +kernel
theorem zd_Program_is_16 : decode zb_Program_is 16 = .ok (.ireturn, 1) := by decide +kernel
theorem zd_Kept_init_0 : decode zb_Kept_init 0 = .ok (.aload_n 0, 1) := by decide +kernel
theorem zd_Kept_init_1 : decode zb_Kept_init 1 = .ok (.invokespecial 3, 3) := by decide +kernel
theorem zd_Kept_init_4 : decode zb_Kept_init 4 = .ok (.aload_n 0, 1) := by decide +kernel
theorem zd_Kept_init_5 : decode zb_Kept_init 5 = .ok (.bipush 8, 2) := by decide +kernel
theorem zd_Kept_init_7 : decode zb_Kept_init 7 = .ok (.newarray .int, 2) := by decide +kernel
theorem zd_Kept_init_9 : decode zb_Kept_init 9 = .ok (.putfield 9, 3) := by decide +kernel
theorem zd_Kept_init_12 : decode zb_Kept_init 12 = .ok (.aload_n 0, 1) := by decide +kernel
theorem zd_Kept_init_13 : decode zb_Kept_init 13 = .ok (.bipush 8, 2) := by decide +kernel
theorem zd_Kept_init_15 : decode zb_Kept_init 15 = .ok (.newarray .int, 2) := by decide +kernel
theorem zd_Kept_init_17 : decode zb_Kept_init 17 = .ok (.putfield 15, 3) := by decide +kernel
theorem zd_Kept_init_20 : decode zb_Kept_init 20 = .ok (.return_, 1) := by decide +kernel
theorem zd_Kept_isFull_0 : decode zb_Kept_isFull 0 = .ok (.aload_n 0, 1) := by decide +kernel
theorem zd_Kept_isFull_1 : decode zb_Kept_isFull 1 = .ok (.getfield 18, 3) := by decide +kernel
theorem zd_Kept_isFull_4 : decode zb_Kept_isFull 4 = .ok (.bipush 8, 2) := by decide +kernel
theorem zd_Kept_isFull_6 : decode zb_Kept_isFull 6 = .ok (.if_icmp .lt 7, 3) := by decide +kernel
theorem zd_Kept_isFull_9 : decode zb_Kept_isFull 9 = .ok (.iconst 1, 1) := by decide +kernel
theorem zd_Kept_isFull_10 : decode zb_Kept_isFull 10 = .ok (.goto 4, 3) := by decide +kernel
theorem zd_Kept_isFull_13 : decode zb_Kept_isFull 13 = .ok (.iconst 0, 1) := by decide +kernel
theorem zd_Kept_isFull_14 : decode zb_Kept_isFull 14 = .ok (.ireturn, 1) := by decide +kernel
theorem zd_Kept_keep_0 : decode zb_Kept_keep 0 = .ok (.aload_n 0, 1) := by decide +kernel
theorem zd_Kept_keep_1 : decode zb_Kept_keep 1 = .ok (.getfield 9, 3) := by decide +kernel
theorem zd_Kept_keep_4 : decode zb_Kept_keep 4 = .ok (.aload_n 0, 1) := by decide +kernel
theorem zd_Kept_keep_5 : decode zb_Kept_keep 5 = .ok (.getfield 18, 3) := by decide +kernel
theorem zd_Kept_keep_8 : decode zb_Kept_keep 8 = .ok (.iload_n 1, 1) := by decide +kernel
theorem zd_Kept_keep_9 : decode zb_Kept_keep 9 = .ok (.iastore, 1) := by decide +kernel
theorem zd_Kept_keep_10 : decode zb_Kept_keep 10 = .ok (.aload_n 0, 1) := by decide +kernel
theorem zd_Kept_keep_11 : decode zb_Kept_keep 11 = .ok (.getfield 15, 3) := by decide +kernel
theorem zd_Kept_keep_14 : decode zb_Kept_keep 14 = .ok (.aload_n 0, 1) := by decide +kernel
theorem zd_Kept_keep_15 : decode zb_Kept_keep 15 = .ok (.getfield 18, 3) := by decide +kernel
theorem zd_Kept_keep_18 : decode zb_Kept_keep 18 = .ok (.aload_n 0, 1) := by decide +kernel
theorem zd_Kept_keep_19 : decode zb_Kept_keep 19 = .ok (.getfield 22, 3) := by decide +kernel
theorem zd_Kept_keep_22 : decode zb_Kept_keep 22 = .ok (.iastore, 1) := by decide +kernel
theorem zd_Kept_keep_23 : decode zb_Kept_keep 23 = .ok (.aload_n 0, 1) := by decide +kernel
theorem zd_Kept_keep_24 : decode zb_Kept_keep 24 = .ok (.dup, 1) := by decide +kernel
theorem zd_Kept_keep_25 : decode zb_Kept_keep 25 = .ok (.getfield 18, 3) := by decide +kernel
theorem zd_Kept_keep_28 : decode zb_Kept_keep 28 = .ok (.iconst 1, 1) := by decide +kernel
theorem zd_Kept_keep_29 : decode zb_Kept_keep 29 = .ok (.iadd, 1) := by decide +kernel
theorem zd_Kept_keep_30 : decode zb_Kept_keep 30 = .ok (.putfield 18, 3) := by decide +kernel
theorem zd_Kept_keep_33 : decode zb_Kept_keep 33 = .ok (.aload_n 0, 1) := by decide +kernel
theorem zd_Kept_keep_34 : decode zb_Kept_keep 34 = .ok (.iload_n 2, 1) := by decide +kernel
theorem zd_Kept_keep_35 : decode zb_Kept_keep 35 = .ok (.putfield 22, 3) := by decide +kernel
theorem zd_Kept_keep_38 : decode zb_Kept_keep 38 = .ok (.return_, 1) := by decide +kernel
theorem zd_Kept_goBack_0 : decode zb_Kept_goBack 0 = .ok (.aload_n 0, 1) := by decide +kernel
theorem zd_Kept_goBack_1 : decode zb_Kept_goBack 1 = .ok (.getfield 18, 3) := by decide +kernel
theorem zd_Kept_goBack_4 : decode zb_Kept_goBack 4 = .ok (.ifCond .gt 5, 3) := by decide +kernel
theorem zd_Kept_goBack_7 : decode zb_Kept_goBack 7 = .ok (.iconst (-1), 1) := by decide +kernel
theorem zd_Kept_goBack_8 : decode zb_Kept_goBack 8 = .ok (.ireturn, 1) := by decide +kernel
theorem zd_Kept_goBack_9 : decode zb_Kept_goBack 9 = .ok (.aload_n 0, 1) := by decide +kernel
theorem zd_Kept_goBack_10 : decode zb_Kept_goBack 10 = .ok (.dup, 1) := by decide +kernel
theorem zd_Kept_goBack_11 : decode zb_Kept_goBack 11 = .ok (.getfield 18, 3) := by decide +kernel
theorem zd_Kept_goBack_14 : decode zb_Kept_goBack 14 = .ok (.iconst 1, 1) := by decide +kernel
theorem zd_Kept_goBack_15 : decode zb_Kept_goBack 15 = .ok (.isub, 1) := by decide +kernel
theorem zd_Kept_goBack_16 : decode zb_Kept_goBack 16 = .ok (.putfield 18, 3) := by decide +kernel
theorem zd_Kept_goBack_19 : decode zb_Kept_goBack 19 = .ok (.aload_n 0, 1) := by decide +kernel
theorem zd_Kept_goBack_20 : decode zb_Kept_goBack 20 = .ok (.aload_n 0, 1) := by decide +kernel
theorem zd_Kept_goBack_21 : decode zb_Kept_goBack 21 = .ok (.getfield 15, 3) := by decide +kernel
theorem zd_Kept_goBack_24 : decode zb_Kept_goBack 24 = .ok (.aload_n 0, 1) := by decide +kernel
theorem zd_Kept_goBack_25 : decode zb_Kept_goBack 25 = .ok (.getfield 18, 3) := by decide +kernel
theorem zd_Kept_goBack_28 : decode zb_Kept_goBack 28 = .ok (.iaload, 1) := by decide +kernel
theorem zd_Kept_goBack_29 : decode zb_Kept_goBack 29 = .ok (.putfield 22, 3) := by decide +kernel
theorem zd_Kept_goBack_32 : decode zb_Kept_goBack 32 = .ok (.aload_n 0, 1) := by decide +kernel
theorem zd_Kept_goBack_33 : decode zb_Kept_goBack 33 = .ok (.getfield 9, 3) := by decide +kernel
theorem zd_Kept_goBack_36 : decode zb_Kept_goBack 36 = .ok (.aload_n 0, 1) := by decide +kernel
theorem zd_Kept_goBack_37 : decode zb_Kept_goBack 37 = .ok (.getfield 18, 3) := by decide +kernel
theorem zd_Kept_goBack_40 : decode zb_Kept_goBack 40 = .ok (.iaload, 1) := by decide +kernel
theorem zd_Kept_goBack_41 : decode zb_Kept_goBack 41 = .ok (.ireturn, 1) := by decide +kernel
theorem zd_Kept_restore_0 : decode zb_Kept_restore 0 = .ok (.aload_n 0, 1) := by decide +kernel
theorem zd_Kept_restore_1 : decode zb_Kept_restore 1 = .ok (.iload_n 1, 1) := by decide +kernel
theorem zd_Kept_restore_2 : decode zb_Kept_restore 2 = .ok (.putfield 18, 3) := by decide +kernel
theorem zd_Kept_restore_5 : decode zb_Kept_restore 5 = .ok (.aload_n 0, 1) := by decide +kernel
theorem zd_Kept_restore_6 : decode zb_Kept_restore 6 = .ok (.iload_n 2, 1) := by decide +kernel
theorem zd_Kept_restore_7 : decode zb_Kept_restore 7 = .ok (.putfield 22, 3) := by decide +kernel
theorem zd_Kept_restore_10 : decode zb_Kept_restore 10 = .ok (.return_, 1) := by decide +kernel
theorem zd_Lines_init_0 : decode zb_Lines_init 0 = .ok (.aload_n 0, 1) := by decide +kernel
theorem zd_Lines_init_1 : decode zb_Lines_init 1 = .ok (.invokespecial 3, 3) := by decide +kernel
theorem zd_Lines_init_4 : decode zb_Lines_init 4 = .ok (.aload_n 0, 1) := by decide +kernel
theorem zd_Lines_init_5 : decode zb_Lines_init 5 = .ok (.bipush 8, 2) := by decide +kernel
theorem zd_Lines_init_7 : decode zb_Lines_init 7 = .ok (.newarray .boolean, 2) := by decide +kernel
theorem zd_Lines_init_9 : decode zb_Lines_init 9 = .ok (.putfield 9, 3) := by decide +kernel
theorem zd_Lines_init_12 : decode zb_Lines_init 12 = .ok (.aload_n 0, 1) := by decide +kernel
theorem zd_Lines_init_13 : decode zb_Lines_init 13 = .ok (.bipush 8, 2) := by decide +kernel
theorem zd_Lines_init_15 : decode zb_Lines_init 15 = .ok (.newarray .int, 2) := by decide +kernel
theorem zd_Lines_init_17 : decode zb_Lines_init 17 = .ok (.putfield 15, 3) := by decide +kernel
theorem zd_Lines_init_20 : decode zb_Lines_init 20 = .ok (.iconst 0, 1) := by decide +kernel
theorem zd_Lines_init_21 : decode zb_Lines_init 21 = .ok (.istore_n 1, 1) := by decide +kernel
theorem zd_Lines_init_22 : decode zb_Lines_init 22 = .ok (.iload_n 1, 1) := by decide +kernel
theorem zd_Lines_init_23 : decode zb_Lines_init 23 = .ok (.bipush 8, 2) := by decide +kernel
theorem zd_Lines_init_25 : decode zb_Lines_init 25 = .ok (.if_icmp .ge 16, 3) := by decide +kernel
theorem zd_Lines_init_28 : decode zb_Lines_init 28 = .ok (.aload_n 0, 1) := by decide +kernel
theorem zd_Lines_init_29 : decode zb_Lines_init 29 = .ok (.getfield 15, 3) := by decide +kernel
theorem zd_Lines_init_32 : decode zb_Lines_init 32 = .ok (.iload_n 1, 1) := by decide +kernel
theorem zd_Lines_init_33 : decode zb_Lines_init 33 = .ok (.iconst 1, 1) := by decide +kernel
theorem zd_Lines_init_34 : decode zb_Lines_init 34 = .ok (.iastore, 1) := by decide +kernel
theorem zd_Lines_init_35 : decode zb_Lines_init 35 = .ok (.iinc 1 1, 3) := by decide +kernel
theorem zd_Lines_init_38 : decode zb_Lines_init 38 = .ok (.goto (-16), 3) := by decide +kernel
theorem zd_Lines_init_41 : decode zb_Lines_init 41 = .ok (.return_, 1) := by decide +kernel
theorem zd_Lines_has_0 : decode zb_Lines_has 0 = .ok (.iload_n 1, 1) := by decide +kernel
theorem zd_Lines_has_1 : decode zb_Lines_has 1 = .ok (.ifCond .lt 13, 3) := by decide +kernel
theorem zd_Lines_has_4 : decode zb_Lines_has 4 = .ok (.iload_n 1, 1) := by decide +kernel
theorem zd_Lines_has_5 : decode zb_Lines_has 5 = .ok (.bipush 8, 2) := by decide +kernel
theorem zd_Lines_has_7 : decode zb_Lines_has 7 = .ok (.if_icmp .ge 7, 3) := by decide +kernel
theorem zd_Lines_has_10 : decode zb_Lines_has 10 = .ok (.iconst 1, 1) := by decide +kernel
theorem zd_Lines_has_11 : decode zb_Lines_has 11 = .ok (.goto 4, 3) := by decide +kernel
theorem zd_Lines_has_14 : decode zb_Lines_has 14 = .ok (.iconst 0, 1) := by decide +kernel
theorem zd_Lines_has_15 : decode zb_Lines_has 15 = .ok (.ireturn, 1) := by decide +kernel
theorem zd_Lines_turn_0 : decode zb_Lines_turn 0 = .ok (.aload_n 0, 1) := by decide +kernel
theorem zd_Lines_turn_1 : decode zb_Lines_turn 1 = .ok (.getfield 9, 3) := by decide +kernel
theorem zd_Lines_turn_4 : decode zb_Lines_turn 4 = .ok (.iload_n 1, 1) := by decide +kernel
theorem zd_Lines_turn_5 : decode zb_Lines_turn 5 = .ok (.baload, 1) := by decide +kernel
theorem zd_Lines_turn_6 : decode zb_Lines_turn 6 = .ok (.istore_n 3, 1) := by decide +kernel
theorem zd_Lines_turn_7 : decode zb_Lines_turn 7 = .ok (.aload_n 0, 1) := by decide +kernel
theorem zd_Lines_turn_8 : decode zb_Lines_turn 8 = .ok (.getfield 9, 3) := by decide +kernel
theorem zd_Lines_turn_11 : decode zb_Lines_turn 11 = .ok (.iload_n 1, 1) := by decide +kernel
theorem zd_Lines_turn_12 : decode zb_Lines_turn 12 = .ok (.iload_n 2, 1) := by decide +kernel
theorem zd_Lines_turn_13 : decode zb_Lines_turn 13 = .ok (.bastore, 1) := by decide +kernel
theorem zd_Lines_turn_14 : decode zb_Lines_turn 14 = .ok (.iload_n 3, 1) := by decide +kernel
theorem zd_Lines_turn_15 : decode zb_Lines_turn 15 = .ok (.ireturn, 1) := by decide +kernel
theorem zd_Lines_giveRank_0 : decode zb_Lines_giveRank 0 = .ok (.aload_n 0, 1) := by decide +kernel
theorem zd_Lines_giveRank_1 : decode zb_Lines_giveRank 1 = .ok (.getfield 15, 3) := by decide +kernel
theorem zd_Lines_giveRank_4 : decode zb_Lines_giveRank 4 = .ok (.iload_n 1, 1) := by decide +kernel
theorem zd_Lines_giveRank_5 : decode zb_Lines_giveRank 5 = .ok (.iaload, 1) := by decide +kernel
theorem zd_Lines_giveRank_6 : decode zb_Lines_giveRank 6 = .ok (.istore_n 3, 1) := by decide +kernel
theorem zd_Lines_giveRank_7 : decode zb_Lines_giveRank 7 = .ok (.aload_n 0, 1) := by decide +kernel
theorem zd_Lines_giveRank_8 : decode zb_Lines_giveRank 8 = .ok (.getfield 15, 3) := by decide +kernel
theorem zd_Lines_giveRank_11 : decode zb_Lines_giveRank 11 = .ok (.iload_n 1, 1) := by decide +kernel
theorem zd_Lines_giveRank_12 : decode zb_Lines_giveRank 12 = .ok (.iload_n 2, 1) := by decide +kernel
theorem zd_Lines_giveRank_13 : decode zb_Lines_giveRank 13 = .ok (.iastore, 1) := by decide +kernel
theorem zd_Lines_giveRank_14 : decode zb_Lines_giveRank 14 = .ok (.iload_n 3, 1) := by decide +kernel
theorem zd_Lines_giveRank_15 : decode zb_Lines_giveRank 15 = .ok (.ireturn, 1) := by decide +kernel
theorem zd_Lines_rankOf_0 : decode zb_Lines_rankOf 0 = .ok (.aload_n 0, 1) := by decide +kernel
theorem zd_Lines_rankOf_1 : decode zb_Lines_rankOf 1 = .ok (.getfield 15, 3) := by decide +kernel
theorem zd_Lines_rankOf_4 : decode zb_Lines_rankOf 4 = .ok (.iload_n 1, 1) := by decide +kernel
theorem zd_Lines_rankOf_5 : decode zb_Lines_rankOf 5 = .ok (.iaload, 1) := by decide +kernel
theorem zd_Lines_rankOf_6 : decode zb_Lines_rankOf 6 = .ok (.ireturn, 1) := by decide +kernel
theorem zd_Lines_mostUrgent_0 : decode zb_Lines_mostUrgent 0 = .ok (.iconst (-1), 1) := by decide +kernel
theorem zd_Lines_mostUrgent_1 : decode zb_Lines_mostUrgent 1 = .ok (.istore_n 2, 1) := by decide +kernel
theorem zd_Lines_mostUrgent_2 : decode zb_Lines_mostUrgent 2 = .ok (.iload_n 1, 1) := by decide +kernel
theorem zd_Lines_mostUrgent_3 : decode zb_Lines_mostUrgent 3 = .ok (.istore_n 3, 1) := by decide +kernel
theorem zd_Lines_mostUrgent_4 : decode zb_Lines_mostUrgent 4 = .ok (.iconst 0, 1) := by decide +kernel
theorem zd_Lines_mostUrgent_5 : decode zb_Lines_mostUrgent 5 = .ok (.istore 4, 2) := by decide +kernel
theorem zd_Lines_mostUrgent_7 : decode zb_Lines_mostUrgent 7 = .ok (.iload 4, 2) := by decide +kernel
theorem zd_Lines_mostUrgent_9 : decode zb_Lines_mostUrgent 9 = .ok (.bipush 8, 2) := by decide +kernel
theorem zd_Lines_mostUrgent_11 : decode zb_Lines_mostUrgent 11 = .ok (.if_icmp .ge 41, 3) := by decide +kernel
theorem zd_Lines_mostUrgent_14 : decode zb_Lines_mostUrgent 14 = .ok (.aload_n 0, 1) := by decide +kernel
theorem zd_Lines_mostUrgent_15 : decode zb_Lines_mostUrgent 15 = .ok (.getfield 9, 3) := by decide +kernel
theorem zd_Lines_mostUrgent_18 : decode zb_Lines_mostUrgent 18 = .ok (.iload 4, 2) := by decide +kernel
theorem zd_Lines_mostUrgent_20 : decode zb_Lines_mostUrgent 20 = .ok (.baload, 1) := by decide +kernel
theorem zd_Lines_mostUrgent_21 : decode zb_Lines_mostUrgent 21 = .ok (.ifCond .eq 25, 3) := by decide +kernel
theorem zd_Lines_mostUrgent_24 : decode zb_Lines_mostUrgent 24 = .ok (.aload_n 0, 1) := by decide +kernel
theorem zd_Lines_mostUrgent_25 : decode zb_Lines_mostUrgent 25 = .ok (.getfield 15, 3) := by decide +kernel
theorem zd_Lines_mostUrgent_28 : decode zb_Lines_mostUrgent 28 = .ok (.iload 4, 2) := by decide +kernel
theorem zd_Lines_mostUrgent_30 : decode zb_Lines_mostUrgent 30 = .ok (.iaload, 1) := by decide +kernel
theorem zd_Lines_mostUrgent_31 : decode zb_Lines_mostUrgent 31 = .ok (.iload_n 3, 1) := by decide +kernel
theorem zd_Lines_mostUrgent_32 : decode zb_Lines_mostUrgent 32 = .ok (.if_icmp .le 14, 3) := by decide +kernel
theorem zd_Lines_mostUrgent_35 : decode zb_Lines_mostUrgent 35 = .ok (.iload 4, 2) := by decide +kernel
theorem zd_Lines_mostUrgent_37 : decode zb_Lines_mostUrgent 37 = .ok (.istore_n 2, 1) := by decide +kernel
theorem zd_Lines_mostUrgent_38 : decode zb_Lines_mostUrgent 38 = .ok (.aload_n 0, 1) := by decide +kernel
theorem zd_Lines_mostUrgent_39 : decode zb_Lines_mostUrgent 39 = .ok (.getfield 15, 3) := by decide +kernel
theorem zd_Lines_mostUrgent_42 : decode zb_Lines_mostUrgent 42 = .ok (.iload 4, 2) := by decide +kernel
theorem zd_Lines_mostUrgent_44 : decode zb_Lines_mostUrgent 44 = .ok (.iaload, 1) := by decide +kernel
theorem zd_Lines_mostUrgent_45 : decode zb_Lines_mostUrgent 45 = .ok (.istore_n 3, 1) := by decide +kernel
theorem zd_Lines_mostUrgent_46 : decode zb_Lines_mostUrgent 46 = .ok (.iinc 4 1, 3) := by decide +kernel
theorem zd_Lines_mostUrgent_49 : decode zb_Lines_mostUrgent 49 = .ok (.goto (-42), 3) := by decide +kernel
theorem zd_Lines_mostUrgent_52 : decode zb_Lines_mostUrgent 52 = .ok (.iload_n 2, 1) := by decide +kernel
theorem zd_Lines_mostUrgent_53 : decode zb_Lines_mostUrgent 53 = .ok (.ireturn, 1) := by decide +kernel
theorem zd_Writes_init_0 : decode zb_Writes_init 0 = .ok (.aload_n 0, 1) := by decide +kernel
theorem zd_Writes_init_1 : decode zb_Writes_init 1 = .ok (.invokespecial 3, 3) := by decide +kernel
theorem zd_Writes_init_4 : decode zb_Writes_init 4 = .ok (.aload_n 0, 1) := by decide +kernel
theorem zd_Writes_init_5 : decode zb_Writes_init 5 = .ok (.sipush 200, 3) := by decide +kernel
theorem zd_Writes_init_8 : decode zb_Writes_init 8 = .ok (.newarray .int, 2) := by decide +kernel
theorem zd_Writes_init_10 : decode zb_Writes_init 10 = .ok (.putfield 9, 3) := by decide +kernel
theorem zd_Writes_init_13 : decode zb_Writes_init 13 = .ok (.aload_n 0, 1) := by decide +kernel
theorem zd_Writes_init_14 : decode zb_Writes_init 14 = .ok (.sipush 200, 3) := by decide +kernel
theorem zd_Writes_init_17 : decode zb_Writes_init 17 = .ok (.newarray .int, 2) := by decide +kernel
theorem zd_Writes_init_19 : decode zb_Writes_init 19 = .ok (.putfield 15, 3) := by decide +kernel
theorem zd_Writes_init_22 : decode zb_Writes_init 22 = .ok (.aload_n 0, 1) := by decide +kernel
theorem zd_Writes_init_23 : decode zb_Writes_init 23 = .ok (.sipush 200, 3) := by decide +kernel
theorem zd_Writes_init_26 : decode zb_Writes_init 26 = .ok (.newarray .long, 2) := by decide +kernel
theorem zd_Writes_init_28 : decode zb_Writes_init 28 = .ok (.putfield 18, 3) := by decide +kernel
theorem zd_Writes_init_31 : decode zb_Writes_init 31 = .ok (.aload_n 0, 1) := by decide +kernel
theorem zd_Writes_init_32 : decode zb_Writes_init 32 = .ok (.aload_n 1, 1) := by decide +kernel
theorem zd_Writes_init_33 : decode zb_Writes_init 33 = .ok (.putfield 22, 3) := by decide +kernel
theorem zd_Writes_init_36 : decode zb_Writes_init 36 = .ok (.aload_n 0, 1) := by decide +kernel
theorem zd_Writes_init_37 : decode zb_Writes_init 37 = .ok (.aload_n 2, 1) := by decide +kernel
theorem zd_Writes_init_38 : decode zb_Writes_init 38 = .ok (.putfield 26, 3) := by decide +kernel
theorem zd_Writes_init_41 : decode zb_Writes_init 41 = .ok (.return_, 1) := by decide +kernel
theorem zd_Writes_clear_0 : decode zb_Writes_clear 0 = .ok (.aload_n 0, 1) := by decide +kernel
theorem zd_Writes_clear_1 : decode zb_Writes_clear 1 = .ok (.iconst 0, 1) := by decide +kernel
theorem zd_Writes_clear_2 : decode zb_Writes_clear 2 = .ok (.putfield 30, 3) := by decide +kernel
theorem zd_Writes_clear_5 : decode zb_Writes_clear 5 = .ok (.return_, 1) := by decide +kernel
theorem zd_Writes_note_0 : decode zb_Writes_note 0 = .ok (.aload_n 0, 1) := by decide +kernel
theorem zd_Writes_note_1 : decode zb_Writes_note 1 = .ok (.getfield 30, 3) := by decide +kernel
theorem zd_Writes_note_4 : decode zb_Writes_note 4 = .ok (.sipush 200, 3) := by decide +kernel
theorem zd_Writes_note_7 : decode zb_Writes_note 7 = .ok (.if_icmp .lt 4, 3) := by decide +kernel
theorem zd_Writes_note_10 : decode zb_Writes_note 10 = .ok (.return_, 1) := by decide +kernel
theorem zd_Writes_note_11 : decode zb_Writes_note 11 = .ok (.aload_n 0, 1) := by decide +kernel
theorem zd_Writes_note_12 : decode zb_Writes_note 12 = .ok (.getfield 9, 3) := by decide +kernel
theorem zd_Writes_note_15 : decode zb_Writes_note 15 = .ok (.aload_n 0, 1) := by decide +kernel
theorem zd_Writes_note_16 : decode zb_Writes_note 16 = .ok (.getfield 30, 3) := by decide +kernel
theorem zd_Writes_note_19 : decode zb_Writes_note 19 = .ok (.iload_n 1, 1) := by decide +kernel
theorem zd_Writes_note_20 : decode zb_Writes_note 20 = .ok (.iastore, 1) := by decide +kernel
theorem zd_Writes_note_21 : decode zb_Writes_note 21 = .ok (.aload_n 0, 1) := by decide +kernel
theorem zd_Writes_note_22 : decode zb_Writes_note 22 = .ok (.getfield 15, 3) := by decide +kernel
theorem zd_Writes_note_25 : decode zb_Writes_note 25 = .ok (.aload_n 0, 1) := by decide +kernel
theorem zd_Writes_note_26 : decode zb_Writes_note 26 = .ok (.getfield 30, 3) := by decide +kernel
theorem zd_Writes_note_29 : decode zb_Writes_note 29 = .ok (.iload_n 2, 1) := by decide +kernel
theorem zd_Writes_note_30 : decode zb_Writes_note 30 = .ok (.iastore, 1) := by decide +kernel
theorem zd_Writes_note_31 : decode zb_Writes_note 31 = .ok (.aload_n 0, 1) := by decide +kernel
theorem zd_Writes_note_32 : decode zb_Writes_note 32 = .ok (.getfield 18, 3) := by decide +kernel
theorem zd_Writes_note_35 : decode zb_Writes_note 35 = .ok (.aload_n 0, 1) := by decide +kernel
theorem zd_Writes_note_36 : decode zb_Writes_note 36 = .ok (.getfield 30, 3) := by decide +kernel
theorem zd_Writes_note_39 : decode zb_Writes_note 39 = .ok (.lload_n 3, 1) := by decide +kernel
theorem zd_Writes_note_40 : decode zb_Writes_note 40 = .ok (.lastore, 1) := by decide +kernel
theorem zd_Writes_note_41 : decode zb_Writes_note 41 = .ok (.aload_n 0, 1) := by decide +kernel
theorem zd_Writes_note_42 : decode zb_Writes_note 42 = .ok (.dup, 1) := by decide +kernel
theorem zd_Writes_note_43 : decode zb_Writes_note 43 = .ok (.getfield 30, 3) := by decide +kernel
theorem zd_Writes_note_46 : decode zb_Writes_note 46 = .ok (.iconst 1, 1) := by decide +kernel
theorem zd_Writes_note_47 : decode zb_Writes_note 47 = .ok (.iadd, 1) := by decide +kernel
theorem zd_Writes_note_48 : decode zb_Writes_note 48 = .ok (.putfield 30, 3) := by decide +kernel
theorem zd_Writes_note_51 : decode zb_Writes_note 51 = .ok (.return_, 1) := by decide +kernel
theorem zd_Writes_noteReverse_0 : decode zb_Writes_noteReverse 0 = .ok (.iload_n 1, 1) := by decide +kernel
theorem zd_Writes_noteReverse_1 : decode zb_Writes_noteReverse 1 = .ok (.iconst 3, 1) := by decide +kernel
theorem zd_Writes_noteReverse_2 : decode zb_Writes_noteReverse 2 = .ok (.if_icmp .ne 21, 3) := by decide +kernel
theorem zd_Writes_noteReverse_5 : decode zb_Writes_noteReverse 5 = .ok (.aload_n 0, 1) := by decide +kernel
theorem zd_Writes_noteReverse_6 : decode zb_Writes_noteReverse 6 = .ok (.iconst 3, 1) := by decide +kernel
theorem zd_Writes_noteReverse_7 : decode zb_Writes_noteReverse 7 = .ok (.iload_n 2, 1) := by decide +kernel
theorem zd_Writes_noteReverse_8 : decode zb_Writes_noteReverse 8 = .ok (.aload_n 0, 1) := by decide +kernel
theorem zd_Writes_noteReverse_9 : decode zb_Writes_noteReverse 9 = .ok (.getfield 26, 3) := by decide +kernel
theorem zd_Writes_noteReverse_12 : decode zb_Writes_noteReverse 12 = .ok (.iload_n 2, 1) := by decide +kernel
theorem zd_Writes_noteReverse_13 : decode zb_Writes_noteReverse 13 = .ok (.invokevirtual 34, 3) := by decide +kernel
theorem zd_Writes_noteReverse_16 : decode zb_Writes_noteReverse 16 = .ok (.i2l, 1) := by decide +kernel
theorem zd_Writes_noteReverse_17 : decode zb_Writes_noteReverse 17 = .ok (.invokevirtual 40, 3) := by decide +kernel
theorem zd_Writes_noteReverse_20 : decode zb_Writes_noteReverse 20 = .ok (.goto 55, 3) := by decide +kernel
theorem zd_Writes_noteReverse_23 : decode zb_Writes_noteReverse 23 = .ok (.iload_n 1, 1) := by decide +kernel
theorem zd_Writes_noteReverse_24 : decode zb_Writes_noteReverse 24 = .ok (.iconst 4, 1) := by decide +kernel
theorem zd_Writes_noteReverse_25 : decode zb_Writes_noteReverse 25 = .ok (.if_icmp .ne 21, 3) := by decide +kernel
theorem zd_Writes_noteReverse_28 : decode zb_Writes_noteReverse 28 = .ok (.aload_n 0, 1) := by decide +kernel
theorem zd_Writes_noteReverse_29 : decode zb_Writes_noteReverse 29 = .ok (.iconst 4, 1) := by decide +kernel
theorem zd_Writes_noteReverse_30 : decode zb_Writes_noteReverse 30 = .ok (.iload_n 2, 1) := by decide +kernel
theorem zd_Writes_noteReverse_31 : decode zb_Writes_noteReverse 31 = .ok (.aload_n 0, 1) := by decide +kernel
theorem zd_Writes_noteReverse_32 : decode zb_Writes_noteReverse 32 = .ok (.getfield 26, 3) := by decide +kernel
theorem zd_Writes_noteReverse_35 : decode zb_Writes_noteReverse 35 = .ok (.iload_n 2, 1) := by decide +kernel
theorem zd_Writes_noteReverse_36 : decode zb_Writes_noteReverse 36 = .ok (.invokevirtual 44, 3) := by decide +kernel
theorem zd_Writes_noteReverse_39 : decode zb_Writes_noteReverse 39 = .ok (.i2l, 1) := by decide +kernel
theorem zd_Writes_noteReverse_40 : decode zb_Writes_noteReverse 40 = .ok (.invokevirtual 40, 3) := by decide +kernel
theorem zd_Writes_noteReverse_43 : decode zb_Writes_noteReverse 43 = .ok (.goto 32, 3) := by decide +kernel
theorem zd_Writes_noteReverse_46 : decode zb_Writes_noteReverse 46 = .ok (.aload_n 0, 1) := by decide +kernel
theorem zd_Writes_noteReverse_47 : decode zb_Writes_noteReverse 47 = .ok (.aload_n 0, 1) := by decide +kernel
theorem zd_Writes_noteReverse_48 : decode zb_Writes_noteReverse 48 = .ok (.getfield 22, 3) := by decide +kernel
theorem zd_Writes_noteReverse_51 : decode zb_Writes_noteReverse 51 = .ok (.iload_n 2, 1) := by decide +kernel
theorem zd_Writes_noteReverse_52 : decode zb_Writes_noteReverse 52 = .ok (.invokevirtual 47, 3) := by decide +kernel
theorem zd_Writes_noteReverse_55 : decode zb_Writes_noteReverse 55 = .ok (.ifCond .eq 7, 3) := by decide +kernel
theorem zd_Writes_noteReverse_58 : decode zb_Writes_noteReverse 58 = .ok (.iconst 1, 1) := by decide +kernel
theorem zd_Writes_noteReverse_59 : decode zb_Writes_noteReverse 59 = .ok (.goto 4, 3) := by decide +kernel
theorem zd_Writes_noteReverse_62 : decode zb_Writes_noteReverse 62 = .ok (.iconst 0, 1) := by decide +kernel
theorem zd_Writes_noteReverse_63 : decode zb_Writes_noteReverse 63 = .ok (.iload_n 2, 1) := by decide +kernel
theorem zd_Writes_noteReverse_64 : decode zb_Writes_noteReverse 64 = .ok (.aload_n 0, 1) := by decide +kernel
theorem zd_Writes_noteReverse_65 : decode zb_Writes_noteReverse 65 = .ok (.getfield 22, 3) := by decide +kernel
theorem zd_Writes_noteReverse_68 : decode zb_Writes_noteReverse 68 = .ok (.iload_n 2, 1) := by decide +kernel
theorem zd_Writes_noteReverse_69 : decode zb_Writes_noteReverse 69 = .ok (.invokevirtual 53, 3) := by decide +kernel
theorem zd_Writes_noteReverse_72 : decode zb_Writes_noteReverse 72 = .ok (.invokevirtual 40, 3) := by decide +kernel
theorem zd_Writes_noteReverse_75 : decode zb_Writes_noteReverse 75 = .ok (.return_, 1) := by decide +kernel
theorem zd_Writes_perform_0 : decode zb_Writes_perform 0 = .ok (.iload_n 1, 1) := by decide +kernel
theorem zd_Writes_perform_1 : decode zb_Writes_perform 1 = .ok (.tableswitch 71 2 4 #[51, 27, 39], 27) := by decide +kernel
theorem zd_Writes_perform_28 : decode zb_Writes_perform 28 = .ok (.aload_n 0, 1) := by decide +kernel
theorem zd_Writes_perform_29 : decode zb_Writes_perform 29 = .ok (.getfield 26, 3) := by decide +kernel
theorem zd_Writes_perform_32 : decode zb_Writes_perform 32 = .ok (.iload_n 2, 1) := by decide +kernel
theorem zd_Writes_perform_33 : decode zb_Writes_perform 33 = .ok (.lload_n 3, 1) := by decide +kernel
theorem zd_Writes_perform_34 : decode zb_Writes_perform 34 = .ok (.invokevirtual 57, 3) := by decide +kernel
theorem zd_Writes_perform_37 : decode zb_Writes_perform 37 = .ok (.goto 54, 3) := by decide +kernel
theorem zd_Writes_perform_40 : decode zb_Writes_perform 40 = .ok (.aload_n 0, 1) := by decide +kernel
theorem zd_Writes_perform_41 : decode zb_Writes_perform 41 = .ok (.getfield 26, 3) := by decide +kernel
theorem zd_Writes_perform_44 : decode zb_Writes_perform 44 = .ok (.iload_n 2, 1) := by decide +kernel
theorem zd_Writes_perform_45 : decode zb_Writes_perform 45 = .ok (.lload_n 3, 1) := by decide +kernel
theorem zd_Writes_perform_46 : decode zb_Writes_perform 46 = .ok (.invokevirtual 61, 3) := by decide +kernel
theorem zd_Writes_perform_49 : decode zb_Writes_perform 49 = .ok (.goto 42, 3) := by decide +kernel
theorem zd_Writes_perform_52 : decode zb_Writes_perform 52 = .ok (.aload_n 0, 1) := by decide +kernel
theorem zd_Writes_perform_53 : decode zb_Writes_perform 53 = .ok (.getfield 22, 3) := by decide +kernel
theorem zd_Writes_perform_56 : decode zb_Writes_perform 56 = .ok (.iload_n 2, 1) := by decide +kernel
theorem zd_Writes_perform_57 : decode zb_Writes_perform 57 = .ok (.aload_n 0, 1) := by decide +kernel
theorem zd_Writes_perform_58 : decode zb_Writes_perform 58 = .ok (.getfield 22, 3) := by decide +kernel
theorem zd_Writes_perform_61 : decode zb_Writes_perform 61 = .ok (.iload_n 2, 1) := by decide +kernel
theorem zd_Writes_perform_62 : decode zb_Writes_perform 62 = .ok (.invokevirtual 53, 3) := by decide +kernel
theorem zd_Writes_perform_65 : decode zb_Writes_perform 65 = .ok (.iconst 1, 1) := by decide +kernel
theorem zd_Writes_perform_66 : decode zb_Writes_perform 66 = .ok (.invokevirtual 64, 3) := by decide +kernel
theorem zd_Writes_perform_69 : decode zb_Writes_perform 69 = .ok (.goto 22, 3) := by decide +kernel
theorem zd_Writes_perform_72 : decode zb_Writes_perform 72 = .ok (.aload_n 0, 1) := by decide +kernel
theorem zd_Writes_perform_73 : decode zb_Writes_perform 73 = .ok (.getfield 22, 3) := by decide +kernel
theorem zd_Writes_perform_76 : decode zb_Writes_perform 76 = .ok (.iload_n 2, 1) := by decide +kernel
theorem zd_Writes_perform_77 : decode zb_Writes_perform 77 = .ok (.lload_n 3, 1) := by decide +kernel
theorem zd_Writes_perform_78 : decode zb_Writes_perform 78 = .ok (.iload_n 1, 1) := by decide +kernel
theorem zd_Writes_perform_79 : decode zb_Writes_perform 79 = .ok (.iconst 1, 1) := by decide +kernel
theorem zd_Writes_perform_80 : decode zb_Writes_perform 80 = .ok (.if_icmp .ne 7, 3) := by decide +kernel
theorem zd_Writes_perform_83 : decode zb_Writes_perform 83 = .ok (.iconst 1, 1) := by decide +kernel
theorem zd_Writes_perform_84 : decode zb_Writes_perform 84 = .ok (.goto 4, 3) := by decide +kernel
theorem zd_Writes_perform_87 : decode zb_Writes_perform 87 = .ok (.iconst 0, 1) := by decide +kernel
theorem zd_Writes_perform_88 : decode zb_Writes_perform 88 = .ok (.invokevirtual 64, 3) := by decide +kernel
theorem zd_Writes_perform_91 : decode zb_Writes_perform 91 = .ok (.return_, 1) := by decide +kernel
theorem zd_Writes_performInOrder_0 : decode zb_Writes_performInOrder 0 = .ok (.iconst 0, 1) := by decide +kernel
theorem zd_Writes_performInOrder_1 : decode zb_Writes_performInOrder 1 = .ok (.istore_n 1, 1) := by decide +kernel
theorem zd_Writes_performInOrder_2 : decode zb_Writes_performInOrder 2 = .ok (.iload_n 1, 1) := by decide +kernel
theorem zd_Writes_performInOrder_3 : decode zb_Writes_performInOrder 3 = .ok (.aload_n 0, 1) := by decide +kernel
theorem zd_Writes_performInOrder_4 : decode zb_Writes_performInOrder 4 = .ok (.getfield 30, 3) := by decide +kernel
theorem zd_Writes_performInOrder_7 : decode zb_Writes_performInOrder 7 = .ok (.if_icmp .ge 31, 3) := by decide +kernel
theorem zd_Writes_performInOrder_10 : decode zb_Writes_performInOrder 10 = .ok (.aload_n 0, 1) := by decide +kernel
theorem zd_Writes_performInOrder_11 : decode zb_Writes_performInOrder 11 = .ok (.aload_n 0, 1) := by decide +kernel
theorem zd_Writes_performInOrder_12 : decode zb_Writes_performInOrder 12 = .ok (.getfield 9, 3) := by decide +kernel
theorem zd_Writes_performInOrder_15 : decode zb_Writes_performInOrder 15 = .ok (.iload_n 1, 1) := by decide +kernel
theorem zd_Writes_performInOrder_16 : decode zb_Writes_performInOrder 16 = .ok (.iaload, 1) := by decide +kernel
theorem zd_Writes_performInOrder_17 : decode zb_Writes_performInOrder 17 = .ok (.aload_n 0, 1) := by decide +kernel
theorem zd_Writes_performInOrder_18 : decode zb_Writes_performInOrder 18 = .ok (.getfield 15, 3) := by decide +kernel
theorem zd_Writes_performInOrder_21 : decode zb_Writes_performInOrder 21 = .ok (.iload_n 1, 1) := by decide +kernel
theorem zd_Writes_performInOrder_22 : decode zb_Writes_performInOrder 22 = .ok (.iaload, 1) := by decide +kernel
theorem zd_Writes_performInOrder_23 : decode zb_Writes_performInOrder 23 = .ok (.aload_n 0, 1) := by decide +kernel
theorem zd_Writes_performInOrder_24 : decode zb_Writes_performInOrder 24 = .ok (.getfield 18, 3) := by decide +kernel
theorem zd_Writes_performInOrder_27 : decode zb_Writes_performInOrder 27 = .ok (.iload_n 1, 1) := by decide +kernel
theorem zd_Writes_performInOrder_28 : decode zb_Writes_performInOrder 28 = .ok (.laload, 1) := by decide +kernel
theorem zd_Writes_performInOrder_29 : decode zb_Writes_performInOrder 29 = .ok (.invokevirtual 68, 3) := by decide +kernel
theorem zd_Writes_performInOrder_32 : decode zb_Writes_performInOrder 32 = .ok (.iinc 1 1, 3) := by decide +kernel
theorem zd_Writes_performInOrder_35 : decode zb_Writes_performInOrder 35 = .ok (.goto (-33), 3) := by decide +kernel
theorem zd_Writes_performInOrder_38 : decode zb_Writes_performInOrder 38 = .ok (.return_, 1) := by decide +kernel
theorem zd_Writes_performBackwards_0 : decode zb_Writes_performBackwards 0 = .ok (.aload_n 0, 1) := by decide +kernel
theorem zd_Writes_performBackwards_1 : decode zb_Writes_performBackwards 1 = .ok (.getfield 30, 3) := by decide +kernel
theorem zd_Writes_performBackwards_4 : decode zb_Writes_performBackwards 4 = .ok (.iconst 1, 1) := by decide +kernel
theorem zd_Writes_performBackwards_5 : decode zb_Writes_performBackwards 5 = .ok (.isub, 1) := by decide +kernel
theorem zd_Writes_performBackwards_6 : decode zb_Writes_performBackwards 6 = .ok (.istore_n 1, 1) := by decide +kernel
theorem zd_Writes_performBackwards_7 : decode zb_Writes_performBackwards 7 = .ok (.iload_n 1, 1) := by decide +kernel
theorem zd_Writes_performBackwards_8 : decode zb_Writes_performBackwards 8 = .ok (.ifCond .lt 31, 3) := by decide +kernel
theorem zd_Writes_performBackwards_11 : decode zb_Writes_performBackwards 11 = .ok (.aload_n 0, 1) := by decide +kernel
theorem zd_Writes_performBackwards_12 : decode zb_Writes_performBackwards 12 = .ok (.aload_n 0, 1) := by decide +kernel
theorem zd_Writes_performBackwards_13 : decode zb_Writes_performBackwards 13 = .ok (.getfield 9, 3) := by decide +kernel
theorem zd_Writes_performBackwards_16 : decode zb_Writes_performBackwards 16 = .ok (.iload_n 1, 1) := by decide +kernel
theorem zd_Writes_performBackwards_17 : decode zb_Writes_performBackwards 17 = .ok (.iaload, 1) := by decide +kernel
theorem zd_Writes_performBackwards_18 : decode zb_Writes_performBackwards 18 = .ok (.aload_n 0, 1) := by decide +kernel
theorem zd_Writes_performBackwards_19 : decode zb_Writes_performBackwards 19 = .ok (.getfield 15, 3) := by decide +kernel
theorem zd_Writes_performBackwards_22 : decode zb_Writes_performBackwards 22 = .ok (.iload_n 1, 1) := by decide +kernel
theorem zd_Writes_performBackwards_23 : decode zb_Writes_performBackwards 23 = .ok (.iaload, 1) := by decide +kernel
theorem zd_Writes_performBackwards_24 : decode zb_Writes_performBackwards 24 = .ok (.aload_n 0, 1) := by decide +kernel
theorem zd_Writes_performBackwards_25 : decode zb_Writes_performBackwards 25 = .ok (.getfield 18, 3) := by decide +kernel
theorem zd_Writes_performBackwards_28 : decode zb_Writes_performBackwards 28 = .ok (.iload_n 1, 1) := by decide +kernel
theorem zd_Writes_performBackwards_29 : decode zb_Writes_performBackwards 29 = .ok (.laload, 1) := by decide +kernel
theorem zd_Writes_performBackwards_30 : decode zb_Writes_performBackwards 30 = .ok (.invokevirtual 68, 3) := by decide +kernel
theorem zd_Writes_performBackwards_33 : decode zb_Writes_performBackwards 33 = .ok (.iinc 1 (-1), 3) := by decide +kernel
theorem zd_Writes_performBackwards_36 : decode zb_Writes_performBackwards 36 = .ok (.goto (-29), 3) := by decide +kernel
theorem zd_Writes_performBackwards_39 : decode zb_Writes_performBackwards 39 = .ok (.return_, 1) := by decide +kernel

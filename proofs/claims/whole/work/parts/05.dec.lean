theorem zd_Work_init_0 : decode zb_Work_init 0 = .ok (.aload_n 0, 1) := by decide +kernel
theorem zd_Work_init_1 : decode zb_Work_init 1 = .ok (.invokespecial 3, 3) := by decide +kernel
theorem zd_Work_init_4 : decode zb_Work_init 4 = .ok (.aload_n 0, 1) := by decide +kernel
theorem zd_Work_init_5 : decode zb_Work_init 5 = .ok (.aload_n 1, 1) := by decide +kernel
theorem zd_Work_init_6 : decode zb_Work_init 6 = .ok (.putfield 9, 3) := by decide +kernel
theorem zd_Work_init_9 : decode zb_Work_init 9 = .ok (.aload_n 0, 1) := by decide +kernel
theorem zd_Work_init_10 : decode zb_Work_init 10 = .ok (.aload_n 2, 1) := by decide +kernel
theorem zd_Work_init_11 : decode zb_Work_init 11 = .ok (.putfield 15, 3) := by decide +kernel
theorem zd_Work_init_14 : decode zb_Work_init 14 = .ok (.aload_n 0, 1) := by decide +kernel
theorem zd_Work_init_15 : decode zb_Work_init 15 = .ok (.aload_n 3, 1) := by decide +kernel
theorem zd_Work_init_16 : decode zb_Work_init 16 = .ok (.putfield 19, 3) := by decide +kernel
theorem zd_Work_init_19 : decode zb_Work_init 19 = .ok (.aload_n 0, 1) := by decide +kernel
theorem zd_Work_init_20 : decode zb_Work_init 20 = .ok (.aload 4, 2) := by decide +kernel
theorem zd_Work_init_22 : decode zb_Work_init 22 = .ok (.putfield 23, 3) := by decide +kernel
theorem zd_Work_init_25 : decode zb_Work_init 25 = .ok (.aload_n 0, 1) := by decide +kernel
theorem zd_Work_init_26 : decode zb_Work_init 26 = .ok (.aload 5, 2) := by decide +kernel
theorem zd_Work_init_28 : decode zb_Work_init 28 = .ok (.putfield 27, 3) := by decide +kernel
theorem zd_Work_init_31 : decode zb_Work_init 31 = .ok (.aload_n 0, 1) := by decide +kernel
theorem zd_Work_init_32 : decode zb_Work_init 32 = .ok (.aload 6, 2) := by decide +kernel
theorem zd_Work_init_34 : decode zb_Work_init 34 = .ok (.putfield 31, 3) := by decide +kernel
theorem zd_Work_init_37 : decode zb_Work_init 37 = .ok (.aload_n 0, 1) := by decide +kernel
theorem zd_Work_init_38 : decode zb_Work_init 38 = .ok (.new 35, 3) := by decide +kernel
theorem zd_Work_init_41 : decode zb_Work_init 41 = .ok (.dup, 1) := by decide +kernel
theorem zd_Work_init_42 : decode zb_Work_init 42 = .ok (.aload_n 1, 1) := by decide +kernel
theorem zd_Work_init_43 : decode zb_Work_init 43 = .ok (.aload_n 2, 1) := by decide +kernel
theorem zd_Work_init_44 : decode zb_Work_init 44 = .ok (.invokespecial 37, 3) := by decide +kernel
theorem zd_Work_init_47 : decode zb_Work_init 47 = .ok (.putfield 40, 3) := by decide +kernel
theorem zd_Work_init_50 : decode zb_Work_init 50 = .ok (.return_, 1) := by decide +kernel
theorem zd_Work_carryOut_0 : decode zb_Work_carryOut 0 = .ok (.aload_n 0, 1) := by decide +kernel
theorem zd_Work_carryOut_1 : decode zb_Work_carryOut 1 = .ok (.iload_n 1, 1) := by decide +kernel
theorem zd_Work_carryOut_2 : decode zb_Work_carryOut 2 = .ok (.iload_n 2, 1) := by decide +kernel
theorem zd_Work_carryOut_3 : decode zb_Work_carryOut 3 = .ok (.invokevirtual 44, 3) := by decide +kernel
theorem zd_Work_carryOut_6 : decode zb_Work_carryOut 6 = .ok (.aload_n 0, 1) := by decide +kernel
theorem zd_Work_carryOut_7 : decode zb_Work_carryOut 7 = .ok (.getfield 27, 3) := by decide +kernel
theorem zd_Work_carryOut_10 : decode zb_Work_carryOut 10 = .ok (.getfield 48, 3) := by decide +kernel
theorem zd_Work_carryOut_13 : decode zb_Work_carryOut 13 = .ok (.istore_n 3, 1) := by decide +kernel
theorem zd_Work_carryOut_14 : decode zb_Work_carryOut 14 = .ok (.aload_n 0, 1) := by decide +kernel
theorem zd_Work_carryOut_15 : decode zb_Work_carryOut 15 = .ok (.getfield 27, 3) := by decide +kernel
theorem zd_Work_carryOut_18 : decode zb_Work_carryOut 18 = .ok (.getfield 54, 3) := by decide +kernel
theorem zd_Work_carryOut_21 : decode zb_Work_carryOut 21 = .ok (.istore 4, 2) := by decide +kernel
theorem zd_Work_carryOut_23 : decode zb_Work_carryOut 23 = .ok (.iconst 0, 1) := by decide +kernel
theorem zd_Work_carryOut_24 : decode zb_Work_carryOut 24 = .ok (.istore 5, 2) := by decide +kernel
theorem zd_Work_carryOut_26 : decode zb_Work_carryOut 26 = .ok (.aload_n 0, 1) := by decide +kernel
theorem zd_Work_carryOut_27 : decode zb_Work_carryOut 27 = .ok (.getfield 23, 3) := by decide +kernel
theorem zd_Work_carryOut_30 : decode zb_Work_carryOut 30 = .ok (.getfield 57, 3) := by decide +kernel
theorem zd_Work_carryOut_33 : decode zb_Work_carryOut 33 = .ok (.iload_n 1, 1) := by decide +kernel
theorem zd_Work_carryOut_34 : decode zb_Work_carryOut 34 = .ok (.iaload, 1) := by decide +kernel
theorem zd_Work_carryOut_35 : decode zb_Work_carryOut 35 = .ok (.istore 6, 2) := by decide +kernel
theorem zd_Work_carryOut_37 : decode zb_Work_carryOut 37 = .ok (.iload 6, 2) := by decide +kernel
theorem zd_Work_carryOut_39 : decode zb_Work_carryOut 39 = .ok (.aload_n 0, 1) := by decide +kernel
theorem zd_Work_carryOut_40 : decode zb_Work_carryOut 40 = .ok (.getfield 23, 3) := by decide +kernel
theorem zd_Work_carryOut_43 : decode zb_Work_carryOut 43 = .ok (.getfield 62, 3) := by decide +kernel
theorem zd_Work_carryOut_46 : decode zb_Work_carryOut 46 = .ok (.iload_n 1, 1) := by decide +kernel
theorem zd_Work_carryOut_47 : decode zb_Work_carryOut 47 = .ok (.iaload, 1) := by decide +kernel
theorem zd_Work_carryOut_48 : decode zb_Work_carryOut 48 = .ok (.if_icmp .ge 40, 3) := by decide +kernel
theorem zd_Work_carryOut_51 : decode zb_Work_carryOut 51 = .ok (.iload 5, 2) := by decide +kernel
theorem zd_Work_carryOut_53 : decode zb_Work_carryOut 53 = .ok (.ifCond .ne 35, 3) := by decide +kernel
theorem zd_Work_carryOut_56 : decode zb_Work_carryOut 56 = .ok (.aload_n 0, 1) := by decide +kernel
theorem zd_Work_carryOut_57 : decode zb_Work_carryOut 57 = .ok (.getfield 65, 3) := by decide +kernel
theorem zd_Work_carryOut_60 : decode zb_Work_carryOut 60 = .ok (.ifCond .ne 28, 3) := by decide +kernel
theorem zd_Work_carryOut_63 : decode zb_Work_carryOut 63 = .ok (.aload_n 0, 1) := by decide +kernel
theorem zd_Work_carryOut_64 : decode zb_Work_carryOut 64 = .ok (.getfield 31, 3) := by decide +kernel
theorem zd_Work_carryOut_67 : decode zb_Work_carryOut 67 = .ok (.bipush 8, 2) := by decide +kernel
theorem zd_Work_carryOut_69 : decode zb_Work_carryOut 69 = .ok (.dup2, 1) := by decide +kernel
theorem zd_Work_carryOut_70 : decode zb_Work_carryOut 70 = .ok (.iaload, 1) := by decide +kernel
theorem zd_Work_carryOut_71 : decode zb_Work_carryOut 71 = .ok (.iconst 1, 1) := by decide +kernel
theorem zd_Work_carryOut_72 : decode zb_Work_carryOut 72 = .ok (.iadd, 1) := by decide +kernel
theorem zd_Work_carryOut_73 : decode zb_Work_carryOut 73 = .ok (.iastore, 1) := by decide +kernel
theorem zd_Work_carryOut_74 : decode zb_Work_carryOut 74 = .ok (.aload_n 0, 1) := by decide +kernel
theorem zd_Work_carryOut_75 : decode zb_Work_carryOut 75 = .ok (.iload 6, 2) := by decide +kernel
theorem zd_Work_carryOut_77 : decode zb_Work_carryOut 77 = .ok (.invokevirtual 69, 3) := by decide +kernel
theorem zd_Work_carryOut_80 : decode zb_Work_carryOut 80 = .ok (.istore 5, 2) := by decide +kernel
theorem zd_Work_carryOut_82 : decode zb_Work_carryOut 82 = .ok (.iinc 6 1, 3) := by decide +kernel
theorem zd_Work_carryOut_85 : decode zb_Work_carryOut 85 = .ok (.goto (-48), 3) := by decide +kernel
theorem zd_Work_carryOut_88 : decode zb_Work_carryOut 88 = .ok (.iload 5, 2) := by decide +kernel
theorem zd_Work_carryOut_90 : decode zb_Work_carryOut 90 = .ok (.ifCond .ne 10, 3) := by decide +kernel
theorem zd_Work_carryOut_93 : decode zb_Work_carryOut 93 = .ok (.aload_n 0, 1) := by decide +kernel
theorem zd_Work_carryOut_94 : decode zb_Work_carryOut 94 = .ok (.invokevirtual 73, 3) := by decide +kernel
theorem zd_Work_carryOut_97 : decode zb_Work_carryOut 97 = .ok (.goto 24, 3) := by decide +kernel
theorem zd_Work_carryOut_100 : decode zb_Work_carryOut 100 = .ok (.aload_n 0, 1) := by decide +kernel
theorem zd_Work_carryOut_101 : decode zb_Work_carryOut 101 = .ok (.getfield 76, 3) := by decide +kernel
theorem zd_Work_carryOut_104 : decode zb_Work_carryOut 104 = .ok (.ifCond .eq 17, 3) := by decide +kernel
theorem zd_Work_carryOut_107 : decode zb_Work_carryOut 107 = .ok (.aload_n 0, 1) := by decide +kernel
theorem zd_Work_carryOut_108 : decode zb_Work_carryOut 108 = .ok (.invokevirtual 79, 3) := by decide +kernel
theorem zd_Work_carryOut_111 : decode zb_Work_carryOut 111 = .ok (.aload_n 0, 1) := by decide +kernel
theorem zd_Work_carryOut_112 : decode zb_Work_carryOut 112 = .ok (.getfield 27, 3) := by decide +kernel
theorem zd_Work_carryOut_115 : decode zb_Work_carryOut 115 = .ok (.iload_n 3, 1) := by decide +kernel
theorem zd_Work_carryOut_116 : decode zb_Work_carryOut 116 = .ok (.iload 4, 2) := by decide +kernel
theorem zd_Work_carryOut_118 : decode zb_Work_carryOut 118 = .ok (.invokevirtual 82, 3) := by decide +kernel
theorem zd_Work_carryOut_121 : decode zb_Work_carryOut 121 = .ok (.iload 5, 2) := by decide +kernel
theorem zd_Work_carryOut_123 : decode zb_Work_carryOut 123 = .ok (.ireturn, 1) := by decide +kernel
theorem zd_Work_prepare_0 : decode zb_Work_prepare 0 = .ok (.aload_n 0, 1) := by decide +kernel
theorem zd_Work_prepare_1 : decode zb_Work_prepare 1 = .ok (.iload_n 2, 1) := by decide +kernel
theorem zd_Work_prepare_2 : decode zb_Work_prepare 2 = .ok (.putfield 85, 3) := by decide +kernel
theorem zd_Work_prepare_5 : decode zb_Work_prepare 5 = .ok (.aload_n 0, 1) := by decide +kernel
theorem zd_Work_prepare_6 : decode zb_Work_prepare 6 = .ok (.aload_n 0, 1) := by decide +kernel
theorem zd_Work_prepare_7 : decode zb_Work_prepare 7 = .ok (.getfield 23, 3) := by decide +kernel
theorem zd_Work_prepare_10 : decode zb_Work_prepare 10 = .ok (.iload_n 1, 1) := by decide +kernel
theorem zd_Work_prepare_11 : decode zb_Work_prepare 11 = .ok (.iconst 1, 1) := by decide +kernel
theorem zd_Work_prepare_12 : decode zb_Work_prepare 12 = .ok (.invokevirtual 88, 3) := by decide +kernel
theorem zd_Work_prepare_15 : decode zb_Work_prepare 15 = .ok (.putfield 92, 3) := by decide +kernel
theorem zd_Work_prepare_18 : decode zb_Work_prepare 18 = .ok (.aload_n 0, 1) := by decide +kernel
theorem zd_Work_prepare_19 : decode zb_Work_prepare 19 = .ok (.aload_n 0, 1) := by decide +kernel
theorem zd_Work_prepare_20 : decode zb_Work_prepare 20 = .ok (.getfield 23, 3) := by decide +kernel
theorem zd_Work_prepare_23 : decode zb_Work_prepare 23 = .ok (.iload_n 1, 1) := by decide +kernel
theorem zd_Work_prepare_24 : decode zb_Work_prepare 24 = .ok (.iconst 2, 1) := by decide +kernel
theorem zd_Work_prepare_25 : decode zb_Work_prepare 25 = .ok (.invokevirtual 88, 3) := by decide +kernel
theorem zd_Work_prepare_28 : decode zb_Work_prepare 28 = .ok (.putfield 76, 3) := by decide +kernel
theorem zd_Work_prepare_31 : decode zb_Work_prepare 31 = .ok (.aload_n 0, 1) := by decide +kernel
theorem zd_Work_prepare_32 : decode zb_Work_prepare 32 = .ok (.iconst 0, 1) := by decide +kernel
theorem zd_Work_prepare_33 : decode zb_Work_prepare 33 = .ok (.putfield 95, 3) := by decide +kernel
theorem zd_Work_prepare_36 : decode zb_Work_prepare 36 = .ok (.aload_n 0, 1) := by decide +kernel
theorem zd_Work_prepare_37 : decode zb_Work_prepare 37 = .ok (.iconst 0, 1) := by decide +kernel
theorem zd_Work_prepare_38 : decode zb_Work_prepare 38 = .ok (.putfield 65, 3) := by decide +kernel
theorem zd_Work_prepare_41 : decode zb_Work_prepare 41 = .ok (.aload_n 0, 1) := by decide +kernel
theorem zd_Work_prepare_42 : decode zb_Work_prepare 42 = .ok (.iconst 0, 1) := by decide +kernel
theorem zd_Work_prepare_43 : decode zb_Work_prepare 43 = .ok (.putfield 98, 3) := by decide +kernel
theorem zd_Work_prepare_46 : decode zb_Work_prepare 46 = .ok (.aload_n 0, 1) := by decide +kernel
theorem zd_Work_prepare_47 : decode zb_Work_prepare 47 = .ok (.iconst (-1), 1) := by decide +kernel
theorem zd_Work_prepare_48 : decode zb_Work_prepare 48 = .ok (.putfield 101, 3) := by decide +kernel
theorem zd_Work_prepare_51 : decode zb_Work_prepare 51 = .ok (.aload_n 0, 1) := by decide +kernel
theorem zd_Work_prepare_52 : decode zb_Work_prepare 52 = .ok (.getfield 40, 3) := by decide +kernel
theorem zd_Work_prepare_55 : decode zb_Work_prepare 55 = .ok (.invokevirtual 104, 3) := by decide +kernel
theorem zd_Work_prepare_58 : decode zb_Work_prepare 58 = .ok (.return_, 1) := by decide +kernel
theorem zd_Work_writeWhatWaits_0 : decode zb_Work_writeWhatWaits 0 = .ok (.aload_n 0, 1) := by decide +kernel
theorem zd_Work_writeWhatWaits_1 : decode zb_Work_writeWhatWaits 1 = .ok (.getfield 92, 3) := by decide +kernel
theorem zd_Work_writeWhatWaits_4 : decode zb_Work_writeWhatWaits 4 = .ok (.ifCond .ne 4, 3) := by decide +kernel
theorem zd_Work_writeWhatWaits_7 : decode zb_Work_writeWhatWaits 7 = .ok (.return_, 1) := by decide +kernel
theorem zd_Work_writeWhatWaits_8 : decode zb_Work_writeWhatWaits 8 = .ok (.aload_n 0, 1) := by decide +kernel
theorem zd_Work_writeWhatWaits_9 : decode zb_Work_writeWhatWaits 9 = .ok (.getfield 101, 3) := by decide +kernel
theorem zd_Work_writeWhatWaits_12 : decode zb_Work_writeWhatWaits 12 = .ok (.iconst (-1), 1) := by decide +kernel
theorem zd_Work_writeWhatWaits_13 : decode zb_Work_writeWhatWaits 13 = .ok (.if_icmp .eq 17, 3) := by decide +kernel
theorem zd_Work_writeWhatWaits_16 : decode zb_Work_writeWhatWaits 16 = .ok (.aload_n 0, 1) := by decide +kernel
theorem zd_Work_writeWhatWaits_17 : decode zb_Work_writeWhatWaits 17 = .ok (.getfield 9, 3) := by decide +kernel
theorem zd_Work_writeWhatWaits_20 : decode zb_Work_writeWhatWaits 20 = .ok (.iconst 0, 1) := by decide +kernel
theorem zd_Work_writeWhatWaits_21 : decode zb_Work_writeWhatWaits 21 = .ok (.aload_n 0, 1) := by decide +kernel
theorem zd_Work_writeWhatWaits_22 : decode zb_Work_writeWhatWaits 22 = .ok (.getfield 101, 3) := by decide +kernel
theorem zd_Work_writeWhatWaits_25 : decode zb_Work_writeWhatWaits 25 = .ok (.i2l, 1) := by decide +kernel
theorem zd_Work_writeWhatWaits_26 : decode zb_Work_writeWhatWaits 26 = .ok (.iconst 0, 1) := by decide +kernel
theorem zd_Work_writeWhatWaits_27 : decode zb_Work_writeWhatWaits 27 = .ok (.invokevirtual 107, 3) := by decide +kernel
theorem zd_Work_writeWhatWaits_30 : decode zb_Work_writeWhatWaits 30 = .ok (.aload_n 0, 1) := by decide +kernel
theorem zd_Work_writeWhatWaits_31 : decode zb_Work_writeWhatWaits 31 = .ok (.getfield 40, 3) := by decide +kernel
theorem zd_Work_writeWhatWaits_34 : decode zb_Work_writeWhatWaits 34 = .ok (.invokevirtual 113, 3) := by decide +kernel
theorem zd_Work_writeWhatWaits_37 : decode zb_Work_writeWhatWaits 37 = .ok (.return_, 1) := by decide +kernel
theorem zd_Work_takeBack_0 : decode zb_Work_takeBack 0 = .ok (.aload_n 0, 1) := by decide +kernel
theorem zd_Work_takeBack_1 : decode zb_Work_takeBack 1 = .ok (.getfield 92, 3) := by decide +kernel
theorem zd_Work_takeBack_4 : decode zb_Work_takeBack 4 = .ok (.ifCond .ne 10, 3) := by decide +kernel
theorem zd_Work_takeBack_7 : decode zb_Work_takeBack 7 = .ok (.aload_n 0, 1) := by decide +kernel
theorem zd_Work_takeBack_8 : decode zb_Work_takeBack 8 = .ok (.getfield 40, 3) := by decide +kernel
theorem zd_Work_takeBack_11 : decode zb_Work_takeBack 11 = .ok (.invokevirtual 116, 3) := by decide +kernel
theorem zd_Work_takeBack_14 : decode zb_Work_takeBack 14 = .ok (.aload_n 0, 1) := by decide +kernel
theorem zd_Work_takeBack_15 : decode zb_Work_takeBack 15 = .ok (.iconst 0, 1) := by decide +kernel
theorem zd_Work_takeBack_16 : decode zb_Work_takeBack 16 = .ok (.putfield 98, 3) := by decide +kernel
theorem zd_Work_takeBack_19 : decode zb_Work_takeBack 19 = .ok (.return_, 1) := by decide +kernel
theorem zd_Work_doTransfer_0 : decode zb_Work_doTransfer 0 = .ok (.aload_n 0, 1) := by decide +kernel
theorem zd_Work_doTransfer_1 : decode zb_Work_doTransfer 1 = .ok (.getfield 23, 3) := by decide +kernel
theorem zd_Work_doTransfer_4 : decode zb_Work_doTransfer 4 = .ok (.getfield 119, 3) := by decide +kernel
theorem zd_Work_doTransfer_7 : decode zb_Work_doTransfer 7 = .ok (.iload_n 1, 1) := by decide +kernel
theorem zd_Work_doTransfer_8 : decode zb_Work_doTransfer 8 = .ok (.iaload, 1) := by decide +kernel
theorem zd_Work_doTransfer_9 : decode zb_Work_doTransfer 9 = .ok (.istore_n 2, 1) := by decide +kernel
theorem zd_Work_doTransfer_10 : decode zb_Work_doTransfer 10 = .ok (.aload_n 0, 1) := by decide +kernel
theorem zd_Work_doTransfer_11 : decode zb_Work_doTransfer 11 = .ok (.getfield 23, 3) := by decide +kernel
theorem zd_Work_doTransfer_14 : decode zb_Work_doTransfer 14 = .ok (.getfield 122, 3) := by decide +kernel
theorem zd_Work_doTransfer_17 : decode zb_Work_doTransfer 17 = .ok (.iload_n 1, 1) := by decide +kernel
theorem zd_Work_doTransfer_18 : decode zb_Work_doTransfer 18 = .ok (.iaload, 1) := by decide +kernel
theorem zd_Work_doTransfer_19 : decode zb_Work_doTransfer 19 = .ok (.istore_n 3, 1) := by decide +kernel
theorem zd_Work_doTransfer_20 : decode zb_Work_doTransfer 20 = .ok (.aload_n 0, 1) := by decide +kernel
theorem zd_Work_doTransfer_21 : decode zb_Work_doTransfer 21 = .ok (.getfield 19, 3) := by decide +kernel
theorem zd_Work_doTransfer_24 : decode zb_Work_doTransfer 24 = .ok (.aload_n 0, 1) := by decide +kernel
theorem zd_Work_doTransfer_25 : decode zb_Work_doTransfer 25 = .ok (.getfield 23, 3) := by decide +kernel
theorem zd_Work_doTransfer_28 : decode zb_Work_doTransfer 28 = .ok (.getfield 125, 3) := by decide +kernel
theorem zd_Work_doTransfer_31 : decode zb_Work_doTransfer 31 = .ok (.iload_n 1, 1) := by decide +kernel
theorem zd_Work_doTransfer_32 : decode zb_Work_doTransfer 32 = .ok (.iaload, 1) := by decide +kernel
theorem zd_Work_doTransfer_33 : decode zb_Work_doTransfer 33 = .ok (.aload_n 0, 1) := by decide +kernel
theorem zd_Work_doTransfer_34 : decode zb_Work_doTransfer 34 = .ok (.getfield 85, 3) := by decide +kernel
theorem zd_Work_doTransfer_37 : decode zb_Work_doTransfer 37 = .ok (.invokevirtual 128, 3) := by decide +kernel
theorem zd_Work_doTransfer_40 : decode zb_Work_doTransfer 40 = .ok (.lstore 4, 2) := by decide +kernel
theorem zd_Work_doTransfer_42 : decode zb_Work_doTransfer 42 = .ok (.aload_n 0, 1) := by decide +kernel
theorem zd_Work_doTransfer_43 : decode zb_Work_doTransfer 43 = .ok (.getfield 19, 3) := by decide +kernel
theorem zd_Work_doTransfer_46 : decode zb_Work_doTransfer 46 = .ok (.aload_n 0, 1) := by decide +kernel
theorem zd_Work_doTransfer_47 : decode zb_Work_doTransfer 47 = .ok (.getfield 23, 3) := by decide +kernel
theorem zd_Work_doTransfer_50 : decode zb_Work_doTransfer 50 = .ok (.getfield 134, 3) := by decide +kernel
theorem zd_Work_doTransfer_53 : decode zb_Work_doTransfer 53 = .ok (.iload_n 1, 1) := by decide +kernel
theorem zd_Work_doTransfer_54 : decode zb_Work_doTransfer 54 = .ok (.iaload, 1) := by decide +kernel
theorem zd_Work_doTransfer_55 : decode zb_Work_doTransfer 55 = .ok (.aload_n 0, 1) := by decide +kernel
theorem zd_Work_doTransfer_56 : decode zb_Work_doTransfer 56 = .ok (.getfield 85, 3) := by decide +kernel
theorem zd_Work_doTransfer_59 : decode zb_Work_doTransfer 59 = .ok (.invokevirtual 128, 3) := by decide +kernel
theorem zd_Work_doTransfer_62 : decode zb_Work_doTransfer 62 = .ok (.lstore 6, 2) := by decide +kernel
theorem zd_Work_doTransfer_64 : decode zb_Work_doTransfer 64 = .ok (.aload_n 0, 1) := by decide +kernel
theorem zd_Work_doTransfer_65 : decode zb_Work_doTransfer 65 = .ok (.getfield 19, 3) := by decide +kernel
theorem zd_Work_doTransfer_68 : decode zb_Work_doTransfer 68 = .ok (.aload_n 0, 1) := by decide +kernel
theorem zd_Work_doTransfer_69 : decode zb_Work_doTransfer 69 = .ok (.getfield 23, 3) := by decide +kernel
theorem zd_Work_doTransfer_72 : decode zb_Work_doTransfer 72 = .ok (.getfield 125, 3) := by decide +kernel
theorem zd_Work_doTransfer_75 : decode zb_Work_doTransfer 75 = .ok (.iload_n 1, 1) := by decide +kernel
theorem zd_Work_doTransfer_76 : decode zb_Work_doTransfer 76 = .ok (.iaload, 1) := by decide +kernel
theorem zd_Work_doTransfer_77 : decode zb_Work_doTransfer 77 = .ok (.invokevirtual 137, 3) := by decide +kernel
theorem zd_Work_doTransfer_80 : decode zb_Work_doTransfer 80 = .ok (.ifCond .ne 26, 3) := by decide +kernel
theorem zd_Work_doTransfer_83 : decode zb_Work_doTransfer 83 = .ok (.iload_n 2, 1) := by decide +kernel
theorem zd_Work_doTransfer_84 : decode zb_Work_doTransfer 84 = .ok (.ifCond .eq 26, 3) := by decide +kernel
theorem zd_Work_doTransfer_87 : decode zb_Work_doTransfer 87 = .ok (.aload_n 0, 1) := by decide +kernel
theorem zd_Work_doTransfer_88 : decode zb_Work_doTransfer 88 = .ok (.getfield 19, 3) := by decide +kernel
theorem zd_Work_doTransfer_91 : decode zb_Work_doTransfer 91 = .ok (.aload_n 0, 1) := by decide +kernel
theorem zd_Work_doTransfer_92 : decode zb_Work_doTransfer 92 = .ok (.getfield 23, 3) := by decide +kernel
theorem zd_Work_doTransfer_95 : decode zb_Work_doTransfer 95 = .ok (.getfield 134, 3) := by decide +kernel
theorem zd_Work_doTransfer_98 : decode zb_Work_doTransfer 98 = .ok (.iload_n 1, 1) := by decide +kernel
theorem zd_Work_doTransfer_99 : decode zb_Work_doTransfer 99 = .ok (.iaload, 1) := by decide +kernel
theorem zd_Work_doTransfer_100 : decode zb_Work_doTransfer 100 = .ok (.invokevirtual 137, 3) := by decide +kernel
theorem zd_Work_doTransfer_103 : decode zb_Work_doTransfer 103 = .ok (.ifCond .eq 7, 3) := by decide +kernel
theorem zd_Work_doTransfer_106 : decode zb_Work_doTransfer 106 = .ok (.iconst 1, 1) := by decide +kernel
theorem zd_Work_doTransfer_107 : decode zb_Work_doTransfer 107 = .ok (.goto 4, 3) := by decide +kernel
theorem zd_Work_doTransfer_110 : decode zb_Work_doTransfer 110 = .ok (.iconst 0, 1) := by decide +kernel
theorem zd_Work_doTransfer_111 : decode zb_Work_doTransfer 111 = .ok (.istore 8, 2) := by decide +kernel
theorem zd_Work_doTransfer_113 : decode zb_Work_doTransfer 113 = .ok (.iload 8, 2) := by decide +kernel
theorem zd_Work_doTransfer_115 : decode zb_Work_doTransfer 115 = .ok (.ifCond .eq 7, 3) := by decide +kernel
theorem zd_Work_doTransfer_118 : decode zb_Work_doTransfer 118 = .ok (.iconst 1, 1) := by decide +kernel
theorem zd_Work_doTransfer_119 : decode zb_Work_doTransfer 119 = .ok (.goto 4, 3) := by decide +kernel
theorem zd_Work_doTransfer_122 : decode zb_Work_doTransfer 122 = .ok (.iconst 0, 1) := by decide +kernel
theorem zd_Work_doTransfer_123 : decode zb_Work_doTransfer 123 = .ok (.istore 9, 2) := by decide +kernel
theorem zd_Work_doTransfer_125 : decode zb_Work_doTransfer 125 = .ok (.iload_n 2, 1) := by decide +kernel
theorem zd_Work_doTransfer_126 : decode zb_Work_doTransfer 126 = .ok (.tableswitch 224 4 22 #[90, 90, 224, 224, 224, 224, 224, 224, 224, 103, 103, 127, 127, 147, 165, 187, 196, 212, 219], 90) := by decide +kernel
theorem zd_Work_doTransfer_216 : decode zb_Work_doTransfer 216 = .ok (.aload_n 0, 1) := by decide +kernel
theorem zd_Work_doTransfer_217 : decode zb_Work_doTransfer 217 = .ok (.iload_n 2, 1) := by decide +kernel
theorem zd_Work_doTransfer_218 : decode zb_Work_doTransfer 218 = .ok (.lload 4, 2) := by decide +kernel
theorem zd_Work_doTransfer_220 : decode zb_Work_doTransfer 220 = .ok (.lload 6, 2) := by decide +kernel
theorem zd_Work_doTransfer_222 : decode zb_Work_doTransfer 222 = .ok (.iload_n 3, 1) := by decide +kernel
theorem zd_Work_doTransfer_223 : decode zb_Work_doTransfer 223 = .ok (.iload 9, 2) := by decide +kernel
theorem zd_Work_doTransfer_225 : decode zb_Work_doTransfer 225 = .ok (.invokevirtual 141, 3) := by decide +kernel
theorem zd_Work_doTransfer_228 : decode zb_Work_doTransfer 228 = .ok (.ireturn, 1) := by decide +kernel
theorem zd_Work_doTransfer_229 : decode zb_Work_doTransfer 229 = .ok (.aload_n 0, 1) := by decide +kernel
theorem zd_Work_doTransfer_230 : decode zb_Work_doTransfer 230 = .ok (.iload_n 2, 1) := by decide +kernel
theorem zd_Work_doTransfer_231 : decode zb_Work_doTransfer 231 = .ok (.bipush 14, 2) := by decide +kernel
theorem zd_Work_doTransfer_233 : decode zb_Work_doTransfer 233 = .ok (.if_icmp .ne 7, 3) := by decide +kernel
theorem zd_Work_doTransfer_236 : decode zb_Work_doTransfer 236 = .ok (.iconst 1, 1) := by decide +kernel
theorem zd_Work_doTransfer_237 : decode zb_Work_doTransfer 237 = .ok (.goto 4, 3) := by decide +kernel
theorem zd_Work_doTransfer_240 : decode zb_Work_doTransfer 240 = .ok (.iconst 0, 1) := by decide +kernel
theorem zd_Work_doTransfer_241 : decode zb_Work_doTransfer 241 = .ok (.lload 4, 2) := by decide +kernel
theorem zd_Work_doTransfer_243 : decode zb_Work_doTransfer 243 = .ok (.lload 6, 2) := by decide +kernel
theorem zd_Work_doTransfer_245 : decode zb_Work_doTransfer 245 = .ok (.ladd, 1) := by decide +kernel
theorem zd_Work_doTransfer_246 : decode zb_Work_doTransfer 246 = .ok (.iload_n 3, 1) := by decide +kernel
theorem zd_Work_doTransfer_247 : decode zb_Work_doTransfer 247 = .ok (.iload 9, 2) := by decide +kernel
theorem zd_Work_doTransfer_249 : decode zb_Work_doTransfer 249 = .ok (.invokevirtual 145, 3) := by decide +kernel
theorem zd_Work_doTransfer_252 : decode zb_Work_doTransfer 252 = .ok (.ireturn, 1) := by decide +kernel
theorem zd_Work_doTransfer_253 : decode zb_Work_doTransfer 253 = .ok (.aload_n 0, 1) := by decide +kernel
theorem zd_Work_doTransfer_254 : decode zb_Work_doTransfer 254 = .ok (.iload_n 2, 1) := by decide +kernel
theorem zd_Work_doTransfer_255 : decode zb_Work_doTransfer 255 = .ok (.bipush 16, 2) := by decide +kernel
theorem zd_Work_doTransfer_257 : decode zb_Work_doTransfer 257 = .ok (.if_icmp .ne 7, 3) := by decide +kernel
theorem zd_Work_doTransfer_260 : decode zb_Work_doTransfer 260 = .ok (.iconst 1, 1) := by decide +kernel
theorem zd_Work_doTransfer_261 : decode zb_Work_doTransfer 261 = .ok (.goto 4, 3) := by decide +kernel
theorem zd_Work_doTransfer_264 : decode zb_Work_doTransfer 264 = .ok (.iconst 0, 1) := by decide +kernel
theorem zd_Work_doTransfer_265 : decode zb_Work_doTransfer 265 = .ok (.lload 4, 2) := by decide +kernel
theorem zd_Work_doTransfer_267 : decode zb_Work_doTransfer 267 = .ok (.lload 6, 2) := by decide +kernel
theorem zd_Work_doTransfer_269 : decode zb_Work_doTransfer 269 = .ok (.invokevirtual 149, 3) := by decide +kernel
theorem zd_Work_doTransfer_272 : decode zb_Work_doTransfer 272 = .ok (.ireturn, 1) := by decide +kernel
theorem zd_Work_doTransfer_273 : decode zb_Work_doTransfer 273 = .ok (.aload_n 0, 1) := by decide +kernel
theorem zd_Work_doTransfer_274 : decode zb_Work_doTransfer 274 = .ok (.lload 4, 2) := by decide +kernel
theorem zd_Work_doTransfer_276 : decode zb_Work_doTransfer 276 = .ok (.lconst 0, 1) := by decide +kernel
theorem zd_Work_doTransfer_277 : decode zb_Work_doTransfer 277 = .ok (.lcmp, 1) := by decide +kernel
theorem zd_Work_doTransfer_278 : decode zb_Work_doTransfer 278 = .ok (.ifCond .ne 7, 3) := by decide +kernel
theorem zd_Work_doTransfer_281 : decode zb_Work_doTransfer 281 = .ok (.iconst 1, 1) := by decide +kernel
theorem zd_Work_doTransfer_282 : decode zb_Work_doTransfer 282 = .ok (.goto 4, 3) := by decide +kernel
theorem zd_Work_doTransfer_285 : decode zb_Work_doTransfer 285 = .ok (.iconst 0, 1) := by decide +kernel
theorem zd_Work_doTransfer_286 : decode zb_Work_doTransfer 286 = .ok (.putfield 65, 3) := by decide +kernel
theorem zd_Work_doTransfer_289 : decode zb_Work_doTransfer 289 = .ok (.iconst 0, 1) := by decide +kernel
theorem zd_Work_doTransfer_290 : decode zb_Work_doTransfer 290 = .ok (.ireturn, 1) := by decide +kernel
theorem zd_Work_doTransfer_291 : decode zb_Work_doTransfer 291 = .ok (.lload 6, 2) := by decide +kernel
theorem zd_Work_doTransfer_293 : decode zb_Work_doTransfer 293 = .ok (.lconst 0, 1) := by decide +kernel
theorem zd_Work_doTransfer_294 : decode zb_Work_doTransfer 294 = .ok (.lcmp, 1) := by decide +kernel
theorem zd_Work_doTransfer_295 : decode zb_Work_doTransfer 295 = .ok (.ifCond .ne 7, 3) := by decide +kernel
theorem zd_Work_doTransfer_298 : decode zb_Work_doTransfer 298 = .ok (.iconst 0, 1) := by decide +kernel
theorem zd_Work_doTransfer_299 : decode zb_Work_doTransfer 299 = .ok (.goto 13, 3) := by decide +kernel
theorem zd_Work_doTransfer_302 : decode zb_Work_doTransfer 302 = .ok (.bipush 8, 2) := by decide +kernel
theorem zd_Work_doTransfer_304 : decode zb_Work_doTransfer 304 = .ok (.lload 4, 2) := by decide +kernel
theorem zd_Work_doTransfer_306 : decode zb_Work_doTransfer 306 = .ok (.ldc2_w 153, 3) := by decide +kernel
theorem zd_Work_doTransfer_309 : decode zb_Work_doTransfer 309 = .ok (.land, 1) := by decide +kernel
theorem zd_Work_doTransfer_310 : decode zb_Work_doTransfer 310 = .ok (.l2i, 1) := by decide +kernel
theorem zd_Work_doTransfer_311 : decode zb_Work_doTransfer 311 = .ok (.iadd, 1) := by decide +kernel
theorem zd_Work_doTransfer_312 : decode zb_Work_doTransfer 312 = .ok (.ireturn, 1) := by decide +kernel
theorem zd_Work_doTransfer_313 : decode zb_Work_doTransfer 313 = .ok (.aload_n 0, 1) := by decide +kernel
theorem zd_Work_doTransfer_314 : decode zb_Work_doTransfer 314 = .ok (.iconst 2, 1) := by decide +kernel
theorem zd_Work_doTransfer_315 : decode zb_Work_doTransfer 315 = .ok (.iload_n 3, 1) := by decide +kernel
theorem zd_Work_doTransfer_316 : decode zb_Work_doTransfer 316 = .ok (.lconst 0, 1) := by decide +kernel
theorem zd_Work_doTransfer_317 : decode zb_Work_doTransfer 317 = .ok (.invokevirtual 155, 3) := by decide +kernel
theorem zd_Work_doTransfer_320 : decode zb_Work_doTransfer 320 = .ok (.iconst 0, 1) := by decide +kernel
theorem zd_Work_doTransfer_321 : decode zb_Work_doTransfer 321 = .ok (.ireturn, 1) := by decide +kernel
theorem zd_Work_doTransfer_322 : decode zb_Work_doTransfer 322 = .ok (.aload_n 0, 1) := by decide +kernel
theorem zd_Work_doTransfer_323 : decode zb_Work_doTransfer 323 = .ok (.getfield 27, 3) := by decide +kernel
theorem zd_Work_doTransfer_326 : decode zb_Work_doTransfer 326 = .ok (.getfield 54, 3) := by decide +kernel
theorem zd_Work_doTransfer_329 : decode zb_Work_doTransfer 329 = .ok (.ifCond .ne 7, 3) := by decide +kernel
theorem zd_Work_doTransfer_332 : decode zb_Work_doTransfer 332 = .ok (.iconst 5, 1) := by decide +kernel
theorem zd_Work_doTransfer_333 : decode zb_Work_doTransfer 333 = .ok (.goto 4, 3) := by decide +kernel
theorem zd_Work_doTransfer_336 : decode zb_Work_doTransfer 336 = .ok (.iconst 0, 1) := by decide +kernel
theorem zd_Work_doTransfer_337 : decode zb_Work_doTransfer 337 = .ok (.ireturn, 1) := by decide +kernel
theorem zd_Work_doTransfer_338 : decode zb_Work_doTransfer 338 = .ok (.aload_n 0, 1) := by decide +kernel
theorem zd_Work_doTransfer_339 : decode zb_Work_doTransfer 339 = .ok (.iconst 1, 1) := by decide +kernel
theorem zd_Work_doTransfer_340 : decode zb_Work_doTransfer 340 = .ok (.putfield 98, 3) := by decide +kernel
theorem zd_Work_doTransfer_343 : decode zb_Work_doTransfer 343 = .ok (.iconst 0, 1) := by decide +kernel
theorem zd_Work_doTransfer_344 : decode zb_Work_doTransfer 344 = .ok (.ireturn, 1) := by decide +kernel
theorem zd_Work_doTransfer_345 : decode zb_Work_doTransfer 345 = .ok (.aload_n 0, 1) := by decide +kernel
theorem zd_Work_doTransfer_346 : decode zb_Work_doTransfer 346 = .ok (.invokevirtual 159, 3) := by decide +kernel
theorem zd_Work_doTransfer_349 : decode zb_Work_doTransfer 349 = .ok (.ireturn, 1) := by decide +kernel
theorem zd_Work_doTransfer_350 : decode zb_Work_doTransfer 350 = .ok (.aload_n 0, 1) := by decide +kernel
theorem zd_Work_doTransfer_351 : decode zb_Work_doTransfer 351 = .ok (.iload 9, 2) := by decide +kernel
theorem zd_Work_doTransfer_353 : decode zb_Work_doTransfer 353 = .ok (.iload_n 3, 1) := by decide +kernel
theorem zd_Work_doTransfer_354 : decode zb_Work_doTransfer 354 = .ok (.iload_n 2, 1) := by decide +kernel
theorem zd_Work_doTransfer_355 : decode zb_Work_doTransfer 355 = .ok (.lload 4, 2) := by decide +kernel
theorem zd_Work_doTransfer_357 : decode zb_Work_doTransfer 357 = .ok (.lload 6, 2) := by decide +kernel
theorem zd_Work_doTransfer_359 : decode zb_Work_doTransfer 359 = .ok (.invokestatic 163, 3) := by decide +kernel
theorem zd_Work_doTransfer_362 : decode zb_Work_doTransfer 362 = .ok (.invokevirtual 155, 3) := by decide +kernel
theorem zd_Work_doTransfer_365 : decode zb_Work_doTransfer 365 = .ok (.iconst 0, 1) := by decide +kernel
theorem zd_Work_doTransfer_366 : decode zb_Work_doTransfer 366 = .ok (.ireturn, 1) := by decide +kernel
theorem zd_Work_divide_0 : decode zb_Work_divide 0 = .ok (.lload 4, 2) := by decide +kernel
theorem zd_Work_divide_2 : decode zb_Work_divide 2 = .ok (.lconst 0, 1) := by decide +kernel
theorem zd_Work_divide_3 : decode zb_Work_divide 3 = .ok (.lcmp, 1) := by decide +kernel
theorem zd_Work_divide_4 : decode zb_Work_divide 4 = .ok (.ifCond .ne 5, 3) := by decide +kernel
theorem zd_Work_divide_7 : decode zb_Work_divide 7 = .ok (.iconst 4, 1) := by decide +kernel
theorem zd_Work_divide_8 : decode zb_Work_divide 8 = .ok (.ireturn, 1) := by decide +kernel
theorem zd_Work_divide_9 : decode zb_Work_divide 9 = .ok (.lload_n 2, 1) := by decide +kernel
theorem zd_Work_divide_10 : decode zb_Work_divide 10 = .ok (.lload 4, 2) := by decide +kernel
theorem zd_Work_divide_12 : decode zb_Work_divide 12 = .ok (.invokestatic 167, 3) := by decide +kernel
theorem zd_Work_divide_15 : decode zb_Work_divide 15 = .ok (.lstore 8, 2) := by decide +kernel
theorem zd_Work_divide_17 : decode zb_Work_divide 17 = .ok (.aload_n 0, 1) := by decide +kernel
theorem zd_Work_divide_18 : decode zb_Work_divide 18 = .ok (.iload 7, 2) := by decide +kernel
theorem zd_Work_divide_20 : decode zb_Work_divide 20 = .ok (.iload 6, 2) := by decide +kernel
theorem zd_Work_divide_22 : decode zb_Work_divide 22 = .ok (.iload_n 1, 1) := by decide +kernel
theorem zd_Work_divide_23 : decode zb_Work_divide 23 = .ok (.iconst 4, 1) := by decide +kernel
theorem zd_Work_divide_24 : decode zb_Work_divide 24 = .ok (.if_icmp .ne 8, 3) := by decide +kernel
theorem zd_Work_divide_27 : decode zb_Work_divide 27 = .ok (.lload 8, 2) := by decide +kernel
theorem zd_Work_divide_29 : decode zb_Work_divide 29 = .ok (.goto 10, 3) := by decide +kernel
theorem zd_Work_divide_32 : decode zb_Work_divide 32 = .ok (.lload_n 2, 1) := by decide +kernel
theorem zd_Work_divide_33 : decode zb_Work_divide 33 = .ok (.lload 8, 2) := by decide +kernel
theorem zd_Work_divide_35 : decode zb_Work_divide 35 = .ok (.lload 4, 2) := by decide +kernel
theorem zd_Work_divide_37 : decode zb_Work_divide 37 = .ok (.lmul, 1) := by decide +kernel
theorem zd_Work_divide_38 : decode zb_Work_divide 38 = .ok (.lsub, 1) := by decide +kernel
theorem zd_Work_divide_39 : decode zb_Work_divide 39 = .ok (.invokevirtual 155, 3) := by decide +kernel
theorem zd_Work_divide_42 : decode zb_Work_divide 42 = .ok (.iconst 0, 1) := by decide +kernel
theorem zd_Work_divide_43 : decode zb_Work_divide 43 = .ok (.ireturn, 1) := by decide +kernel
theorem zd_Work_load_0 : decode zb_Work_load 0 = .ok (.iload_n 1, 1) := by decide +kernel
theorem zd_Work_load_1 : decode zb_Work_load 1 = .ok (.ifCond .eq 17, 3) := by decide +kernel
theorem zd_Work_load_4 : decode zb_Work_load 4 = .ok (.aload_n 0, 1) := by decide +kernel
theorem zd_Work_load_5 : decode zb_Work_load 5 = .ok (.getfield 15, 3) := by decide +kernel
theorem zd_Work_load_8 : decode zb_Work_load 8 = .ok (.lload_n 2, 1) := by decide +kernel
theorem zd_Work_load_9 : decode zb_Work_load 9 = .ok (.invokevirtual 171, 3) := by decide +kernel
theorem zd_Work_load_12 : decode zb_Work_load 12 = .ok (.ifCond .ne 19, 3) := by decide +kernel
theorem zd_Work_load_15 : decode zb_Work_load 15 = .ok (.goto 14, 3) := by decide +kernel
theorem zd_Work_load_18 : decode zb_Work_load 18 = .ok (.aload_n 0, 1) := by decide +kernel
theorem zd_Work_load_19 : decode zb_Work_load 19 = .ok (.getfield 15, 3) := by decide +kernel
theorem zd_Work_load_22 : decode zb_Work_load 22 = .ok (.lload_n 2, 1) := by decide +kernel
theorem zd_Work_load_23 : decode zb_Work_load 23 = .ok (.invokevirtual 177, 3) := by decide +kernel
theorem zd_Work_load_26 : decode zb_Work_load 26 = .ok (.ifCond .ne 5, 3) := by decide +kernel
theorem zd_Work_load_29 : decode zb_Work_load 29 = .ok (.iconst 3, 1) := by decide +kernel
theorem zd_Work_load_30 : decode zb_Work_load 30 = .ok (.ireturn, 1) := by decide +kernel
theorem zd_Work_load_31 : decode zb_Work_load 31 = .ok (.lload_n 2, 1) := by decide +kernel
theorem zd_Work_load_32 : decode zb_Work_load 32 = .ok (.l2i, 1) := by decide +kernel
theorem zd_Work_load_33 : decode zb_Work_load 33 = .ok (.istore 6, 2) := by decide +kernel
theorem zd_Work_load_35 : decode zb_Work_load 35 = .ok (.aload_n 0, 1) := by decide +kernel
theorem zd_Work_load_36 : decode zb_Work_load 36 = .ok (.getfield 31, 3) := by decide +kernel
theorem zd_Work_load_39 : decode zb_Work_load 39 = .ok (.iconst 4, 1) := by decide +kernel
theorem zd_Work_load_40 : decode zb_Work_load 40 = .ok (.dup2, 1) := by decide +kernel
theorem zd_Work_load_41 : decode zb_Work_load 41 = .ok (.iaload, 1) := by decide +kernel
theorem zd_Work_load_42 : decode zb_Work_load 42 = .ok (.iload_n 1, 1) := by decide +kernel
theorem zd_Work_load_43 : decode zb_Work_load 43 = .ok (.ifCond .eq 7, 3) := by decide +kernel
theorem zd_Work_load_46 : decode zb_Work_load 46 = .ok (.iconst 2, 1) := by decide +kernel
theorem zd_Work_load_47 : decode zb_Work_load 47 = .ok (.goto 4, 3) := by decide +kernel
theorem zd_Work_load_50 : decode zb_Work_load 50 = .ok (.iconst 1, 1) := by decide +kernel
theorem zd_Work_load_51 : decode zb_Work_load 51 = .ok (.iadd, 1) := by decide +kernel
theorem zd_Work_load_52 : decode zb_Work_load 52 = .ok (.iastore, 1) := by decide +kernel
theorem zd_Work_load_53 : decode zb_Work_load 53 = .ok (.aload_n 0, 1) := by decide +kernel
theorem zd_Work_load_54 : decode zb_Work_load 54 = .ok (.iload 5, 2) := by decide +kernel
theorem zd_Work_load_56 : decode zb_Work_load 56 = .ok (.iload 4, 2) := by decide +kernel
theorem zd_Work_load_58 : decode zb_Work_load 58 = .ok (.iload_n 1, 1) := by decide +kernel
theorem zd_Work_load_59 : decode zb_Work_load 59 = .ok (.ifCond .eq 16, 3) := by decide +kernel
theorem zd_Work_load_62 : decode zb_Work_load 62 = .ok (.aload_n 0, 1) := by decide +kernel
theorem zd_Work_load_63 : decode zb_Work_load 63 = .ok (.getfield 15, 3) := by decide +kernel
theorem zd_Work_load_66 : decode zb_Work_load 66 = .ok (.iload 6, 2) := by decide +kernel
theorem zd_Work_load_68 : decode zb_Work_load 68 = .ok (.invokevirtual 180, 3) := by decide +kernel
theorem zd_Work_load_71 : decode zb_Work_load 71 = .ok (.i2l, 1) := by decide +kernel
theorem zd_Work_load_72 : decode zb_Work_load 72 = .ok (.goto 13, 3) := by decide +kernel
theorem zd_Work_load_75 : decode zb_Work_load 75 = .ok (.aload_n 0, 1) := by decide +kernel
theorem zd_Work_load_76 : decode zb_Work_load 76 = .ok (.getfield 15, 3) := by decide +kernel
theorem zd_Work_load_79 : decode zb_Work_load 79 = .ok (.iload 6, 2) := by decide +kernel
theorem zd_Work_load_81 : decode zb_Work_load 81 = .ok (.invokevirtual 183, 3) := by decide +kernel
theorem zd_Work_load_84 : decode zb_Work_load 84 = .ok (.i2l, 1) := by decide +kernel
theorem zd_Work_load_85 : decode zb_Work_load 85 = .ok (.invokevirtual 155, 3) := by decide +kernel
theorem zd_Work_load_88 : decode zb_Work_load 88 = .ok (.iconst 0, 1) := by decide +kernel
theorem zd_Work_load_89 : decode zb_Work_load 89 = .ok (.ireturn, 1) := by decide +kernel
theorem zd_Work_store_0 : decode zb_Work_store 0 = .ok (.iload_n 1, 1) := by decide +kernel
theorem zd_Work_store_1 : decode zb_Work_store 1 = .ok (.ifCond .eq 17, 3) := by decide +kernel
theorem zd_Work_store_4 : decode zb_Work_store 4 = .ok (.aload_n 0, 1) := by decide +kernel
theorem zd_Work_store_5 : decode zb_Work_store 5 = .ok (.getfield 15, 3) := by decide +kernel
theorem zd_Work_store_8 : decode zb_Work_store 8 = .ok (.lload_n 2, 1) := by decide +kernel
theorem zd_Work_store_9 : decode zb_Work_store 9 = .ok (.invokevirtual 171, 3) := by decide +kernel
theorem zd_Work_store_12 : decode zb_Work_store 12 = .ok (.ifCond .ne 19, 3) := by decide +kernel
theorem zd_Work_store_15 : decode zb_Work_store 15 = .ok (.goto 14, 3) := by decide +kernel
theorem zd_Work_store_18 : decode zb_Work_store 18 = .ok (.aload_n 0, 1) := by decide +kernel
theorem zd_Work_store_19 : decode zb_Work_store 19 = .ok (.getfield 15, 3) := by decide +kernel
theorem zd_Work_store_22 : decode zb_Work_store 22 = .ok (.lload_n 2, 1) := by decide +kernel
theorem zd_Work_store_23 : decode zb_Work_store 23 = .ok (.invokevirtual 177, 3) := by decide +kernel
theorem zd_Work_store_26 : decode zb_Work_store 26 = .ok (.ifCond .ne 5, 3) := by decide +kernel
theorem zd_Work_store_29 : decode zb_Work_store 29 = .ok (.iconst 3, 1) := by decide +kernel
theorem zd_Work_store_30 : decode zb_Work_store 30 = .ok (.ireturn, 1) := by decide +kernel
theorem zd_Work_store_31 : decode zb_Work_store 31 = .ok (.aload_n 0, 1) := by decide +kernel
theorem zd_Work_store_32 : decode zb_Work_store 32 = .ok (.getfield 31, 3) := by decide +kernel
theorem zd_Work_store_35 : decode zb_Work_store 35 = .ok (.iconst 5, 1) := by decide +kernel
theorem zd_Work_store_36 : decode zb_Work_store 36 = .ok (.dup2, 1) := by decide +kernel
theorem zd_Work_store_37 : decode zb_Work_store 37 = .ok (.iaload, 1) := by decide +kernel
theorem zd_Work_store_38 : decode zb_Work_store 38 = .ok (.iload_n 1, 1) := by decide +kernel
theorem zd_Work_store_39 : decode zb_Work_store 39 = .ok (.ifCond .eq 7, 3) := by decide +kernel
theorem zd_Work_store_42 : decode zb_Work_store 42 = .ok (.iconst 2, 1) := by decide +kernel
theorem zd_Work_store_43 : decode zb_Work_store 43 = .ok (.goto 4, 3) := by decide +kernel
theorem zd_Work_store_46 : decode zb_Work_store 46 = .ok (.iconst 1, 1) := by decide +kernel
theorem zd_Work_store_47 : decode zb_Work_store 47 = .ok (.iadd, 1) := by decide +kernel
theorem zd_Work_store_48 : decode zb_Work_store 48 = .ok (.iastore, 1) := by decide +kernel
theorem zd_Work_store_49 : decode zb_Work_store 49 = .ok (.aload_n 0, 1) := by decide +kernel
theorem zd_Work_store_50 : decode zb_Work_store 50 = .ok (.iload_n 1, 1) := by decide +kernel
theorem zd_Work_store_51 : decode zb_Work_store 51 = .ok (.ifCond .eq 7, 3) := by decide +kernel
theorem zd_Work_store_54 : decode zb_Work_store 54 = .ok (.iconst 4, 1) := by decide +kernel
theorem zd_Work_store_55 : decode zb_Work_store 55 = .ok (.goto 4, 3) := by decide +kernel
theorem zd_Work_store_58 : decode zb_Work_store 58 = .ok (.iconst 3, 1) := by decide +kernel
theorem zd_Work_store_59 : decode zb_Work_store 59 = .ok (.lload_n 2, 1) := by decide +kernel
theorem zd_Work_store_60 : decode zb_Work_store 60 = .ok (.l2i, 1) := by decide +kernel
theorem zd_Work_store_61 : decode zb_Work_store 61 = .ok (.lload 4, 2) := by decide +kernel
theorem zd_Work_store_63 : decode zb_Work_store 63 = .ok (.invokevirtual 155, 3) := by decide +kernel
theorem zd_Work_store_66 : decode zb_Work_store 66 = .ok (.iconst 0, 1) := by decide +kernel
theorem zd_Work_store_67 : decode zb_Work_store 67 = .ok (.ireturn, 1) := by decide +kernel
theorem zd_Work_goBack_0 : decode zb_Work_goBack 0 = .ok (.aload_n 0, 1) := by decide +kernel
theorem zd_Work_goBack_1 : decode zb_Work_goBack 1 = .ok (.getfield 27, 3) := by decide +kernel
theorem zd_Work_goBack_4 : decode zb_Work_goBack 4 = .ok (.invokevirtual 186, 3) := by decide +kernel
theorem zd_Work_goBack_7 : decode zb_Work_goBack 7 = .ok (.istore_n 1, 1) := by decide +kernel
theorem zd_Work_goBack_8 : decode zb_Work_goBack 8 = .ok (.iload_n 1, 1) := by decide +kernel
theorem zd_Work_goBack_9 : decode zb_Work_goBack 9 = .ok (.iconst (-1), 1) := by decide +kernel
theorem zd_Work_goBack_10 : decode zb_Work_goBack 10 = .ok (.if_icmp .ne 6, 3) := by decide +kernel
theorem zd_Work_goBack_13 : decode zb_Work_goBack 13 = .ok (.bipush 6, 2) := by decide +kernel
theorem zd_Work_goBack_15 : decode zb_Work_goBack 15 = .ok (.ireturn, 1) := by decide +kernel
theorem zd_Work_goBack_16 : decode zb_Work_goBack 16 = .ok (.aload_n 0, 1) := by decide +kernel
theorem zd_Work_goBack_17 : decode zb_Work_goBack 17 = .ok (.getfield 92, 3) := by decide +kernel
theorem zd_Work_goBack_20 : decode zb_Work_goBack 20 = .ok (.ifCond .eq 16, 3) := by decide +kernel
theorem zd_Work_goBack_23 : decode zb_Work_goBack 23 = .ok (.aload_n 0, 1) := by decide +kernel
theorem zd_Work_goBack_24 : decode zb_Work_goBack 24 = .ok (.iload_n 1, 1) := by decide +kernel
theorem zd_Work_goBack_25 : decode zb_Work_goBack 25 = .ok (.putfield 101, 3) := by decide +kernel
theorem zd_Work_goBack_28 : decode zb_Work_goBack 28 = .ok (.aload_n 0, 1) := by decide +kernel
theorem zd_Work_goBack_29 : decode zb_Work_goBack 29 = .ok (.iconst 1, 1) := by decide +kernel
theorem zd_Work_goBack_30 : decode zb_Work_goBack 30 = .ok (.putfield 95, 3) := by decide +kernel
theorem zd_Work_goBack_33 : decode zb_Work_goBack 33 = .ok (.goto 11, 3) := by decide +kernel
theorem zd_Work_goBack_36 : decode zb_Work_goBack 36 = .ok (.aload_n 0, 1) := by decide +kernel
theorem zd_Work_goBack_37 : decode zb_Work_goBack 37 = .ok (.iconst 0, 1) := by decide +kernel
theorem zd_Work_goBack_38 : decode zb_Work_goBack 38 = .ok (.iconst 0, 1) := by decide +kernel
theorem zd_Work_goBack_39 : decode zb_Work_goBack 39 = .ok (.iload_n 1, 1) := by decide +kernel
theorem zd_Work_goBack_40 : decode zb_Work_goBack 40 = .ok (.i2l, 1) := by decide +kernel
theorem zd_Work_goBack_41 : decode zb_Work_goBack 41 = .ok (.invokevirtual 155, 3) := by decide +kernel
theorem zd_Work_goBack_44 : decode zb_Work_goBack 44 = .ok (.iconst 0, 1) := by decide +kernel
theorem zd_Work_goBack_45 : decode zb_Work_goBack 45 = .ok (.ireturn, 1) := by decide +kernel
theorem zd_Work_write_0 : decode zb_Work_write 0 = .ok (.iload_n 2, 1) := by decide +kernel
theorem zd_Work_write_1 : decode zb_Work_write 1 = .ok (.ifCond .ne 17, 3) := by decide +kernel
theorem zd_Work_write_4 : decode zb_Work_write 4 = .ok (.iload_n 1, 1) := by decide +kernel
theorem zd_Work_write_5 : decode zb_Work_write 5 = .ok (.ifCond .eq 8, 3) := by decide +kernel
theorem zd_Work_write_8 : decode zb_Work_write 8 = .ok (.iload_n 1, 1) := by decide +kernel
theorem zd_Work_write_9 : decode zb_Work_write 9 = .ok (.iconst 1, 1) := by decide +kernel
theorem zd_Work_write_10 : decode zb_Work_write 10 = .ok (.if_icmp .ne 8, 3) := by decide +kernel
theorem zd_Work_write_13 : decode zb_Work_write 13 = .ok (.aload_n 0, 1) := by decide +kernel
theorem zd_Work_write_14 : decode zb_Work_write 14 = .ok (.iconst 1, 1) := by decide +kernel
theorem zd_Work_write_15 : decode zb_Work_write 15 = .ok (.putfield 95, 3) := by decide +kernel
theorem zd_Work_write_18 : decode zb_Work_write 18 = .ok (.aload_n 0, 1) := by decide +kernel
theorem zd_Work_write_19 : decode zb_Work_write 19 = .ok (.getfield 92, 3) := by decide +kernel
theorem zd_Work_write_22 : decode zb_Work_write 22 = .ok (.ifCond .eq 14, 3) := by decide +kernel
theorem zd_Work_write_25 : decode zb_Work_write 25 = .ok (.aload_n 0, 1) := by decide +kernel
theorem zd_Work_write_26 : decode zb_Work_write 26 = .ok (.getfield 40, 3) := by decide +kernel
theorem zd_Work_write_29 : decode zb_Work_write 29 = .ok (.iload_n 1, 1) := by decide +kernel
theorem zd_Work_write_30 : decode zb_Work_write 30 = .ok (.iload_n 2, 1) := by decide +kernel
theorem zd_Work_write_31 : decode zb_Work_write 31 = .ok (.lload_n 3, 1) := by decide +kernel
theorem zd_Work_write_32 : decode zb_Work_write 32 = .ok (.invokevirtual 187, 3) := by decide +kernel
theorem zd_Work_write_35 : decode zb_Work_write 35 = .ok (.return_, 1) := by decide +kernel
theorem zd_Work_write_36 : decode zb_Work_write 36 = .ok (.aload_n 0, 1) := by decide +kernel
theorem zd_Work_write_37 : decode zb_Work_write 37 = .ok (.getfield 76, 3) := by decide +kernel
theorem zd_Work_write_40 : decode zb_Work_write 40 = .ok (.ifCond .eq 12, 3) := by decide +kernel
theorem zd_Work_write_43 : decode zb_Work_write 43 = .ok (.aload_n 0, 1) := by decide +kernel
theorem zd_Work_write_44 : decode zb_Work_write 44 = .ok (.getfield 40, 3) := by decide +kernel
theorem zd_Work_write_47 : decode zb_Work_write 47 = .ok (.iload_n 1, 1) := by decide +kernel
theorem zd_Work_write_48 : decode zb_Work_write 48 = .ok (.iload_n 2, 1) := by decide +kernel
theorem zd_Work_write_49 : decode zb_Work_write 49 = .ok (.invokevirtual 190, 3) := by decide +kernel
theorem zd_Work_write_52 : decode zb_Work_write 52 = .ok (.aload_n 0, 1) := by decide +kernel
theorem zd_Work_write_53 : decode zb_Work_write 53 = .ok (.getfield 40, 3) := by decide +kernel
theorem zd_Work_write_56 : decode zb_Work_write 56 = .ok (.iload_n 1, 1) := by decide +kernel
theorem zd_Work_write_57 : decode zb_Work_write 57 = .ok (.iload_n 2, 1) := by decide +kernel
theorem zd_Work_write_58 : decode zb_Work_write 58 = .ok (.lload_n 3, 1) := by decide +kernel
theorem zd_Work_write_59 : decode zb_Work_write 59 = .ok (.invokevirtual 193, 3) := by decide +kernel
theorem zd_Work_write_62 : decode zb_Work_write 62 = .ok (.return_, 1) := by decide +kernel
theorem zd_Work_result_0 : decode zb_Work_result 0 = .ok (.iload_n 0, 1) := by decide +kernel
theorem zd_Work_result_1 : decode zb_Work_result 1 = .ok (.tableswitch 159 1 12 #[63, 67, 71, 159, 159, 75, 79, 83, 87, 110, 133, 147], 63) := by decide +kernel
theorem zd_Work_result_64 : decode zb_Work_result 64 = .ok (.lload_n 1, 1) := by decide +kernel
theorem zd_Work_result_65 : decode zb_Work_result 65 = .ok (.lload_n 3, 1) := by decide +kernel
theorem zd_Work_result_66 : decode zb_Work_result 66 = .ok (.ladd, 1) := by decide +kernel
theorem zd_Work_result_67 : decode zb_Work_result 67 = .ok (.lreturn, 1) := by decide +kernel
theorem zd_Work_result_68 : decode zb_Work_result 68 = .ok (.lload_n 1, 1) := by decide +kernel
theorem zd_Work_result_69 : decode zb_Work_result 69 = .ok (.lload_n 3, 1) := by decide +kernel
theorem zd_Work_result_70 : decode zb_Work_result 70 = .ok (.lsub, 1) := by decide +kernel
theorem zd_Work_result_71 : decode zb_Work_result 71 = .ok (.lreturn, 1) := by decide +kernel
theorem zd_Work_result_72 : decode zb_Work_result 72 = .ok (.lload_n 1, 1) := by decide +kernel
theorem zd_Work_result_73 : decode zb_Work_result 73 = .ok (.lload_n 3, 1) := by decide +kernel
theorem zd_Work_result_74 : decode zb_Work_result 74 = .ok (.lmul, 1) := by decide +kernel
theorem zd_Work_result_75 : decode zb_Work_result 75 = .ok (.lreturn, 1) := by decide +kernel
theorem zd_Work_result_76 : decode zb_Work_result 76 = .ok (.lload_n 1, 1) := by decide +kernel
theorem zd_Work_result_77 : decode zb_Work_result 77 = .ok (.lload_n 3, 1) := by decide +kernel
theorem zd_Work_result_78 : decode zb_Work_result 78 = .ok (.land, 1) := by decide +kernel
theorem zd_Work_result_79 : decode zb_Work_result 79 = .ok (.lreturn, 1) := by decide +kernel
theorem zd_Work_result_80 : decode zb_Work_result 80 = .ok (.lload_n 1, 1) := by decide +kernel
theorem zd_Work_result_81 : decode zb_Work_result 81 = .ok (.lload_n 3, 1) := by decide +kernel
theorem zd_Work_result_82 : decode zb_Work_result 82 = .ok (.lor, 1) := by decide +kernel
theorem zd_Work_result_83 : decode zb_Work_result 83 = .ok (.lreturn, 1) := by decide +kernel
theorem zd_Work_result_84 : decode zb_Work_result 84 = .ok (.lload_n 1, 1) := by decide +kernel
theorem zd_Work_result_85 : decode zb_Work_result 85 = .ok (.lload_n 3, 1) := by decide +kernel
theorem zd_Work_result_86 : decode zb_Work_result 86 = .ok (.lxor, 1) := by decide +kernel
theorem zd_Work_result_87 : decode zb_Work_result 87 = .ok (.lreturn, 1) := by decide +kernel
theorem zd_Work_result_88 : decode zb_Work_result 88 = .ok (.lload_n 3, 1) := by decide +kernel
theorem zd_Work_result_89 : decode zb_Work_result 89 = .ok (.lconst 0, 1) := by decide +kernel
theorem zd_Work_result_90 : decode zb_Work_result 90 = .ok (.lcmp, 1) := by decide +kernel
theorem zd_Work_result_91 : decode zb_Work_result 91 = .ok (.ifCond .lt 18, 3) := by decide +kernel
theorem zd_Work_result_94 : decode zb_Work_result 94 = .ok (.lload_n 3, 1) := by decide +kernel
theorem zd_Work_result_95 : decode zb_Work_result 95 = .ok (.ldc2_w 196, 3) := by decide +kernel
theorem zd_Work_result_98 : decode zb_Work_result 98 = .ok (.lcmp, 1) := by decide +kernel
theorem zd_Work_result_99 : decode zb_Work_result 99 = .ok (.ifCond .gt 10, 3) := by decide +kernel
theorem zd_Work_result_102 : decode zb_Work_result 102 = .ok (.lload_n 1, 1) := by decide +kernel
theorem zd_Work_result_103 : decode zb_Work_result 103 = .ok (.lload_n 3, 1) := by decide +kernel
theorem zd_Work_result_104 : decode zb_Work_result 104 = .ok (.l2i, 1) := by decide +kernel
theorem zd_Work_result_105 : decode zb_Work_result 105 = .ok (.lshl, 1) := by decide +kernel
theorem zd_Work_result_106 : decode zb_Work_result 106 = .ok (.goto 4, 3) := by decide +kernel
theorem zd_Work_result_109 : decode zb_Work_result 109 = .ok (.lconst 0, 1) := by decide +kernel
theorem zd_Work_result_110 : decode zb_Work_result 110 = .ok (.lreturn, 1) := by decide +kernel
theorem zd_Work_result_111 : decode zb_Work_result 111 = .ok (.lload_n 3, 1) := by decide +kernel
theorem zd_Work_result_112 : decode zb_Work_result 112 = .ok (.lconst 0, 1) := by decide +kernel
theorem zd_Work_result_113 : decode zb_Work_result 113 = .ok (.lcmp, 1) := by decide +kernel
theorem zd_Work_result_114 : decode zb_Work_result 114 = .ok (.ifCond .lt 18, 3) := by decide +kernel
theorem zd_Work_result_117 : decode zb_Work_result 117 = .ok (.lload_n 3, 1) := by decide +kernel
theorem zd_Work_result_118 : decode zb_Work_result 118 = .ok (.ldc2_w 196, 3) := by decide +kernel
theorem zd_Work_result_121 : decode zb_Work_result 121 = .ok (.lcmp, 1) := by decide +kernel
theorem zd_Work_result_122 : decode zb_Work_result 122 = .ok (.ifCond .gt 10, 3) := by decide +kernel
theorem zd_Work_result_125 : decode zb_Work_result 125 = .ok (.lload_n 1, 1) := by decide +kernel
theorem zd_Work_result_126 : decode zb_Work_result 126 = .ok (.lload_n 3, 1) := by decide +kernel
theorem zd_Work_result_127 : decode zb_Work_result 127 = .ok (.l2i, 1) := by decide +kernel
theorem zd_Work_result_128 : decode zb_Work_result 128 = .ok (.lushr, 1) := by decide +kernel
theorem zd_Work_result_129 : decode zb_Work_result 129 = .ok (.goto 4, 3) := by decide +kernel
theorem zd_Work_result_132 : decode zb_Work_result 132 = .ok (.lconst 0, 1) := by decide +kernel
theorem zd_Work_result_133 : decode zb_Work_result 133 = .ok (.lreturn, 1) := by decide +kernel
theorem zd_Work_result_134 : decode zb_Work_result 134 = .ok (.lload_n 1, 1) := by decide +kernel
theorem zd_Work_result_135 : decode zb_Work_result 135 = .ok (.lload_n 3, 1) := by decide +kernel
theorem zd_Work_result_136 : decode zb_Work_result 136 = .ok (.invokestatic 198, 3) := by decide +kernel
theorem zd_Work_result_139 : decode zb_Work_result 139 = .ok (.ifCond .eq 7, 3) := by decide +kernel
theorem zd_Work_result_142 : decode zb_Work_result 142 = .ok (.lconst 1, 1) := by decide +kernel
theorem zd_Work_result_143 : decode zb_Work_result 143 = .ok (.goto 4, 3) := by decide +kernel
theorem zd_Work_result_146 : decode zb_Work_result 146 = .ok (.lconst 0, 1) := by decide +kernel
theorem zd_Work_result_147 : decode zb_Work_result 147 = .ok (.lreturn, 1) := by decide +kernel
theorem zd_Work_result_148 : decode zb_Work_result 148 = .ok (.lload_n 1, 1) := by decide +kernel
theorem zd_Work_result_149 : decode zb_Work_result 149 = .ok (.lload_n 3, 1) := by decide +kernel
theorem zd_Work_result_150 : decode zb_Work_result 150 = .ok (.lcmp, 1) := by decide +kernel
theorem zd_Work_result_151 : decode zb_Work_result 151 = .ok (.ifCond .ne 7, 3) := by decide +kernel
theorem zd_Work_result_154 : decode zb_Work_result 154 = .ok (.lconst 1, 1) := by decide +kernel
theorem zd_Work_result_155 : decode zb_Work_result 155 = .ok (.goto 4, 3) := by decide +kernel
theorem zd_Work_result_158 : decode zb_Work_result 158 = .ok (.lconst 0, 1) := by decide +kernel
theorem zd_Work_result_159 : decode zb_Work_result 159 = .ok (.lreturn, 1) := by decide +kernel
theorem zd_Work_result_160 : decode zb_Work_result 160 = .ok (.lload_n 1, 1) := by decide +kernel
theorem zd_Work_result_161 : decode zb_Work_result 161 = .ok (.lreturn, 1) := by decide +kernel
theorem zd_Work_isBelow_0 : decode zb_Work_isBelow 0 = .ok (.lload_n 0, 1) := by decide +kernel
theorem zd_Work_isBelow_1 : decode zb_Work_isBelow 1 = .ok (.ldc2_w 202, 3) := by decide +kernel
theorem zd_Work_isBelow_4 : decode zb_Work_isBelow 4 = .ok (.lxor, 1) := by decide +kernel
theorem zd_Work_isBelow_5 : decode zb_Work_isBelow 5 = .ok (.lload_n 2, 1) := by decide +kernel
theorem zd_Work_isBelow_6 : decode zb_Work_isBelow 6 = .ok (.ldc2_w 202, 3) := by decide +kernel
theorem zd_Work_isBelow_9 : decode zb_Work_isBelow 9 = .ok (.lxor, 1) := by decide +kernel
theorem zd_Work_isBelow_10 : decode zb_Work_isBelow 10 = .ok (.lcmp, 1) := by decide +kernel
theorem zd_Work_isBelow_11 : decode zb_Work_isBelow 11 = .ok (.ifCond .ge 7, 3) := by decide +kernel
theorem zd_Work_isBelow_14 : decode zb_Work_isBelow 14 = .ok (.iconst 1, 1) := by decide +kernel
theorem zd_Work_isBelow_15 : decode zb_Work_isBelow 15 = .ok (.goto 4, 3) := by decide +kernel
theorem zd_Work_isBelow_18 : decode zb_Work_isBelow 18 = .ok (.iconst 0, 1) := by decide +kernel
theorem zd_Work_isBelow_19 : decode zb_Work_isBelow 19 = .ok (.ireturn, 1) := by decide +kernel
theorem zd_Work_quotient_0 : decode zb_Work_quotient 0 = .ok (.lload_n 2, 1) := by decide +kernel
theorem zd_Work_quotient_1 : decode zb_Work_quotient 1 = .ok (.lconst 0, 1) := by decide +kernel
theorem zd_Work_quotient_2 : decode zb_Work_quotient 2 = .ok (.lcmp, 1) := by decide +kernel
theorem zd_Work_quotient_3 : decode zb_Work_quotient 3 = .ok (.ifCond .gt 23, 3) := by decide +kernel
theorem zd_Work_quotient_6 : decode zb_Work_quotient 6 = .ok (.lload_n 2, 1) := by decide +kernel
theorem zd_Work_quotient_7 : decode zb_Work_quotient 7 = .ok (.lconst 0, 1) := by decide +kernel
theorem zd_Work_quotient_8 : decode zb_Work_quotient 8 = .ok (.lcmp, 1) := by decide +kernel
theorem zd_Work_quotient_9 : decode zb_Work_quotient 9 = .ok (.ifCond .eq 11, 3) := by decide +kernel
theorem zd_Work_quotient_12 : decode zb_Work_quotient 12 = .ok (.lload_n 0, 1) := by decide +kernel
theorem zd_Work_quotient_13 : decode zb_Work_quotient 13 = .ok (.lload_n 2, 1) := by decide +kernel
theorem zd_Work_quotient_14 : decode zb_Work_quotient 14 = .ok (.invokestatic 198, 3) := by decide +kernel
theorem zd_Work_quotient_17 : decode zb_Work_quotient 17 = .ok (.ifCond .eq 7, 3) := by decide +kernel
theorem zd_Work_quotient_20 : decode zb_Work_quotient 20 = .ok (.lconst 0, 1) := by decide +kernel
theorem zd_Work_quotient_21 : decode zb_Work_quotient 21 = .ok (.goto 4, 3) := by decide +kernel
theorem zd_Work_quotient_24 : decode zb_Work_quotient 24 = .ok (.lconst 1, 1) := by decide +kernel
theorem zd_Work_quotient_25 : decode zb_Work_quotient 25 = .ok (.lreturn, 1) := by decide +kernel
theorem zd_Work_quotient_26 : decode zb_Work_quotient 26 = .ok (.lload_n 0, 1) := by decide +kernel
theorem zd_Work_quotient_27 : decode zb_Work_quotient 27 = .ok (.lconst 0, 1) := by decide +kernel
theorem zd_Work_quotient_28 : decode zb_Work_quotient 28 = .ok (.lcmp, 1) := by decide +kernel
theorem zd_Work_quotient_29 : decode zb_Work_quotient 29 = .ok (.ifCond .lt 7, 3) := by decide +kernel
theorem zd_Work_quotient_32 : decode zb_Work_quotient 32 = .ok (.lload_n 0, 1) := by decide +kernel
theorem zd_Work_quotient_33 : decode zb_Work_quotient 33 = .ok (.lload_n 2, 1) := by decide +kernel
theorem zd_Work_quotient_34 : decode zb_Work_quotient 34 = .ok (.ldiv, 1) := by decide +kernel
theorem zd_Work_quotient_35 : decode zb_Work_quotient 35 = .ok (.lreturn, 1) := by decide +kernel
theorem zd_Work_quotient_36 : decode zb_Work_quotient 36 = .ok (.lload_n 0, 1) := by decide +kernel
theorem zd_Work_quotient_37 : decode zb_Work_quotient 37 = .ok (.iconst 1, 1) := by decide +kernel
theorem zd_Work_quotient_38 : decode zb_Work_quotient 38 = .ok (.lushr, 1) := by decide +kernel
theorem zd_Work_quotient_39 : decode zb_Work_quotient 39 = .ok (.lload_n 2, 1) := by decide +kernel
theorem zd_Work_quotient_40 : decode zb_Work_quotient 40 = .ok (.ldiv, 1) := by decide +kernel
theorem zd_Work_quotient_41 : decode zb_Work_quotient 41 = .ok (.iconst 1, 1) := by decide +kernel
theorem zd_Work_quotient_42 : decode zb_Work_quotient 42 = .ok (.lshl, 1) := by decide +kernel
theorem zd_Work_quotient_43 : decode zb_Work_quotient 43 = .ok (.lstore 4, 2) := by decide +kernel
theorem zd_Work_quotient_45 : decode zb_Work_quotient 45 = .ok (.lload_n 0, 1) := by decide +kernel
theorem zd_Work_quotient_46 : decode zb_Work_quotient 46 = .ok (.lload 4, 2) := by decide +kernel
theorem zd_Work_quotient_48 : decode zb_Work_quotient 48 = .ok (.lload_n 2, 1) := by decide +kernel
theorem zd_Work_quotient_49 : decode zb_Work_quotient 49 = .ok (.lmul, 1) := by decide +kernel
theorem zd_Work_quotient_50 : decode zb_Work_quotient 50 = .ok (.lsub, 1) := by decide +kernel
theorem zd_Work_quotient_51 : decode zb_Work_quotient 51 = .ok (.lload_n 2, 1) := by decide +kernel
theorem zd_Work_quotient_52 : decode zb_Work_quotient 52 = .ok (.invokestatic 198, 3) := by decide +kernel
theorem zd_Work_quotient_55 : decode zb_Work_quotient 55 = .ok (.ifCond .eq 8, 3) := by decide +kernel
theorem zd_Work_quotient_58 : decode zb_Work_quotient 58 = .ok (.lload 4, 2) := by decide +kernel
theorem zd_Work_quotient_60 : decode zb_Work_quotient 60 = .ok (.goto 7, 3) := by decide +kernel
theorem zd_Work_quotient_63 : decode zb_Work_quotient 63 = .ok (.lload 4, 2) := by decide +kernel
theorem zd_Work_quotient_65 : decode zb_Work_quotient 65 = .ok (.lconst 1, 1) := by decide +kernel
theorem zd_Work_quotient_66 : decode zb_Work_quotient 66 = .ok (.ladd, 1) := by decide +kernel
theorem zd_Work_quotient_67 : decode zb_Work_quotient 67 = .ok (.lreturn, 1) := by decide +kernel
theorem zd_Machine_init_0 : decode zb_Machine_init 0 = .ok (.aload_n 0, 1) := by decide +kernel
theorem zd_Machine_init_1 : decode zb_Machine_init 1 = .ok (.invokespecial 3, 3) := by decide +kernel
theorem zd_Machine_init_4 : decode zb_Machine_init 4 = .ok (.aload_n 0, 1) := by decide +kernel
theorem zd_Machine_init_5 : decode zb_Machine_init 5 = .ok (.iconst (-1), 1) := by decide +kernel
theorem zd_Machine_init_6 : decode zb_Machine_init 6 = .ok (.putfield 9, 3) := by decide +kernel
theorem zd_Machine_init_9 : decode zb_Machine_init 9 = .ok (.aload_n 0, 1) := by decide +kernel
theorem zd_Machine_init_10 : decode zb_Machine_init 10 = .ok (.iconst 0, 1) := by decide +kernel
theorem zd_Machine_init_11 : decode zb_Machine_init 11 = .ok (.putfield 15, 3) := by decide +kernel
theorem zd_Machine_init_14 : decode zb_Machine_init 14 = .ok (.aload_n 0, 1) := by decide +kernel
theorem zd_Machine_init_15 : decode zb_Machine_init 15 = .ok (.aload_n 1, 1) := by decide +kernel
theorem zd_Machine_init_16 : decode zb_Machine_init 16 = .ok (.putfield 18, 3) := by decide +kernel
theorem zd_Machine_init_19 : decode zb_Machine_init 19 = .ok (.aload_n 0, 1) := by decide +kernel
theorem zd_Machine_init_20 : decode zb_Machine_init 20 = .ok (.aload_n 2, 1) := by decide +kernel
theorem zd_Machine_init_21 : decode zb_Machine_init 21 = .ok (.putfield 22, 3) := by decide +kernel
theorem zd_Machine_init_24 : decode zb_Machine_init 24 = .ok (.aload_n 0, 1) := by decide +kernel
theorem zd_Machine_init_25 : decode zb_Machine_init 25 = .ok (.aload_n 3, 1) := by decide +kernel
theorem zd_Machine_init_26 : decode zb_Machine_init 26 = .ok (.putfield 26, 3) := by decide +kernel
theorem zd_Machine_init_29 : decode zb_Machine_init 29 = .ok (.aload_n 0, 1) := by decide +kernel
theorem zd_Machine_init_30 : decode zb_Machine_init 30 = .ok (.aload 4, 2) := by decide +kernel
theorem zd_Machine_init_32 : decode zb_Machine_init 32 = .ok (.putfield 30, 3) := by decide +kernel
theorem zd_Machine_init_35 : decode zb_Machine_init 35 = .ok (.aload_n 0, 1) := by decide +kernel
theorem zd_Machine_init_36 : decode zb_Machine_init 36 = .ok (.aload 5, 2) := by decide +kernel
theorem zd_Machine_init_38 : decode zb_Machine_init 38 = .ok (.putfield 34, 3) := by decide +kernel
theorem zd_Machine_init_41 : decode zb_Machine_init 41 = .ok (.aload_n 0, 1) := by decide +kernel
theorem zd_Machine_init_42 : decode zb_Machine_init 42 = .ok (.aload 6, 2) := by decide +kernel
theorem zd_Machine_init_44 : decode zb_Machine_init 44 = .ok (.putfield 38, 3) := by decide +kernel
theorem zd_Machine_init_47 : decode zb_Machine_init 47 = .ok (.aload_n 0, 1) := by decide +kernel
theorem zd_Machine_init_48 : decode zb_Machine_init 48 = .ok (.aload 7, 2) := by decide +kernel
theorem zd_Machine_init_50 : decode zb_Machine_init 50 = .ok (.putfield 42, 3) := by decide +kernel
theorem zd_Machine_init_53 : decode zb_Machine_init 53 = .ok (.return_, 1) := by decide +kernel
theorem zd_Machine_loseWaiting_0 : decode zb_Machine_loseWaiting 0 = .ok (.aload_n 0, 1) := by decide +kernel
theorem zd_Machine_loseWaiting_1 : decode zb_Machine_loseWaiting 1 = .ok (.iconst (-1), 1) := by decide +kernel
theorem zd_Machine_loseWaiting_2 : decode zb_Machine_loseWaiting 2 = .ok (.putfield 9, 3) := by decide +kernel
theorem zd_Machine_loseWaiting_5 : decode zb_Machine_loseWaiting 5 = .ok (.return_, 1) := by decide +kernel
theorem zd_Machine_takeStep_0 : decode zb_Machine_takeStep 0 = .ok (.aload_n 0, 1) := by decide +kernel
theorem zd_Machine_takeStep_1 : decode zb_Machine_takeStep 1 = .ok (.getfield 42, 3) := by decide +kernel
theorem zd_Machine_takeStep_4 : decode zb_Machine_takeStep 4 = .ok (.iconst 0, 1) := by decide +kernel
theorem zd_Machine_takeStep_5 : decode zb_Machine_takeStep 5 = .ok (.dup2, 1) := by decide +kernel
theorem zd_Machine_takeStep_6 : decode zb_Machine_takeStep 6 = .ok (.iaload, 1) := by decide +kernel
theorem zd_Machine_takeStep_7 : decode zb_Machine_takeStep 7 = .ok (.iconst 1, 1) := by decide +kernel
theorem zd_Machine_takeStep_8 : decode zb_Machine_takeStep 8 = .ok (.iadd, 1) := by decide +kernel
theorem zd_Machine_takeStep_9 : decode zb_Machine_takeStep 9 = .ok (.iastore, 1) := by decide +kernel
theorem zd_Machine_takeStep_10 : decode zb_Machine_takeStep 10 = .ok (.aload_n 0, 1) := by decide +kernel
theorem zd_Machine_takeStep_11 : decode zb_Machine_takeStep 11 = .ok (.getfield 34, 3) := by decide +kernel
theorem zd_Machine_takeStep_14 : decode zb_Machine_takeStep 14 = .ok (.aload_n 0, 1) := by decide +kernel
theorem zd_Machine_takeStep_15 : decode zb_Machine_takeStep 15 = .ok (.getfield 30, 3) := by decide +kernel
theorem zd_Machine_takeStep_18 : decode zb_Machine_takeStep 18 = .ok (.getfield 46, 3) := by decide +kernel
theorem zd_Machine_takeStep_21 : decode zb_Machine_takeStep 21 = .ok (.invokevirtual 51, 3) := by decide +kernel
theorem zd_Machine_takeStep_24 : decode zb_Machine_takeStep 24 = .ok (.istore_n 1, 1) := by decide +kernel
theorem zd_Machine_takeStep_25 : decode zb_Machine_takeStep 25 = .ok (.iload_n 1, 1) := by decide +kernel
theorem zd_Machine_takeStep_26 : decode zb_Machine_takeStep 26 = .ok (.iconst (-1), 1) := by decide +kernel
theorem zd_Machine_takeStep_27 : decode zb_Machine_takeStep 27 = .ok (.if_icmp .eq 9, 3) := by decide +kernel
theorem zd_Machine_takeStep_30 : decode zb_Machine_takeStep 30 = .ok (.aload_n 0, 1) := by decide +kernel
theorem zd_Machine_takeStep_31 : decode zb_Machine_takeStep 31 = .ok (.iload_n 1, 1) := by decide +kernel
theorem zd_Machine_takeStep_32 : decode zb_Machine_takeStep 32 = .ok (.invokevirtual 57, 3) := by decide +kernel
theorem zd_Machine_takeStep_35 : decode zb_Machine_takeStep 35 = .ok (.return_, 1) := by decide +kernel
theorem zd_Machine_takeStep_36 : decode zb_Machine_takeStep 36 = .ok (.aload_n 0, 1) := by decide +kernel
theorem zd_Machine_takeStep_37 : decode zb_Machine_takeStep 37 = .ok (.getfield 18, 3) := by decide +kernel
theorem zd_Machine_takeStep_40 : decode zb_Machine_takeStep 40 = .ok (.invokevirtual 61, 3) := by decide +kernel
theorem zd_Machine_takeStep_43 : decode zb_Machine_takeStep 43 = .ok (.istore_n 2, 1) := by decide +kernel
theorem zd_Machine_takeStep_44 : decode zb_Machine_takeStep 44 = .ok (.aload_n 0, 1) := by decide +kernel
theorem zd_Machine_takeStep_45 : decode zb_Machine_takeStep 45 = .ok (.getfield 22, 3) := by decide +kernel
theorem zd_Machine_takeStep_48 : decode zb_Machine_takeStep 48 = .ok (.iload_n 2, 1) := by decide +kernel
theorem zd_Machine_takeStep_49 : decode zb_Machine_takeStep 49 = .ok (.i2l, 1) := by decide +kernel
theorem zd_Machine_takeStep_50 : decode zb_Machine_takeStep 50 = .ok (.invokevirtual 67, 3) := by decide +kernel
theorem zd_Machine_takeStep_53 : decode zb_Machine_takeStep 53 = .ok (.ifCond .ne 10, 3) := by decide +kernel
theorem zd_Machine_takeStep_56 : decode zb_Machine_takeStep 56 = .ok (.aload_n 0, 1) := by decide +kernel
theorem zd_Machine_takeStep_57 : decode zb_Machine_takeStep 57 = .ok (.iconst 2, 1) := by decide +kernel
theorem zd_Machine_takeStep_58 : decode zb_Machine_takeStep 58 = .ok (.iload_n 2, 1) := by decide +kernel
theorem zd_Machine_takeStep_59 : decode zb_Machine_takeStep 59 = .ok (.invokevirtual 73, 3) := by decide +kernel
theorem zd_Machine_takeStep_62 : decode zb_Machine_takeStep 62 = .ok (.return_, 1) := by decide +kernel
theorem zd_Machine_takeStep_63 : decode zb_Machine_takeStep 63 = .ok (.aload_n 0, 1) := by decide +kernel
theorem zd_Machine_takeStep_64 : decode zb_Machine_takeStep 64 = .ok (.getfield 22, 3) := by decide +kernel
theorem zd_Machine_takeStep_67 : decode zb_Machine_takeStep 67 = .ok (.iload_n 2, 1) := by decide +kernel
theorem zd_Machine_takeStep_68 : decode zb_Machine_takeStep 68 = .ok (.invokevirtual 77, 3) := by decide +kernel
theorem zd_Machine_takeStep_71 : decode zb_Machine_takeStep 71 = .ok (.istore_n 3, 1) := by decide +kernel
theorem zd_Machine_takeStep_72 : decode zb_Machine_takeStep 72 = .ok (.aload_n 0, 1) := by decide +kernel
theorem zd_Machine_takeStep_73 : decode zb_Machine_takeStep 73 = .ok (.getfield 26, 3) := by decide +kernel
theorem zd_Machine_takeStep_76 : decode zb_Machine_takeStep 76 = .ok (.iload_n 3, 1) := by decide +kernel
theorem zd_Machine_takeStep_77 : decode zb_Machine_takeStep 77 = .ok (.invokevirtual 80, 3) := by decide +kernel
theorem zd_Machine_takeStep_80 : decode zb_Machine_takeStep 80 = .ok (.istore 4, 2) := by decide +kernel
theorem zd_Machine_takeStep_82 : decode zb_Machine_takeStep 82 = .ok (.iload 4, 2) := by decide +kernel
theorem zd_Machine_takeStep_84 : decode zb_Machine_takeStep 84 = .ok (.iconst (-1), 1) := by decide +kernel
theorem zd_Machine_takeStep_85 : decode zb_Machine_takeStep 85 = .ok (.if_icmp .ne 10, 3) := by decide +kernel
theorem zd_Machine_takeStep_88 : decode zb_Machine_takeStep 88 = .ok (.aload_n 0, 1) := by decide +kernel
theorem zd_Machine_takeStep_89 : decode zb_Machine_takeStep 89 = .ok (.iconst 1, 1) := by decide +kernel
theorem zd_Machine_takeStep_90 : decode zb_Machine_takeStep 90 = .ok (.iload_n 2, 1) := by decide +kernel
theorem zd_Machine_takeStep_91 : decode zb_Machine_takeStep 91 = .ok (.invokevirtual 73, 3) := by decide +kernel
theorem zd_Machine_takeStep_94 : decode zb_Machine_takeStep 94 = .ok (.return_, 1) := by decide +kernel
theorem zd_Machine_takeStep_95 : decode zb_Machine_takeStep 95 = .ok (.aload_n 0, 1) := by decide +kernel
theorem zd_Machine_takeStep_96 : decode zb_Machine_takeStep 96 = .ok (.getfield 18, 3) := by decide +kernel
theorem zd_Machine_takeStep_99 : decode zb_Machine_takeStep 99 = .ok (.iload_n 2, 1) := by decide +kernel
theorem zd_Machine_takeStep_100 : decode zb_Machine_takeStep 100 = .ok (.iconst 2, 1) := by decide +kernel
theorem zd_Machine_takeStep_101 : decode zb_Machine_takeStep 101 = .ok (.iadd, 1) := by decide +kernel
theorem zd_Machine_takeStep_102 : decode zb_Machine_takeStep 102 = .ok (.invokevirtual 85, 3) := by decide +kernel
theorem zd_Machine_takeStep_105 : decode zb_Machine_takeStep 105 = .ok (.aload_n 0, 1) := by decide +kernel
theorem zd_Machine_takeStep_106 : decode zb_Machine_takeStep 106 = .ok (.getfield 38, 3) := by decide +kernel
theorem zd_Machine_takeStep_109 : decode zb_Machine_takeStep 109 = .ok (.iload 4, 2) := by decide +kernel
theorem zd_Machine_takeStep_111 : decode zb_Machine_takeStep 111 = .ok (.iload_n 3, 1) := by decide +kernel
theorem zd_Machine_takeStep_112 : decode zb_Machine_takeStep 112 = .ok (.invokevirtual 88, 3) := by decide +kernel
theorem zd_Machine_takeStep_115 : decode zb_Machine_takeStep 115 = .ok (.istore 5, 2) := by decide +kernel
theorem zd_Machine_takeStep_117 : decode zb_Machine_takeStep 117 = .ok (.aload_n 0, 1) := by decide +kernel
theorem zd_Machine_takeStep_118 : decode zb_Machine_takeStep 118 = .ok (.getfield 38, 3) := by decide +kernel
theorem zd_Machine_takeStep_121 : decode zb_Machine_takeStep 121 = .ok (.getfield 94, 3) := by decide +kernel
theorem zd_Machine_takeStep_124 : decode zb_Machine_takeStep 124 = .ok (.ifCond .eq 8, 3) := by decide +kernel
theorem zd_Machine_takeStep_127 : decode zb_Machine_takeStep 127 = .ok (.aload_n 0, 1) := by decide +kernel
theorem zd_Machine_takeStep_128 : decode zb_Machine_takeStep 128 = .ok (.iconst 1, 1) := by decide +kernel
theorem zd_Machine_takeStep_129 : decode zb_Machine_takeStep 129 = .ok (.putfield 15, 3) := by decide +kernel
theorem zd_Machine_takeStep_132 : decode zb_Machine_takeStep 132 = .ok (.iload 5, 2) := by decide +kernel
theorem zd_Machine_takeStep_134 : decode zb_Machine_takeStep 134 = .ok (.ifCond .ne 33, 3) := by decide +kernel
theorem zd_Machine_takeStep_137 : decode zb_Machine_takeStep 137 = .ok (.aload_n 0, 1) := by decide +kernel
theorem zd_Machine_takeStep_138 : decode zb_Machine_takeStep 138 = .ok (.getfield 42, 3) := by decide +kernel
theorem zd_Machine_takeStep_141 : decode zb_Machine_takeStep 141 = .ok (.iconst 1, 1) := by decide +kernel
theorem zd_Machine_takeStep_142 : decode zb_Machine_takeStep 142 = .ok (.dup2, 1) := by decide +kernel
theorem zd_Machine_takeStep_143 : decode zb_Machine_takeStep 143 = .ok (.iaload, 1) := by decide +kernel
theorem zd_Machine_takeStep_144 : decode zb_Machine_takeStep 144 = .ok (.iconst 1, 1) := by decide +kernel
theorem zd_Machine_takeStep_145 : decode zb_Machine_takeStep 145 = .ok (.iadd, 1) := by decide +kernel
theorem zd_Machine_takeStep_146 : decode zb_Machine_takeStep 146 = .ok (.iastore, 1) := by decide +kernel
theorem zd_Machine_takeStep_147 : decode zb_Machine_takeStep 147 = .ok (.aload_n 0, 1) := by decide +kernel
theorem zd_Machine_takeStep_148 : decode zb_Machine_takeStep 148 = .ok (.iload_n 2, 1) := by decide +kernel
theorem zd_Machine_takeStep_149 : decode zb_Machine_takeStep 149 = .ok (.iconst 2, 1) := by decide +kernel
theorem zd_Machine_takeStep_150 : decode zb_Machine_takeStep 150 = .ok (.iadd, 1) := by decide +kernel
theorem zd_Machine_takeStep_151 : decode zb_Machine_takeStep 151 = .ok (.aload_n 0, 1) := by decide +kernel
theorem zd_Machine_takeStep_152 : decode zb_Machine_takeStep 152 = .ok (.getfield 26, 3) := by decide +kernel
theorem zd_Machine_takeStep_155 : decode zb_Machine_takeStep 155 = .ok (.iload 4, 2) := by decide +kernel
theorem zd_Machine_takeStep_157 : decode zb_Machine_takeStep 157 = .ok (.iconst 4, 1) := by decide +kernel
theorem zd_Machine_takeStep_158 : decode zb_Machine_takeStep 158 = .ok (.invokevirtual 98, 3) := by decide +kernel
theorem zd_Machine_takeStep_161 : decode zb_Machine_takeStep 161 = .ok (.invokevirtual 102, 3) := by decide +kernel
theorem zd_Machine_takeStep_164 : decode zb_Machine_takeStep 164 = .ok (.goto 10, 3) := by decide +kernel
theorem zd_Machine_takeStep_167 : decode zb_Machine_takeStep 167 = .ok (.aload_n 0, 1) := by decide +kernel
theorem zd_Machine_takeStep_168 : decode zb_Machine_takeStep 168 = .ok (.iload 5, 2) := by decide +kernel
theorem zd_Machine_takeStep_170 : decode zb_Machine_takeStep 170 = .ok (.iload_n 2, 1) := by decide +kernel
theorem zd_Machine_takeStep_171 : decode zb_Machine_takeStep 171 = .ok (.invokevirtual 73, 3) := by decide +kernel
theorem zd_Machine_takeStep_174 : decode zb_Machine_takeStep 174 = .ok (.return_, 1) := by decide +kernel
theorem zd_Machine_interruptBy_0 : decode zb_Machine_interruptBy 0 = .ok (.aload_n 0, 1) := by decide +kernel
theorem zd_Machine_interruptBy_1 : decode zb_Machine_interruptBy 1 = .ok (.invokevirtual 106, 3) := by decide +kernel
theorem zd_Machine_interruptBy_4 : decode zb_Machine_interruptBy 4 = .ok (.aload_n 0, 1) := by decide +kernel
theorem zd_Machine_interruptBy_5 : decode zb_Machine_interruptBy 5 = .ok (.getfield 30, 3) := by decide +kernel
theorem zd_Machine_interruptBy_8 : decode zb_Machine_interruptBy 8 = .ok (.invokevirtual 109, 3) := by decide +kernel
theorem zd_Machine_interruptBy_11 : decode zb_Machine_interruptBy 11 = .ok (.ifCond .eq 9, 3) := by decide +kernel
theorem zd_Machine_interruptBy_14 : decode zb_Machine_interruptBy 14 = .ok (.aload_n 0, 1) := by decide +kernel
theorem zd_Machine_interruptBy_15 : decode zb_Machine_interruptBy 15 = .ok (.iconst 2, 1) := by decide +kernel
theorem zd_Machine_interruptBy_16 : decode zb_Machine_interruptBy 16 = .ok (.putfield 15, 3) := by decide +kernel
theorem zd_Machine_interruptBy_19 : decode zb_Machine_interruptBy 19 = .ok (.return_, 1) := by decide +kernel
theorem zd_Machine_interruptBy_20 : decode zb_Machine_interruptBy 20 = .ok (.aload_n 0, 1) := by decide +kernel
theorem zd_Machine_interruptBy_21 : decode zb_Machine_interruptBy 21 = .ok (.getfield 42, 3) := by decide +kernel
theorem zd_Machine_interruptBy_24 : decode zb_Machine_interruptBy 24 = .ok (.iconst 3, 1) := by decide +kernel
theorem zd_Machine_interruptBy_25 : decode zb_Machine_interruptBy 25 = .ok (.dup2, 1) := by decide +kernel
theorem zd_Machine_interruptBy_26 : decode zb_Machine_interruptBy 26 = .ok (.iaload, 1) := by decide +kernel
theorem zd_Machine_interruptBy_27 : decode zb_Machine_interruptBy 27 = .ok (.iconst 1, 1) := by decide +kernel
theorem zd_Machine_interruptBy_28 : decode zb_Machine_interruptBy 28 = .ok (.iadd, 1) := by decide +kernel
theorem zd_Machine_interruptBy_29 : decode zb_Machine_interruptBy 29 = .ok (.iastore, 1) := by decide +kernel
theorem zd_Machine_interruptBy_30 : decode zb_Machine_interruptBy 30 = .ok (.aload_n 0, 1) := by decide +kernel
theorem zd_Machine_interruptBy_31 : decode zb_Machine_interruptBy 31 = .ok (.getfield 30, 3) := by decide +kernel
theorem zd_Machine_interruptBy_34 : decode zb_Machine_interruptBy 34 = .ok (.aload_n 0, 1) := by decide +kernel
theorem zd_Machine_interruptBy_35 : decode zb_Machine_interruptBy 35 = .ok (.getfield 18, 3) := by decide +kernel
theorem zd_Machine_interruptBy_38 : decode zb_Machine_interruptBy 38 = .ok (.invokevirtual 61, 3) := by decide +kernel
theorem zd_Machine_interruptBy_41 : decode zb_Machine_interruptBy 41 = .ok (.aload_n 0, 1) := by decide +kernel
theorem zd_Machine_interruptBy_42 : decode zb_Machine_interruptBy 42 = .ok (.getfield 34, 3) := by decide +kernel
theorem zd_Machine_interruptBy_45 : decode zb_Machine_interruptBy 45 = .ok (.iload_n 1, 1) := by decide +kernel
theorem zd_Machine_interruptBy_46 : decode zb_Machine_interruptBy 46 = .ok (.invokevirtual 113, 3) := by decide +kernel
theorem zd_Machine_interruptBy_49 : decode zb_Machine_interruptBy 49 = .ok (.invokevirtual 116, 3) := by decide +kernel
theorem zd_Machine_interruptBy_52 : decode zb_Machine_interruptBy 52 = .ok (.aload_n 0, 1) := by decide +kernel
theorem zd_Machine_interruptBy_53 : decode zb_Machine_interruptBy 53 = .ok (.getfield 18, 3) := by decide +kernel
theorem zd_Machine_interruptBy_56 : decode zb_Machine_interruptBy 56 = .ok (.iconst 0, 1) := by decide +kernel
theorem zd_Machine_interruptBy_57 : decode zb_Machine_interruptBy 57 = .ok (.bipush 64, 2) := by decide +kernel
theorem zd_Machine_interruptBy_59 : decode zb_Machine_interruptBy 59 = .ok (.iconst 4, 1) := by decide +kernel
theorem zd_Machine_interruptBy_60 : decode zb_Machine_interruptBy 60 = .ok (.iload_n 1, 1) := by decide +kernel
theorem zd_Machine_interruptBy_61 : decode zb_Machine_interruptBy 61 = .ok (.imul, 1) := by decide +kernel
theorem zd_Machine_interruptBy_62 : decode zb_Machine_interruptBy 62 = .ok (.iadd, 1) := by decide +kernel
theorem zd_Machine_interruptBy_63 : decode zb_Machine_interruptBy 63 = .ok (.i2l, 1) := by decide +kernel
theorem zd_Machine_interruptBy_64 : decode zb_Machine_interruptBy 64 = .ok (.iconst 0, 1) := by decide +kernel
theorem zd_Machine_interruptBy_65 : decode zb_Machine_interruptBy 65 = .ok (.invokevirtual 119, 3) := by decide +kernel
theorem zd_Machine_interruptBy_68 : decode zb_Machine_interruptBy 68 = .ok (.return_, 1) := by decide +kernel
theorem zd_Machine_settlePlace_0 : decode zb_Machine_settlePlace 0 = .ok (.aload_n 0, 1) := by decide +kernel
theorem zd_Machine_settlePlace_1 : decode zb_Machine_settlePlace 1 = .ok (.getfield 9, 3) := by decide +kernel
theorem zd_Machine_settlePlace_4 : decode zb_Machine_settlePlace 4 = .ok (.istore_n 3, 1) := by decide +kernel
theorem zd_Machine_settlePlace_5 : decode zb_Machine_settlePlace 5 = .ok (.aload_n 0, 1) := by decide +kernel
theorem zd_Machine_settlePlace_6 : decode zb_Machine_settlePlace 6 = .ok (.invokevirtual 106, 3) := by decide +kernel
theorem zd_Machine_settlePlace_9 : decode zb_Machine_settlePlace 9 = .ok (.aload_n 0, 1) := by decide +kernel
theorem zd_Machine_settlePlace_10 : decode zb_Machine_settlePlace 10 = .ok (.getfield 38, 3) := by decide +kernel
theorem zd_Machine_settlePlace_13 : decode zb_Machine_settlePlace 13 = .ok (.getfield 123, 3) := by decide +kernel
theorem zd_Machine_settlePlace_16 : decode zb_Machine_settlePlace 16 = .ok (.ifCond .ne 19, 3) := by decide +kernel
theorem zd_Machine_settlePlace_19 : decode zb_Machine_settlePlace 19 = .ok (.iload_n 3, 1) := by decide +kernel
theorem zd_Machine_settlePlace_20 : decode zb_Machine_settlePlace 20 = .ok (.iconst (-1), 1) := by decide +kernel
theorem zd_Machine_settlePlace_21 : decode zb_Machine_settlePlace 21 = .ok (.if_icmp .eq 37, 3) := by decide +kernel
theorem zd_Machine_settlePlace_24 : decode zb_Machine_settlePlace 24 = .ok (.aload_n 0, 1) := by decide +kernel
theorem zd_Machine_settlePlace_25 : decode zb_Machine_settlePlace 25 = .ok (.getfield 18, 3) := by decide +kernel
theorem zd_Machine_settlePlace_28 : decode zb_Machine_settlePlace 28 = .ok (.iload_n 3, 1) := by decide +kernel
theorem zd_Machine_settlePlace_29 : decode zb_Machine_settlePlace 29 = .ok (.invokevirtual 85, 3) := by decide +kernel
theorem zd_Machine_settlePlace_32 : decode zb_Machine_settlePlace 32 = .ok (.goto 26, 3) := by decide +kernel
theorem zd_Machine_settlePlace_35 : decode zb_Machine_settlePlace 35 = .ok (.iload_n 2, 1) := by decide +kernel
theorem zd_Machine_settlePlace_36 : decode zb_Machine_settlePlace 36 = .ok (.ifCond .eq 22, 3) := by decide +kernel
theorem zd_Machine_settlePlace_39 : decode zb_Machine_settlePlace 39 = .ok (.aload_n 0, 1) := by decide +kernel
theorem zd_Machine_settlePlace_40 : decode zb_Machine_settlePlace 40 = .ok (.aload_n 0, 1) := by decide +kernel
theorem zd_Machine_settlePlace_41 : decode zb_Machine_settlePlace 41 = .ok (.getfield 18, 3) := by decide +kernel
theorem zd_Machine_settlePlace_44 : decode zb_Machine_settlePlace 44 = .ok (.invokevirtual 61, 3) := by decide +kernel
theorem zd_Machine_settlePlace_47 : decode zb_Machine_settlePlace 47 = .ok (.putfield 9, 3) := by decide +kernel
theorem zd_Machine_settlePlace_50 : decode zb_Machine_settlePlace 50 = .ok (.aload_n 0, 1) := by decide +kernel
theorem zd_Machine_settlePlace_51 : decode zb_Machine_settlePlace 51 = .ok (.getfield 18, 3) := by decide +kernel
theorem zd_Machine_settlePlace_54 : decode zb_Machine_settlePlace 54 = .ok (.iload_n 1, 1) := by decide +kernel
theorem zd_Machine_settlePlace_55 : decode zb_Machine_settlePlace 55 = .ok (.invokevirtual 85, 3) := by decide +kernel
theorem zd_Machine_settlePlace_58 : decode zb_Machine_settlePlace 58 = .ok (.return_, 1) := by decide +kernel
theorem zd_Machine_failWith_0 : decode zb_Machine_failWith 0 = .ok (.aload_n 0, 1) := by decide +kernel
theorem zd_Machine_failWith_1 : decode zb_Machine_failWith 1 = .ok (.getfield 42, 3) := by decide +kernel
theorem zd_Machine_failWith_4 : decode zb_Machine_failWith 4 = .ok (.iconst 2, 1) := by decide +kernel
theorem zd_Machine_failWith_5 : decode zb_Machine_failWith 5 = .ok (.dup2, 1) := by decide +kernel
theorem zd_Machine_failWith_6 : decode zb_Machine_failWith 6 = .ok (.iaload, 1) := by decide +kernel
theorem zd_Machine_failWith_7 : decode zb_Machine_failWith 7 = .ok (.iconst 1, 1) := by decide +kernel
theorem zd_Machine_failWith_8 : decode zb_Machine_failWith 8 = .ok (.iadd, 1) := by decide +kernel
theorem zd_Machine_failWith_9 : decode zb_Machine_failWith 9 = .ok (.iastore, 1) := by decide +kernel
theorem zd_Machine_failWith_10 : decode zb_Machine_failWith 10 = .ok (.aload_n 0, 1) := by decide +kernel
theorem zd_Machine_failWith_11 : decode zb_Machine_failWith 11 = .ok (.iload_n 1, 1) := by decide +kernel
theorem zd_Machine_failWith_12 : decode zb_Machine_failWith 12 = .ok (.putfield 126, 3) := by decide +kernel
theorem zd_Machine_failWith_15 : decode zb_Machine_failWith 15 = .ok (.aload_n 0, 1) := by decide +kernel
theorem zd_Machine_failWith_16 : decode zb_Machine_failWith 16 = .ok (.iload_n 2, 1) := by decide +kernel
theorem zd_Machine_failWith_17 : decode zb_Machine_failWith 17 = .ok (.putfield 129, 3) := by decide +kernel
theorem zd_Machine_failWith_20 : decode zb_Machine_failWith 20 = .ok (.aload_n 0, 1) := by decide +kernel
theorem zd_Machine_failWith_21 : decode zb_Machine_failWith 21 = .ok (.invokevirtual 106, 3) := by decide +kernel
theorem zd_Machine_failWith_24 : decode zb_Machine_failWith 24 = .ok (.aload_n 0, 1) := by decide +kernel
theorem zd_Machine_failWith_25 : decode zb_Machine_failWith 25 = .ok (.getfield 30, 3) := by decide +kernel
theorem zd_Machine_failWith_28 : decode zb_Machine_failWith 28 = .ok (.invokevirtual 109, 3) := by decide +kernel
theorem zd_Machine_failWith_31 : decode zb_Machine_failWith 31 = .ok (.ifCond .eq 17, 3) := by decide +kernel
theorem zd_Machine_failWith_34 : decode zb_Machine_failWith 34 = .ok (.aload_n 0, 1) := by decide +kernel
theorem zd_Machine_failWith_35 : decode zb_Machine_failWith 35 = .ok (.iconst 2, 1) := by decide +kernel
theorem zd_Machine_failWith_36 : decode zb_Machine_failWith 36 = .ok (.putfield 15, 3) := by decide +kernel
theorem zd_Machine_failWith_39 : decode zb_Machine_failWith 39 = .ok (.aload_n 0, 1) := by decide +kernel
theorem zd_Machine_failWith_40 : decode zb_Machine_failWith 40 = .ok (.getfield 18, 3) := by decide +kernel
theorem zd_Machine_failWith_43 : decode zb_Machine_failWith 43 = .ok (.iload_n 2, 1) := by decide +kernel
theorem zd_Machine_failWith_44 : decode zb_Machine_failWith 44 = .ok (.invokevirtual 85, 3) := by decide +kernel
theorem zd_Machine_failWith_47 : decode zb_Machine_failWith 47 = .ok (.return_, 1) := by decide +kernel
theorem zd_Machine_failWith_48 : decode zb_Machine_failWith 48 = .ok (.aload_n 0, 1) := by decide +kernel
theorem zd_Machine_failWith_49 : decode zb_Machine_failWith 49 = .ok (.getfield 30, 3) := by decide +kernel
theorem zd_Machine_failWith_52 : decode zb_Machine_failWith 52 = .ok (.iload_n 2, 1) := by decide +kernel
theorem zd_Machine_failWith_53 : decode zb_Machine_failWith 53 = .ok (.bipush 15, 2) := by decide +kernel
theorem zd_Machine_failWith_55 : decode zb_Machine_failWith 55 = .ok (.invokevirtual 116, 3) := by decide +kernel
theorem zd_Machine_failWith_58 : decode zb_Machine_failWith 58 = .ok (.aload_n 0, 1) := by decide +kernel
theorem zd_Machine_failWith_59 : decode zb_Machine_failWith 59 = .ok (.getfield 18, 3) := by decide +kernel
theorem zd_Machine_failWith_62 : decode zb_Machine_failWith 62 = .ok (.iconst 0, 1) := by decide +kernel
theorem zd_Machine_failWith_63 : decode zb_Machine_failWith 63 = .ok (.iconst 4, 1) := by decide +kernel
theorem zd_Machine_failWith_64 : decode zb_Machine_failWith 64 = .ok (.iload_n 1, 1) := by decide +kernel
theorem zd_Machine_failWith_65 : decode zb_Machine_failWith 65 = .ok (.imul, 1) := by decide +kernel
theorem zd_Machine_failWith_66 : decode zb_Machine_failWith 66 = .ok (.i2l, 1) := by decide +kernel
theorem zd_Machine_failWith_67 : decode zb_Machine_failWith 67 = .ok (.iconst 0, 1) := by decide +kernel
theorem zd_Machine_failWith_68 : decode zb_Machine_failWith 68 = .ok (.invokevirtual 119, 3) := by decide +kernel
theorem zd_Machine_failWith_71 : decode zb_Machine_failWith 71 = .ok (.return_, 1) := by decide +kernel
theorem zd_PS_init_0 : decode zb_PS_init 0 = .ok (.aload_n 0, 1) := by decide +kernel
theorem zd_PS_init_1 : decode zb_PS_init 1 = .ok (.invokespecial 1, 3) := by decide +kernel
theorem zd_PS_init_4 : decode zb_PS_init 4 = .ok (.aload_n 0, 1) := by decide +kernel
theorem zd_PS_init_5 : decode zb_PS_init 5 = .ok (.new 7, 3) := by decide +kernel
theorem zd_PS_init_8 : decode zb_PS_init 8 = .ok (.dup, 1) := by decide +kernel
theorem zd_PS_init_9 : decode zb_PS_init 9 = .ok (.invokespecial 9, 3) := by decide +kernel
theorem zd_PS_init_12 : decode zb_PS_init 12 = .ok (.putfield 10, 3) := by decide +kernel
theorem zd_PS_init_15 : decode zb_PS_init 15 = .ok (.aload_n 0, 1) := by decide +kernel
theorem zd_PS_init_16 : decode zb_PS_init 16 = .ok (.new 16, 3) := by decide +kernel
theorem zd_PS_init_19 : decode zb_PS_init 19 = .ok (.dup, 1) := by decide +kernel
theorem zd_PS_init_20 : decode zb_PS_init 20 = .ok (.invokespecial 18, 3) := by decide +kernel
theorem zd_PS_init_23 : decode zb_PS_init 23 = .ok (.putfield 19, 3) := by decide +kernel
theorem zd_PS_init_26 : decode zb_PS_init 26 = .ok (.aload_n 0, 1) := by decide +kernel
theorem zd_PS_init_27 : decode zb_PS_init 27 = .ok (.new 23, 3) := by decide +kernel
theorem zd_PS_init_30 : decode zb_PS_init 30 = .ok (.dup, 1) := by decide +kernel
theorem zd_PS_init_31 : decode zb_PS_init 31 = .ok (.aload_n 0, 1) := by decide +kernel
theorem zd_PS_init_32 : decode zb_PS_init 32 = .ok (.getfield 10, 3) := by decide +kernel
theorem zd_PS_init_35 : decode zb_PS_init 35 = .ok (.invokespecial 25, 3) := by decide +kernel
theorem zd_PS_init_38 : decode zb_PS_init 38 = .ok (.putfield 28, 3) := by decide +kernel
theorem zd_PS_init_41 : decode zb_PS_init 41 = .ok (.aload_n 0, 1) := by decide +kernel
theorem zd_PS_init_42 : decode zb_PS_init 42 = .ok (.new 32, 3) := by decide +kernel
theorem zd_PS_init_45 : decode zb_PS_init 45 = .ok (.dup, 1) := by decide +kernel
theorem zd_PS_init_46 : decode zb_PS_init 46 = .ok (.invokespecial 34, 3) := by decide +kernel
theorem zd_PS_init_49 : decode zb_PS_init 49 = .ok (.putfield 35, 3) := by decide +kernel
theorem zd_PS_init_52 : decode zb_PS_init 52 = .ok (.aload_n 0, 1) := by decide +kernel
theorem zd_PS_init_53 : decode zb_PS_init 53 = .ok (.new 39, 3) := by decide +kernel
theorem zd_PS_init_56 : decode zb_PS_init 56 = .ok (.dup, 1) := by decide +kernel
theorem zd_PS_init_57 : decode zb_PS_init 57 = .ok (.invokespecial 41, 3) := by decide +kernel
theorem zd_PS_init_60 : decode zb_PS_init 60 = .ok (.putfield 42, 3) := by decide +kernel
theorem zd_PS_init_63 : decode zb_PS_init 63 = .ok (.aload_n 0, 1) := by decide +kernel
theorem zd_PS_init_64 : decode zb_PS_init 64 = .ok (.new 46, 3) := by decide +kernel
theorem zd_PS_init_67 : decode zb_PS_init 67 = .ok (.dup, 1) := by decide +kernel
theorem zd_PS_init_68 : decode zb_PS_init 68 = .ok (.invokespecial 48, 3) := by decide +kernel
theorem zd_PS_init_71 : decode zb_PS_init 71 = .ok (.putfield 49, 3) := by decide +kernel
theorem zd_PS_init_74 : decode zb_PS_init 74 = .ok (.aload_n 0, 1) := by decide +kernel
theorem zd_PS_init_75 : decode zb_PS_init 75 = .ok (.bipush 9, 2) := by decide +kernel
theorem zd_PS_init_77 : decode zb_PS_init 77 = .ok (.newarray .int, 2) := by decide +kernel
theorem zd_PS_init_79 : decode zb_PS_init 79 = .ok (.putfield 53, 3) := by decide +kernel
theorem zd_PS_init_82 : decode zb_PS_init 82 = .ok (.new 57, 3) := by decide +kernel
theorem zd_PS_init_85 : decode zb_PS_init 85 = .ok (.dup, 1) := by decide +kernel
theorem zd_PS_init_86 : decode zb_PS_init 86 = .ok (.aload_n 0, 1) := by decide +kernel
theorem zd_PS_init_87 : decode zb_PS_init 87 = .ok (.getfield 10, 3) := by decide +kernel
theorem zd_PS_init_90 : decode zb_PS_init 90 = .ok (.aload_n 0, 1) := by decide +kernel
theorem zd_PS_init_91 : decode zb_PS_init 91 = .ok (.getfield 19, 3) := by decide +kernel
theorem zd_PS_init_94 : decode zb_PS_init 94 = .ok (.aload_n 0, 1) := by decide +kernel
theorem zd_PS_init_95 : decode zb_PS_init 95 = .ok (.getfield 28, 3) := by decide +kernel
theorem zd_PS_init_98 : decode zb_PS_init 98 = .ok (.aload_n 0, 1) := by decide +kernel
theorem zd_PS_init_99 : decode zb_PS_init 99 = .ok (.getfield 35, 3) := by decide +kernel
theorem zd_PS_init_102 : decode zb_PS_init 102 = .ok (.aload_n 0, 1) := by decide +kernel
theorem zd_PS_init_103 : decode zb_PS_init 103 = .ok (.getfield 42, 3) := by decide +kernel
theorem zd_PS_init_106 : decode zb_PS_init 106 = .ok (.aload_n 0, 1) := by decide +kernel
theorem zd_PS_init_107 : decode zb_PS_init 107 = .ok (.getfield 53, 3) := by decide +kernel
theorem zd_PS_init_110 : decode zb_PS_init 110 = .ok (.invokespecial 59, 3) := by decide +kernel
theorem zd_PS_init_113 : decode zb_PS_init 113 = .ok (.astore_n 1, 1) := by decide +kernel
theorem zd_PS_init_114 : decode zb_PS_init 114 = .ok (.aload_n 0, 1) := by decide +kernel
theorem zd_PS_init_115 : decode zb_PS_init 115 = .ok (.new 62, 3) := by decide +kernel
theorem zd_PS_init_118 : decode zb_PS_init 118 = .ok (.dup, 1) := by decide +kernel
theorem zd_PS_init_119 : decode zb_PS_init 119 = .ok (.aload_n 0, 1) := by decide +kernel
theorem zd_PS_init_120 : decode zb_PS_init 120 = .ok (.getfield 10, 3) := by decide +kernel
theorem zd_PS_init_123 : decode zb_PS_init 123 = .ok (.aload_n 0, 1) := by decide +kernel
theorem zd_PS_init_124 : decode zb_PS_init 124 = .ok (.getfield 19, 3) := by decide +kernel
theorem zd_PS_init_127 : decode zb_PS_init 127 = .ok (.aload_n 0, 1) := by decide +kernel
theorem zd_PS_init_128 : decode zb_PS_init 128 = .ok (.getfield 35, 3) := by decide +kernel
theorem zd_PS_init_131 : decode zb_PS_init 131 = .ok (.aload_n 0, 1) := by decide +kernel
theorem zd_PS_init_132 : decode zb_PS_init 132 = .ok (.getfield 42, 3) := by decide +kernel
theorem zd_PS_init_135 : decode zb_PS_init 135 = .ok (.aload_n 0, 1) := by decide +kernel
theorem zd_PS_init_136 : decode zb_PS_init 136 = .ok (.getfield 49, 3) := by decide +kernel
theorem zd_PS_init_139 : decode zb_PS_init 139 = .ok (.aload_n 1, 1) := by decide +kernel
theorem zd_PS_init_140 : decode zb_PS_init 140 = .ok (.aload_n 0, 1) := by decide +kernel
theorem zd_PS_init_141 : decode zb_PS_init 141 = .ok (.getfield 53, 3) := by decide +kernel
theorem zd_PS_init_144 : decode zb_PS_init 144 = .ok (.invokespecial 64, 3) := by decide +kernel
theorem zd_PS_init_147 : decode zb_PS_init 147 = .ok (.putfield 67, 3) := by decide +kernel
theorem zd_PS_init_150 : decode zb_PS_init 150 = .ok (.return_, 1) := by decide +kernel
theorem zd_PS_register_0 : decode zb_PS_register 0 = .ok (.iload_n 1, 1) := by decide +kernel
theorem zd_PS_register_1 : decode zb_PS_register 1 = .ok (.iconst 1, 1) := by decide +kernel
theorem zd_PS_register_2 : decode zb_PS_register 2 = .ok (.if_icmp .lt 9, 3) := by decide +kernel
theorem zd_PS_register_5 : decode zb_PS_register 5 = .ok (.iload_n 1, 1) := by decide +kernel
theorem zd_PS_register_6 : decode zb_PS_register 6 = .ok (.bipush 64, 2) := by decide +kernel
theorem zd_PS_register_8 : decode zb_PS_register 8 = .ok (.if_icmp .le 13, 3) := by decide +kernel
theorem zd_PS_register_11 : decode zb_PS_register 11 = .ok (.new 71, 3) := by decide +kernel
theorem zd_PS_register_14 : decode zb_PS_register 14 = .ok (.dup, 1) := by decide +kernel
theorem zd_PS_register_15 : decode zb_PS_register 15 = .ok (.ldc 73, 2) := by decide +kernel
theorem zd_PS_register_17 : decode zb_PS_register 17 = .ok (.invokespecial 75, 3) := by decide +kernel
theorem zd_PS_register_20 : decode zb_PS_register 20 = .ok (.athrow, 1) := by decide +kernel
theorem zd_PS_register_21 : decode zb_PS_register 21 = .ok (.aload_n 0, 1) := by decide +kernel
theorem zd_PS_register_22 : decode zb_PS_register 22 = .ok (.getfield 10, 3) := by decide +kernel
theorem zd_PS_register_25 : decode zb_PS_register 25 = .ok (.getfield 78, 3) := by decide +kernel
theorem zd_PS_register_28 : decode zb_PS_register 28 = .ok (.bipush 24, 2) := by decide +kernel
theorem zd_PS_register_30 : decode zb_PS_register 30 = .ok (.if_icmp .lt 13, 3) := by decide +kernel
theorem zd_PS_register_33 : decode zb_PS_register 33 = .ok (.new 82, 3) := by decide +kernel
theorem zd_PS_register_36 : decode zb_PS_register 36 = .ok (.dup, 1) := by decide +kernel
theorem zd_PS_register_37 : decode zb_PS_register 37 = .ok (.ldc 84, 2) := by decide +kernel
theorem zd_PS_register_39 : decode zb_PS_register 39 = .ok (.invokespecial 86, 3) := by decide +kernel
theorem zd_PS_register_42 : decode zb_PS_register 42 = .ok (.athrow, 1) := by decide +kernel
theorem zd_PS_register_43 : decode zb_PS_register 43 = .ok (.aload_n 0, 1) := by decide +kernel
theorem zd_PS_register_44 : decode zb_PS_register 44 = .ok (.getfield 10, 3) := by decide +kernel
theorem zd_PS_register_47 : decode zb_PS_register 47 = .ok (.iload_n 1, 1) := by decide +kernel
theorem zd_PS_register_48 : decode zb_PS_register 48 = .ok (.invokevirtual 87, 3) := by decide +kernel
theorem zd_PS_register_51 : decode zb_PS_register 51 = .ok (.ireturn, 1) := by decide +kernel
theorem zd_PS_constant_0 : decode zb_PS_constant 0 = .ok (.aload_n 0, 1) := by decide +kernel
theorem zd_PS_constant_1 : decode zb_PS_constant 1 = .ok (.getfield 28, 3) := by decide +kernel
theorem zd_PS_constant_4 : decode zb_PS_constant 4 = .ok (.getfield 91, 3) := by decide +kernel
theorem zd_PS_constant_7 : decode zb_PS_constant 7 = .ok (.bipush 16, 2) := by decide +kernel
theorem zd_PS_constant_9 : decode zb_PS_constant 9 = .ok (.if_icmp .lt 13, 3) := by decide +kernel
theorem zd_PS_constant_12 : decode zb_PS_constant 12 = .ok (.new 82, 3) := by decide +kernel
theorem zd_PS_constant_15 : decode zb_PS_constant 15 = .ok (.dup, 1) := by decide +kernel
theorem zd_PS_constant_16 : decode zb_PS_constant 16 = .ok (.ldc 94, 2) := by decide +kernel
theorem zd_PS_constant_18 : decode zb_PS_constant 18 = .ok (.invokespecial 86, 3) := by decide +kernel
theorem zd_PS_constant_21 : decode zb_PS_constant 21 = .ok (.athrow, 1) := by decide +kernel
theorem zd_PS_constant_22 : decode zb_PS_constant 22 = .ok (.aload_n 0, 1) := by decide +kernel
theorem zd_PS_constant_23 : decode zb_PS_constant 23 = .ok (.getfield 28, 3) := by decide +kernel
theorem zd_PS_constant_26 : decode zb_PS_constant 26 = .ok (.lload_n 1, 1) := by decide +kernel
theorem zd_PS_constant_27 : decode zb_PS_constant 27 = .ok (.invokevirtual 96, 3) := by decide +kernel
theorem zd_PS_constant_30 : decode zb_PS_constant 30 = .ok (.ireturn, 1) := by decide +kernel
theorem zd_PS_field_0 : decode zb_PS_field 0 = .ok (.iload_n 1, 1) := by decide +kernel
theorem zd_PS_field_1 : decode zb_PS_field 1 = .ok (.ifCond .lt 14, 3) := by decide +kernel
theorem zd_PS_field_4 : decode zb_PS_field 4 = .ok (.iload_n 2, 1) := by decide +kernel
theorem zd_PS_field_5 : decode zb_PS_field 5 = .ok (.bipush 16, 2) := by decide +kernel
theorem zd_PS_field_7 : decode zb_PS_field 7 = .ok (.if_icmp .ge 8, 3) := by decide +kernel
theorem zd_PS_field_10 : decode zb_PS_field 10 = .ok (.iload_n 1, 1) := by decide +kernel
theorem zd_PS_field_11 : decode zb_PS_field 11 = .ok (.iload_n 2, 1) := by decide +kernel
theorem zd_PS_field_12 : decode zb_PS_field 12 = .ok (.if_icmp .le 13, 3) := by decide +kernel
theorem zd_PS_field_15 : decode zb_PS_field 15 = .ok (.new 71, 3) := by decide +kernel
theorem zd_PS_field_18 : decode zb_PS_field 18 = .ok (.dup, 1) := by decide +kernel
theorem zd_PS_field_19 : decode zb_PS_field 19 = .ok (.ldc 100, 2) := by decide +kernel
theorem zd_PS_field_21 : decode zb_PS_field 21 = .ok (.invokespecial 75, 3) := by decide +kernel
theorem zd_PS_field_24 : decode zb_PS_field 24 = .ok (.athrow, 1) := by decide +kernel
theorem zd_PS_field_25 : decode zb_PS_field 25 = .ok (.aload_n 0, 1) := by decide +kernel
theorem zd_PS_field_26 : decode zb_PS_field 26 = .ok (.getfield 28, 3) := by decide +kernel
theorem zd_PS_field_29 : decode zb_PS_field 29 = .ok (.getfield 102, 3) := by decide +kernel
theorem zd_PS_field_32 : decode zb_PS_field 32 = .ok (.bipush 16, 2) := by decide +kernel
theorem zd_PS_field_34 : decode zb_PS_field 34 = .ok (.if_icmp .lt 13, 3) := by decide +kernel
theorem zd_PS_field_37 : decode zb_PS_field 37 = .ok (.new 82, 3) := by decide +kernel
theorem zd_PS_field_40 : decode zb_PS_field 40 = .ok (.dup, 1) := by decide +kernel
theorem zd_PS_field_41 : decode zb_PS_field 41 = .ok (.ldc 105, 2) := by decide +kernel
theorem zd_PS_field_43 : decode zb_PS_field 43 = .ok (.invokespecial 86, 3) := by decide +kernel
theorem zd_PS_field_46 : decode zb_PS_field 46 = .ok (.athrow, 1) := by decide +kernel
theorem zd_PS_field_47 : decode zb_PS_field 47 = .ok (.aload_n 0, 1) := by decide +kernel
theorem zd_PS_field_48 : decode zb_PS_field 48 = .ok (.getfield 28, 3) := by decide +kernel
theorem zd_PS_field_51 : decode zb_PS_field 51 = .ok (.iload_n 1, 1) := by decide +kernel
theorem zd_PS_field_52 : decode zb_PS_field 52 = .ok (.iload_n 2, 1) := by decide +kernel
theorem zd_PS_field_53 : decode zb_PS_field 53 = .ok (.iload_n 3, 1) := by decide +kernel
theorem zd_PS_field_54 : decode zb_PS_field 54 = .ok (.invokevirtual 107, 3) := by decide +kernel
theorem zd_PS_field_57 : decode zb_PS_field 57 = .ok (.ireturn, 1) := by decide +kernel
theorem zd_PS_transfer_0 : decode zb_PS_transfer 0 = .ok (.iload_n 1, 1) := by decide +kernel
theorem zd_PS_transfer_1 : decode zb_PS_transfer 1 = .ok (.ifCond .lt 9, 3) := by decide +kernel
theorem zd_PS_transfer_4 : decode zb_PS_transfer 4 = .ok (.iload_n 1, 1) := by decide +kernel
theorem zd_PS_transfer_5 : decode zb_PS_transfer 5 = .ok (.bipush 22, 2) := by decide +kernel
theorem zd_PS_transfer_7 : decode zb_PS_transfer 7 = .ok (.if_icmp .le 13, 3) := by decide +kernel
theorem zd_PS_transfer_10 : decode zb_PS_transfer 10 = .ok (.new 71, 3) := by decide +kernel
theorem zd_PS_transfer_13 : decode zb_PS_transfer 13 = .ok (.dup, 1) := by decide +kernel
theorem zd_PS_transfer_14 : decode zb_PS_transfer 14 = .ok (.ldc 111, 2) := by decide +kernel
theorem zd_PS_transfer_16 : decode zb_PS_transfer 16 = .ok (.invokespecial 75, 3) := by decide +kernel
theorem zd_PS_transfer_19 : decode zb_PS_transfer 19 = .ok (.athrow, 1) := by decide +kernel
theorem zd_PS_transfer_20 : decode zb_PS_transfer 20 = .ok (.aload_n 0, 1) := by decide +kernel
theorem zd_PS_transfer_21 : decode zb_PS_transfer 21 = .ok (.getfield 28, 3) := by decide +kernel
theorem zd_PS_transfer_24 : decode zb_PS_transfer 24 = .ok (.iload_n 2, 1) := by decide +kernel
theorem zd_PS_transfer_25 : decode zb_PS_transfer 25 = .ok (.invokevirtual 113, 3) := by decide +kernel
theorem zd_PS_transfer_28 : decode zb_PS_transfer 28 = .ok (.ifCond .eq 14, 3) := by decide +kernel
theorem zd_PS_transfer_31 : decode zb_PS_transfer 31 = .ok (.aload_n 0, 1) := by decide +kernel
theorem zd_PS_transfer_32 : decode zb_PS_transfer 32 = .ok (.getfield 28, 3) := by decide +kernel
theorem zd_PS_transfer_35 : decode zb_PS_transfer 35 = .ok (.iload_n 3, 1) := by decide +kernel
theorem zd_PS_transfer_36 : decode zb_PS_transfer 36 = .ok (.invokevirtual 113, 3) := by decide +kernel
theorem zd_PS_transfer_39 : decode zb_PS_transfer 39 = .ok (.ifCond .ne 13, 3) := by decide +kernel
theorem zd_PS_transfer_42 : decode zb_PS_transfer 42 = .ok (.new 71, 3) := by decide +kernel
theorem zd_PS_transfer_45 : decode zb_PS_transfer 45 = .ok (.dup, 1) := by decide +kernel
theorem zd_PS_transfer_46 : decode zb_PS_transfer 46 = .ok (.ldc 117, 2) := by decide +kernel
theorem zd_PS_transfer_48 : decode zb_PS_transfer 48 = .ok (.invokespecial 75, 3) := by decide +kernel
theorem zd_PS_transfer_51 : decode zb_PS_transfer 51 = .ok (.athrow, 1) := by decide +kernel
theorem zd_PS_transfer_52 : decode zb_PS_transfer 52 = .ok (.aload_n 0, 1) := by decide +kernel
theorem zd_PS_transfer_53 : decode zb_PS_transfer 53 = .ok (.getfield 10, 3) := by decide +kernel
theorem zd_PS_transfer_56 : decode zb_PS_transfer 56 = .ok (.iload 4, 2) := by decide +kernel
theorem zd_PS_transfer_58 : decode zb_PS_transfer 58 = .ok (.invokevirtual 119, 3) := by decide +kernel
theorem zd_PS_transfer_61 : decode zb_PS_transfer 61 = .ok (.ifCond .ne 13, 3) := by decide +kernel
theorem zd_PS_transfer_64 : decode zb_PS_transfer 64 = .ok (.new 71, 3) := by decide +kernel
theorem zd_PS_transfer_67 : decode zb_PS_transfer 67 = .ok (.dup, 1) := by decide +kernel
theorem zd_PS_transfer_68 : decode zb_PS_transfer 68 = .ok (.ldc 120, 2) := by decide +kernel
theorem zd_PS_transfer_70 : decode zb_PS_transfer 70 = .ok (.invokespecial 75, 3) := by decide +kernel
theorem zd_PS_transfer_73 : decode zb_PS_transfer 73 = .ok (.athrow, 1) := by decide +kernel
theorem zd_PS_transfer_74 : decode zb_PS_transfer 74 = .ok (.aload_n 0, 1) := by decide +kernel
theorem zd_PS_transfer_75 : decode zb_PS_transfer 75 = .ok (.getfield 35, 3) := by decide +kernel
theorem zd_PS_transfer_78 : decode zb_PS_transfer 78 = .ok (.getfield 122, 3) := by decide +kernel
theorem zd_PS_transfer_81 : decode zb_PS_transfer 81 = .ok (.sipush 200, 3) := by decide +kernel
theorem zd_PS_transfer_84 : decode zb_PS_transfer 84 = .ok (.if_icmp .lt 13, 3) := by decide +kernel
theorem zd_PS_transfer_87 : decode zb_PS_transfer 87 = .ok (.new 82, 3) := by decide +kernel
theorem zd_PS_transfer_90 : decode zb_PS_transfer 90 = .ok (.dup, 1) := by decide +kernel
theorem zd_PS_transfer_91 : decode zb_PS_transfer 91 = .ok (.ldc 125, 2) := by decide +kernel
theorem zd_PS_transfer_93 : decode zb_PS_transfer 93 = .ok (.invokespecial 86, 3) := by decide +kernel
theorem zd_PS_transfer_96 : decode zb_PS_transfer 96 = .ok (.athrow, 1) := by decide +kernel
theorem zd_PS_transfer_97 : decode zb_PS_transfer 97 = .ok (.aload_n 0, 1) := by decide +kernel
theorem zd_PS_transfer_98 : decode zb_PS_transfer 98 = .ok (.getfield 35, 3) := by decide +kernel
theorem zd_PS_transfer_101 : decode zb_PS_transfer 101 = .ok (.iload_n 1, 1) := by decide +kernel
theorem zd_PS_transfer_102 : decode zb_PS_transfer 102 = .ok (.iload_n 2, 1) := by decide +kernel
theorem zd_PS_transfer_103 : decode zb_PS_transfer 103 = .ok (.iload_n 3, 1) := by decide +kernel
theorem zd_PS_transfer_104 : decode zb_PS_transfer 104 = .ok (.iload 4, 2) := by decide +kernel
theorem zd_PS_transfer_106 : decode zb_PS_transfer 106 = .ok (.invokevirtual 127, 3) := by decide +kernel
theorem zd_PS_transfer_109 : decode zb_PS_transfer 109 = .ok (.ireturn, 1) := by decide +kernel
theorem zd_PS_instruction_0 : decode zb_PS_instruction 0 = .ok (.iload_n 1, 1) := by decide +kernel
theorem zd_PS_instruction_1 : decode zb_PS_instruction 1 = .ok (.ifCond .lt 19, 3) := by decide +kernel
theorem zd_PS_instruction_4 : decode zb_PS_instruction 4 = .ok (.iload_n 1, 1) := by decide +kernel
theorem zd_PS_instruction_5 : decode zb_PS_instruction 5 = .ok (.ldc 131, 2) := by decide +kernel
theorem zd_PS_instruction_7 : decode zb_PS_instruction 7 = .ok (.if_icmp .gt 13, 3) := by decide +kernel
theorem zd_PS_instruction_10 : decode zb_PS_instruction 10 = .ok (.iload_n 2, 1) := by decide +kernel
theorem zd_PS_instruction_11 : decode zb_PS_instruction 11 = .ok (.ifCond .lt 9, 3) := by decide +kernel
theorem zd_PS_instruction_14 : decode zb_PS_instruction 14 = .ok (.iload_n 2, 1) := by decide +kernel
theorem zd_PS_instruction_15 : decode zb_PS_instruction 15 = .ok (.ldc 131, 2) := by decide +kernel
theorem zd_PS_instruction_17 : decode zb_PS_instruction 17 = .ok (.if_icmp .le 13, 3) := by decide +kernel
theorem zd_PS_instruction_20 : decode zb_PS_instruction 20 = .ok (.new 71, 3) := by decide +kernel
theorem zd_PS_instruction_23 : decode zb_PS_instruction 23 = .ok (.dup, 1) := by decide +kernel
theorem zd_PS_instruction_24 : decode zb_PS_instruction 24 = .ok (.ldc 132, 2) := by decide +kernel
theorem zd_PS_instruction_26 : decode zb_PS_instruction 26 = .ok (.invokespecial 75, 3) := by decide +kernel
theorem zd_PS_instruction_29 : decode zb_PS_instruction 29 = .ok (.athrow, 1) := by decide +kernel
theorem zd_PS_instruction_30 : decode zb_PS_instruction 30 = .ok (.iload_n 2, 1) := by decide +kernel
theorem zd_PS_instruction_31 : decode zb_PS_instruction 31 = .ok (.iload_n 1, 1) := by decide +kernel
theorem zd_PS_instruction_32 : decode zb_PS_instruction 32 = .ok (.iconst (-1), 1) := by decide +kernel
theorem zd_PS_instruction_33 : decode zb_PS_instruction 33 = .ok (.ixor, 1) := by decide +kernel
theorem zd_PS_instruction_34 : decode zb_PS_instruction 34 = .ok (.iand, 1) := by decide +kernel
theorem zd_PS_instruction_35 : decode zb_PS_instruction 35 = .ok (.ifCond .eq 13, 3) := by decide +kernel
theorem zd_PS_instruction_38 : decode zb_PS_instruction 38 = .ok (.new 71, 3) := by decide +kernel
theorem zd_PS_instruction_41 : decode zb_PS_instruction 41 = .ok (.dup, 1) := by decide +kernel
theorem zd_PS_instruction_42 : decode zb_PS_instruction 42 = .ok (.ldc 134, 2) := by decide +kernel
theorem zd_PS_instruction_44 : decode zb_PS_instruction 44 = .ok (.invokespecial 75, 3) := by decide +kernel
theorem zd_PS_instruction_47 : decode zb_PS_instruction 47 = .ok (.athrow, 1) := by decide +kernel
theorem zd_PS_instruction_48 : decode zb_PS_instruction 48 = .ok (.iload_n 3, 1) := by decide +kernel
theorem zd_PS_instruction_49 : decode zb_PS_instruction 49 = .ok (.ifCond .lt 9, 3) := by decide +kernel
theorem zd_PS_instruction_52 : decode zb_PS_instruction 52 = .ok (.iload_n 3, 1) := by decide +kernel
theorem zd_PS_instruction_53 : decode zb_PS_instruction 53 = .ok (.bipush 7, 2) := by decide +kernel
theorem zd_PS_instruction_55 : decode zb_PS_instruction 55 = .ok (.if_icmp .le 13, 3) := by decide +kernel
theorem zd_PS_instruction_58 : decode zb_PS_instruction 58 = .ok (.new 71, 3) := by decide +kernel
theorem zd_PS_instruction_61 : decode zb_PS_instruction 61 = .ok (.dup, 1) := by decide +kernel
theorem zd_PS_instruction_62 : decode zb_PS_instruction 62 = .ok (.ldc 136, 2) := by decide +kernel
theorem zd_PS_instruction_64 : decode zb_PS_instruction 64 = .ok (.invokespecial 75, 3) := by decide +kernel
theorem zd_PS_instruction_67 : decode zb_PS_instruction 67 = .ok (.athrow, 1) := by decide +kernel
theorem zd_PS_instruction_68 : decode zb_PS_instruction 68 = .ok (.aload_n 0, 1) := by decide +kernel
theorem zd_PS_instruction_69 : decode zb_PS_instruction 69 = .ok (.getfield 35, 3) := by decide +kernel
theorem zd_PS_instruction_72 : decode zb_PS_instruction 72 = .ok (.getfield 138, 3) := by decide +kernel
theorem zd_PS_instruction_75 : decode zb_PS_instruction 75 = .ok (.bipush 40, 2) := by decide +kernel
theorem zd_PS_instruction_77 : decode zb_PS_instruction 77 = .ok (.if_icmp .lt 13, 3) := by decide +kernel
theorem zd_PS_instruction_80 : decode zb_PS_instruction 80 = .ok (.new 82, 3) := by decide +kernel
theorem zd_PS_instruction_83 : decode zb_PS_instruction 83 = .ok (.dup, 1) := by decide +kernel
theorem zd_PS_instruction_84 : decode zb_PS_instruction 84 = .ok (.ldc 141, 2) := by decide +kernel
theorem zd_PS_instruction_86 : decode zb_PS_instruction 86 = .ok (.invokespecial 86, 3) := by decide +kernel
theorem zd_PS_instruction_89 : decode zb_PS_instruction 89 = .ok (.athrow, 1) := by decide +kernel
theorem zd_PS_instruction_90 : decode zb_PS_instruction 90 = .ok (.aload_n 0, 1) := by decide +kernel
theorem zd_PS_instruction_91 : decode zb_PS_instruction 91 = .ok (.getfield 35, 3) := by decide +kernel
theorem zd_PS_instruction_94 : decode zb_PS_instruction 94 = .ok (.iload_n 1, 1) := by decide +kernel
theorem zd_PS_instruction_95 : decode zb_PS_instruction 95 = .ok (.iload_n 2, 1) := by decide +kernel
theorem zd_PS_instruction_96 : decode zb_PS_instruction 96 = .ok (.iload_n 3, 1) := by decide +kernel
theorem zd_PS_instruction_97 : decode zb_PS_instruction 97 = .ok (.invokevirtual 143, 3) := by decide +kernel
theorem zd_PS_instruction_100 : decode zb_PS_instruction 100 = .ok (.ireturn, 1) := by decide +kernel
theorem zd_PS_memory_0 : decode zb_PS_memory 0 = .ok (.aload_n 0, 1) := by decide +kernel
theorem zd_PS_memory_1 : decode zb_PS_memory 1 = .ok (.getfield 19, 3) := by decide +kernel
theorem zd_PS_memory_4 : decode zb_PS_memory 4 = .ok (.iload_n 1, 1) := by decide +kernel
theorem zd_PS_memory_5 : decode zb_PS_memory 5 = .ok (.i2l, 1) := by decide +kernel
theorem zd_PS_memory_6 : decode zb_PS_memory 6 = .ok (.invokevirtual 147, 3) := by decide +kernel
theorem zd_PS_memory_9 : decode zb_PS_memory 9 = .ok (.ifCond .ne 13, 3) := by decide +kernel
theorem zd_PS_memory_12 : decode zb_PS_memory 12 = .ok (.new 151, 3) := by decide +kernel
theorem zd_PS_memory_15 : decode zb_PS_memory 15 = .ok (.dup, 1) := by decide +kernel
theorem zd_PS_memory_16 : decode zb_PS_memory 16 = .ok (.ldc 153, 2) := by decide +kernel
theorem zd_PS_memory_18 : decode zb_PS_memory 18 = .ok (.invokespecial 155, 3) := by decide +kernel
theorem zd_PS_memory_21 : decode zb_PS_memory 21 = .ok (.athrow, 1) := by decide +kernel
theorem zd_PS_memory_22 : decode zb_PS_memory 22 = .ok (.iload_n 2, 1) := by decide +kernel
theorem zd_PS_memory_23 : decode zb_PS_memory 23 = .ok (.ifCond .lt 10, 3) := by decide +kernel
theorem zd_PS_memory_26 : decode zb_PS_memory 26 = .ok (.iload_n 2, 1) := by decide +kernel
theorem zd_PS_memory_27 : decode zb_PS_memory 27 = .ok (.sipush 255, 3) := by decide +kernel
theorem zd_PS_memory_30 : decode zb_PS_memory 30 = .ok (.if_icmp .le 13, 3) := by decide +kernel
theorem zd_PS_memory_33 : decode zb_PS_memory 33 = .ok (.new 71, 3) := by decide +kernel
theorem zd_PS_memory_36 : decode zb_PS_memory 36 = .ok (.dup, 1) := by decide +kernel
theorem zd_PS_memory_37 : decode zb_PS_memory 37 = .ok (.ldc 156, 2) := by decide +kernel
theorem zd_PS_memory_39 : decode zb_PS_memory 39 = .ok (.invokespecial 75, 3) := by decide +kernel
theorem zd_PS_memory_42 : decode zb_PS_memory 42 = .ok (.athrow, 1) := by decide +kernel
theorem zd_PS_memory_43 : decode zb_PS_memory 43 = .ok (.aload_n 0, 1) := by decide +kernel
theorem zd_PS_memory_44 : decode zb_PS_memory 44 = .ok (.getfield 19, 3) := by decide +kernel
theorem zd_PS_memory_47 : decode zb_PS_memory 47 = .ok (.iload_n 1, 1) := by decide +kernel
theorem zd_PS_memory_48 : decode zb_PS_memory 48 = .ok (.invokevirtual 158, 3) := by decide +kernel
theorem zd_PS_memory_51 : decode zb_PS_memory 51 = .ok (.istore_n 3, 1) := by decide +kernel
theorem zd_PS_memory_52 : decode zb_PS_memory 52 = .ok (.aload_n 0, 1) := by decide +kernel
theorem zd_PS_memory_53 : decode zb_PS_memory 53 = .ok (.getfield 19, 3) := by decide +kernel
theorem zd_PS_memory_56 : decode zb_PS_memory 56 = .ok (.iload_n 1, 1) := by decide +kernel
theorem zd_PS_memory_57 : decode zb_PS_memory 57 = .ok (.iload_n 2, 1) := by decide +kernel
theorem zd_PS_memory_58 : decode zb_PS_memory 58 = .ok (.i2l, 1) := by decide +kernel
theorem zd_PS_memory_59 : decode zb_PS_memory 59 = .ok (.invokevirtual 161, 3) := by decide +kernel
theorem zd_PS_memory_62 : decode zb_PS_memory 62 = .ok (.iload_n 3, 1) := by decide +kernel
theorem zd_PS_memory_63 : decode zb_PS_memory 63 = .ok (.ireturn, 1) := by decide +kernel
theorem zd_PS_byteAt_0 : decode zb_PS_byteAt 0 = .ok (.aload_n 0, 1) := by decide +kernel
theorem zd_PS_byteAt_1 : decode zb_PS_byteAt 1 = .ok (.getfield 19, 3) := by decide +kernel
theorem zd_PS_byteAt_4 : decode zb_PS_byteAt 4 = .ok (.iload_n 1, 1) := by decide +kernel
theorem zd_PS_byteAt_5 : decode zb_PS_byteAt 5 = .ok (.i2l, 1) := by decide +kernel
theorem zd_PS_byteAt_6 : decode zb_PS_byteAt 6 = .ok (.invokevirtual 147, 3) := by decide +kernel
theorem zd_PS_byteAt_9 : decode zb_PS_byteAt 9 = .ok (.ifCond .ne 13, 3) := by decide +kernel
theorem zd_PS_byteAt_12 : decode zb_PS_byteAt 12 = .ok (.new 151, 3) := by decide +kernel
theorem zd_PS_byteAt_15 : decode zb_PS_byteAt 15 = .ok (.dup, 1) := by decide +kernel
theorem zd_PS_byteAt_16 : decode zb_PS_byteAt 16 = .ok (.ldc 153, 2) := by decide +kernel
theorem zd_PS_byteAt_18 : decode zb_PS_byteAt 18 = .ok (.invokespecial 155, 3) := by decide +kernel
theorem zd_PS_byteAt_21 : decode zb_PS_byteAt 21 = .ok (.athrow, 1) := by decide +kernel
theorem zd_PS_byteAt_22 : decode zb_PS_byteAt 22 = .ok (.aload_n 0, 1) := by decide +kernel
theorem zd_PS_byteAt_23 : decode zb_PS_byteAt 23 = .ok (.getfield 19, 3) := by decide +kernel
theorem zd_PS_byteAt_26 : decode zb_PS_byteAt 26 = .ok (.iload_n 1, 1) := by decide +kernel
theorem zd_PS_byteAt_27 : decode zb_PS_byteAt 27 = .ok (.invokevirtual 158, 3) := by decide +kernel
theorem zd_PS_byteAt_30 : decode zb_PS_byteAt 30 = .ok (.ireturn, 1) := by decide +kernel
theorem zd_PS_step_0 : decode zb_PS_step 0 = .ok (.iload_n 1, 1) := by decide +kernel
theorem zd_PS_step_1 : decode zb_PS_step 1 = .ok (.iconst 1, 1) := by decide +kernel
theorem zd_PS_step_2 : decode zb_PS_step 2 = .ok (.if_icmp .lt 10, 3) := by decide +kernel
theorem zd_PS_step_5 : decode zb_PS_step 5 = .ok (.iload_n 1, 1) := by decide +kernel
theorem zd_PS_step_6 : decode zb_PS_step 6 = .ok (.sipush 5000, 3) := by decide +kernel
theorem zd_PS_step_9 : decode zb_PS_step 9 = .ok (.if_icmp .le 13, 3) := by decide +kernel
theorem zd_PS_step_12 : decode zb_PS_step 12 = .ok (.new 71, 3) := by decide +kernel
theorem zd_PS_step_15 : decode zb_PS_step 15 = .ok (.dup, 1) := by decide +kernel
theorem zd_PS_step_16 : decode zb_PS_step 16 = .ok (.ldc 165, 2) := by decide +kernel
theorem zd_PS_step_18 : decode zb_PS_step 18 = .ok (.invokespecial 75, 3) := by decide +kernel
theorem zd_PS_step_21 : decode zb_PS_step 21 = .ok (.athrow, 1) := by decide +kernel
theorem zd_PS_step_22 : decode zb_PS_step 22 = .ok (.aload_n 0, 1) := by decide +kernel
theorem zd_PS_step_23 : decode zb_PS_step 23 = .ok (.getfield 67, 3) := by decide +kernel
theorem zd_PS_step_26 : decode zb_PS_step 26 = .ok (.getfield 167, 3) := by decide +kernel
theorem zd_PS_step_29 : decode zb_PS_step 29 = .ok (.ifCond .eq 13, 3) := by decide +kernel
theorem zd_PS_step_32 : decode zb_PS_step 32 = .ok (.new 170, 3) := by decide +kernel
theorem zd_PS_step_35 : decode zb_PS_step 35 = .ok (.dup, 1) := by decide +kernel
theorem zd_PS_step_36 : decode zb_PS_step 36 = .ok (.ldc 172, 2) := by decide +kernel
theorem zd_PS_step_38 : decode zb_PS_step 38 = .ok (.invokespecial 174, 3) := by decide +kernel
theorem zd_PS_step_41 : decode zb_PS_step 41 = .ok (.athrow, 1) := by decide +kernel
theorem zd_PS_step_42 : decode zb_PS_step 42 = .ok (.iconst 0, 1) := by decide +kernel
theorem zd_PS_step_43 : decode zb_PS_step 43 = .ok (.istore_n 2, 1) := by decide +kernel
theorem zd_PS_step_44 : decode zb_PS_step 44 = .ok (.iload_n 2, 1) := by decide +kernel
theorem zd_PS_step_45 : decode zb_PS_step 45 = .ok (.iload_n 1, 1) := by decide +kernel
theorem zd_PS_step_46 : decode zb_PS_step 46 = .ok (.if_icmp .ge 26, 3) := by decide +kernel
theorem zd_PS_step_49 : decode zb_PS_step 49 = .ok (.aload_n 0, 1) := by decide +kernel
theorem zd_PS_step_50 : decode zb_PS_step 50 = .ok (.getfield 67, 3) := by decide +kernel
theorem zd_PS_step_53 : decode zb_PS_step 53 = .ok (.getfield 167, 3) := by decide +kernel
theorem zd_PS_step_56 : decode zb_PS_step 56 = .ok (.ifCond .ne 16, 3) := by decide +kernel
theorem zd_PS_step_59 : decode zb_PS_step 59 = .ok (.aload_n 0, 1) := by decide +kernel
theorem zd_PS_step_60 : decode zb_PS_step 60 = .ok (.getfield 67, 3) := by decide +kernel
theorem zd_PS_step_63 : decode zb_PS_step 63 = .ok (.invokevirtual 175, 3) := by decide +kernel
theorem zd_PS_step_66 : decode zb_PS_step 66 = .ok (.iinc 2 1, 3) := by decide +kernel
theorem zd_PS_step_69 : decode zb_PS_step 69 = .ok (.goto (-25), 3) := by decide +kernel
theorem zd_PS_step_72 : decode zb_PS_step 72 = .ok (.iload_n 2, 1) := by decide +kernel
theorem zd_PS_step_73 : decode zb_PS_step 73 = .ok (.ireturn, 1) := by decide +kernel
theorem zd_PS_set_0 : decode zb_PS_set 0 = .ok (.aload_n 0, 1) := by decide +kernel
theorem zd_PS_set_1 : decode zb_PS_set 1 = .ok (.getfield 10, 3) := by decide +kernel
theorem zd_PS_set_4 : decode zb_PS_set 4 = .ok (.iload_n 1, 1) := by decide +kernel
theorem zd_PS_set_5 : decode zb_PS_set 5 = .ok (.invokevirtual 119, 3) := by decide +kernel
theorem zd_PS_set_8 : decode zb_PS_set 8 = .ok (.ifCond .ne 13, 3) := by decide +kernel
theorem zd_PS_set_11 : decode zb_PS_set 11 = .ok (.new 151, 3) := by decide +kernel
theorem zd_PS_set_14 : decode zb_PS_set 14 = .ok (.dup, 1) := by decide +kernel
theorem zd_PS_set_15 : decode zb_PS_set 15 = .ok (.ldc 120, 2) := by decide +kernel
theorem zd_PS_set_17 : decode zb_PS_set 17 = .ok (.invokespecial 155, 3) := by decide +kernel
theorem zd_PS_set_20 : decode zb_PS_set 20 = .ok (.athrow, 1) := by decide +kernel
theorem zd_PS_set_21 : decode zb_PS_set 21 = .ok (.aload_n 0, 1) := by decide +kernel
theorem zd_PS_set_22 : decode zb_PS_set 22 = .ok (.getfield 10, 3) := by decide +kernel
theorem zd_PS_set_25 : decode zb_PS_set 25 = .ok (.iload_n 1, 1) := by decide +kernel
theorem zd_PS_set_26 : decode zb_PS_set 26 = .ok (.invokevirtual 178, 3) := by decide +kernel
theorem zd_PS_set_29 : decode zb_PS_set 29 = .ok (.lstore 4, 2) := by decide +kernel
theorem zd_PS_set_31 : decode zb_PS_set 31 = .ok (.aload_n 0, 1) := by decide +kernel
theorem zd_PS_set_32 : decode zb_PS_set 32 = .ok (.getfield 10, 3) := by decide +kernel
theorem zd_PS_set_35 : decode zb_PS_set 35 = .ok (.iload_n 1, 1) := by decide +kernel
theorem zd_PS_set_36 : decode zb_PS_set 36 = .ok (.lload_n 2, 1) := by decide +kernel
theorem zd_PS_set_37 : decode zb_PS_set 37 = .ok (.iconst 0, 1) := by decide +kernel
theorem zd_PS_set_38 : decode zb_PS_set 38 = .ok (.invokevirtual 182, 3) := by decide +kernel
theorem zd_PS_set_41 : decode zb_PS_set 41 = .ok (.iload_n 1, 1) := by decide +kernel
theorem zd_PS_set_42 : decode zb_PS_set 42 = .ok (.ifCond .ne 10, 3) := by decide +kernel
theorem zd_PS_set_45 : decode zb_PS_set 45 = .ok (.aload_n 0, 1) := by decide +kernel
theorem zd_PS_set_46 : decode zb_PS_set 46 = .ok (.getfield 67, 3) := by decide +kernel
theorem zd_PS_set_49 : decode zb_PS_set 49 = .ok (.invokevirtual 186, 3) := by decide +kernel
theorem zd_PS_set_52 : decode zb_PS_set 52 = .ok (.lload 4, 2) := by decide +kernel
theorem zd_PS_set_54 : decode zb_PS_set 54 = .ok (.lreturn, 1) := by decide +kernel
theorem zd_PS_get_0 : decode zb_PS_get 0 = .ok (.aload_n 0, 1) := by decide +kernel
theorem zd_PS_get_1 : decode zb_PS_get 1 = .ok (.getfield 10, 3) := by decide +kernel
theorem zd_PS_get_4 : decode zb_PS_get 4 = .ok (.iload_n 1, 1) := by decide +kernel
theorem zd_PS_get_5 : decode zb_PS_get 5 = .ok (.invokevirtual 119, 3) := by decide +kernel
theorem zd_PS_get_8 : decode zb_PS_get 8 = .ok (.ifCond .ne 13, 3) := by decide +kernel
theorem zd_PS_get_11 : decode zb_PS_get 11 = .ok (.new 151, 3) := by decide +kernel
theorem zd_PS_get_14 : decode zb_PS_get 14 = .ok (.dup, 1) := by decide +kernel
theorem zd_PS_get_15 : decode zb_PS_get 15 = .ok (.ldc 120, 2) := by decide +kernel
theorem zd_PS_get_17 : decode zb_PS_get 17 = .ok (.invokespecial 155, 3) := by decide +kernel
theorem zd_PS_get_20 : decode zb_PS_get 20 = .ok (.athrow, 1) := by decide +kernel
theorem zd_PS_get_21 : decode zb_PS_get 21 = .ok (.aload_n 0, 1) := by decide +kernel
theorem zd_PS_get_22 : decode zb_PS_get 22 = .ok (.getfield 10, 3) := by decide +kernel
theorem zd_PS_get_25 : decode zb_PS_get 25 = .ok (.iload_n 1, 1) := by decide +kernel
theorem zd_PS_get_26 : decode zb_PS_get 26 = .ok (.invokevirtual 178, 3) := by decide +kernel
theorem zd_PS_get_29 : decode zb_PS_get 29 = .ok (.lreturn, 1) := by decide +kernel
theorem zd_PS_mark_0 : decode zb_PS_mark 0 = .ok (.aload_n 0, 1) := by decide +kernel
theorem zd_PS_mark_1 : decode zb_PS_mark 1 = .ok (.getfield 10, 3) := by decide +kernel
theorem zd_PS_mark_4 : decode zb_PS_mark 4 = .ok (.iload_n 1, 1) := by decide +kernel
theorem zd_PS_mark_5 : decode zb_PS_mark 5 = .ok (.invokevirtual 119, 3) := by decide +kernel
theorem zd_PS_mark_8 : decode zb_PS_mark 8 = .ok (.ifCond .ne 13, 3) := by decide +kernel
theorem zd_PS_mark_11 : decode zb_PS_mark 11 = .ok (.new 151, 3) := by decide +kernel
theorem zd_PS_mark_14 : decode zb_PS_mark 14 = .ok (.dup, 1) := by decide +kernel
theorem zd_PS_mark_15 : decode zb_PS_mark 15 = .ok (.ldc 120, 2) := by decide +kernel
theorem zd_PS_mark_17 : decode zb_PS_mark 17 = .ok (.invokespecial 155, 3) := by decide +kernel
theorem zd_PS_mark_20 : decode zb_PS_mark 20 = .ok (.athrow, 1) := by decide +kernel
theorem zd_PS_mark_21 : decode zb_PS_mark 21 = .ok (.aload_n 0, 1) := by decide +kernel
theorem zd_PS_mark_22 : decode zb_PS_mark 22 = .ok (.getfield 10, 3) := by decide +kernel
theorem zd_PS_mark_25 : decode zb_PS_mark 25 = .ok (.iload_n 1, 1) := by decide +kernel
theorem zd_PS_mark_26 : decode zb_PS_mark 26 = .ok (.invokevirtual 189, 3) := by decide +kernel
theorem zd_PS_mark_29 : decode zb_PS_mark 29 = .ok (.ireturn, 1) := by decide +kernel
theorem zd_PS_line_0 : decode zb_PS_line 0 = .ok (.aload_n 0, 1) := by decide +kernel
theorem zd_PS_line_1 : decode zb_PS_line 1 = .ok (.getfield 49, 3) := by decide +kernel
theorem zd_PS_line_4 : decode zb_PS_line 4 = .ok (.iload_n 1, 1) := by decide +kernel
theorem zd_PS_line_5 : decode zb_PS_line 5 = .ok (.invokevirtual 192, 3) := by decide +kernel
theorem zd_PS_line_8 : decode zb_PS_line 8 = .ok (.ifCond .ne 13, 3) := by decide +kernel
theorem zd_PS_line_11 : decode zb_PS_line 11 = .ok (.new 151, 3) := by decide +kernel
theorem zd_PS_line_14 : decode zb_PS_line 14 = .ok (.dup, 1) := by decide +kernel
theorem zd_PS_line_15 : decode zb_PS_line 15 = .ok (.ldc 193, 2) := by decide +kernel
theorem zd_PS_line_17 : decode zb_PS_line 17 = .ok (.invokespecial 155, 3) := by decide +kernel
theorem zd_PS_line_20 : decode zb_PS_line 20 = .ok (.athrow, 1) := by decide +kernel
theorem zd_PS_line_21 : decode zb_PS_line 21 = .ok (.aload_n 0, 1) := by decide +kernel
theorem zd_PS_line_22 : decode zb_PS_line 22 = .ok (.getfield 49, 3) := by decide +kernel
theorem zd_PS_line_25 : decode zb_PS_line 25 = .ok (.iload_n 1, 1) := by decide +kernel
theorem zd_PS_line_26 : decode zb_PS_line 26 = .ok (.iload_n 2, 1) := by decide +kernel
theorem zd_PS_line_27 : decode zb_PS_line 27 = .ok (.invokevirtual 195, 3) := by decide +kernel
theorem zd_PS_line_30 : decode zb_PS_line 30 = .ok (.ireturn, 1) := by decide +kernel
theorem zd_PS_enable_0 : decode zb_PS_enable 0 = .ok (.aload_n 0, 1) := by decide +kernel
theorem zd_PS_enable_1 : decode zb_PS_enable 1 = .ok (.getfield 49, 3) := by decide +kernel
theorem zd_PS_enable_4 : decode zb_PS_enable 4 = .ok (.iload_n 1, 1) := by decide +kernel
theorem zd_PS_enable_5 : decode zb_PS_enable 5 = .ok (.invokevirtual 192, 3) := by decide +kernel
theorem zd_PS_enable_8 : decode zb_PS_enable 8 = .ok (.ifCond .ne 13, 3) := by decide +kernel
theorem zd_PS_enable_11 : decode zb_PS_enable 11 = .ok (.new 151, 3) := by decide +kernel
theorem zd_PS_enable_14 : decode zb_PS_enable 14 = .ok (.dup, 1) := by decide +kernel
theorem zd_PS_enable_15 : decode zb_PS_enable 15 = .ok (.ldc 193, 2) := by decide +kernel
theorem zd_PS_enable_17 : decode zb_PS_enable 17 = .ok (.invokespecial 155, 3) := by decide +kernel
theorem zd_PS_enable_20 : decode zb_PS_enable 20 = .ok (.athrow, 1) := by decide +kernel
theorem zd_PS_enable_21 : decode zb_PS_enable 21 = .ok (.iload_n 2, 1) := by decide +kernel
theorem zd_PS_enable_22 : decode zb_PS_enable 22 = .ok (.ifCond .lt 9, 3) := by decide +kernel
theorem zd_PS_enable_25 : decode zb_PS_enable 25 = .ok (.iload_n 2, 1) := by decide +kernel
theorem zd_PS_enable_26 : decode zb_PS_enable 26 = .ok (.bipush 14, 2) := by decide +kernel
theorem zd_PS_enable_28 : decode zb_PS_enable 28 = .ok (.if_icmp .le 13, 3) := by decide +kernel
theorem zd_PS_enable_31 : decode zb_PS_enable 31 = .ok (.new 71, 3) := by decide +kernel
theorem zd_PS_enable_34 : decode zb_PS_enable 34 = .ok (.dup, 1) := by decide +kernel
theorem zd_PS_enable_35 : decode zb_PS_enable 35 = .ok (.ldc 199, 2) := by decide +kernel
theorem zd_PS_enable_37 : decode zb_PS_enable 37 = .ok (.invokespecial 75, 3) := by decide +kernel
theorem zd_PS_enable_40 : decode zb_PS_enable 40 = .ok (.athrow, 1) := by decide +kernel
theorem zd_PS_enable_41 : decode zb_PS_enable 41 = .ok (.aload_n 0, 1) := by decide +kernel
theorem zd_PS_enable_42 : decode zb_PS_enable 42 = .ok (.getfield 49, 3) := by decide +kernel
theorem zd_PS_enable_45 : decode zb_PS_enable 45 = .ok (.iload_n 1, 1) := by decide +kernel
theorem zd_PS_enable_46 : decode zb_PS_enable 46 = .ok (.iload_n 2, 1) := by decide +kernel
theorem zd_PS_enable_47 : decode zb_PS_enable 47 = .ok (.invokevirtual 201, 3) := by decide +kernel
theorem zd_PS_enable_50 : decode zb_PS_enable 50 = .ok (.ireturn, 1) := by decide +kernel
theorem zd_PS_fault_0 : decode zb_PS_fault 0 = .ok (.iload_n 1, 1) := by decide +kernel
theorem zd_PS_fault_1 : decode zb_PS_fault 1 = .ok (.ifCond .lt 8, 3) := by decide +kernel
theorem zd_PS_fault_4 : decode zb_PS_fault 4 = .ok (.iload_n 1, 1) := by decide +kernel
theorem zd_PS_fault_5 : decode zb_PS_fault 5 = .ok (.iconst 1, 1) := by decide +kernel
theorem zd_PS_fault_6 : decode zb_PS_fault 6 = .ok (.if_icmp .le 13, 3) := by decide +kernel
theorem zd_PS_fault_9 : decode zb_PS_fault 9 = .ok (.new 151, 3) := by decide +kernel
theorem zd_PS_fault_12 : decode zb_PS_fault 12 = .ok (.dup, 1) := by decide +kernel
theorem zd_PS_fault_13 : decode zb_PS_fault 13 = .ok (.ldc 205, 2) := by decide +kernel
theorem zd_PS_fault_15 : decode zb_PS_fault 15 = .ok (.invokespecial 155, 3) := by decide +kernel
theorem zd_PS_fault_18 : decode zb_PS_fault 18 = .ok (.athrow, 1) := by decide +kernel
theorem zd_PS_fault_19 : decode zb_PS_fault 19 = .ok (.iload_n 1, 1) := by decide +kernel
theorem zd_PS_fault_20 : decode zb_PS_fault 20 = .ok (.ifCond .ne 13, 3) := by decide +kernel
theorem zd_PS_fault_23 : decode zb_PS_fault 23 = .ok (.aload_n 0, 1) := by decide +kernel
theorem zd_PS_fault_24 : decode zb_PS_fault 24 = .ok (.getfield 67, 3) := by decide +kernel
theorem zd_PS_fault_27 : decode zb_PS_fault 27 = .ok (.getfield 207, 3) := by decide +kernel
theorem zd_PS_fault_30 : decode zb_PS_fault 30 = .ok (.goto 10, 3) := by decide +kernel
theorem zd_PS_fault_33 : decode zb_PS_fault 33 = .ok (.aload_n 0, 1) := by decide +kernel
theorem zd_PS_fault_34 : decode zb_PS_fault 34 = .ok (.getfield 67, 3) := by decide +kernel
theorem zd_PS_fault_37 : decode zb_PS_fault 37 = .ok (.getfield 210, 3) := by decide +kernel
theorem zd_PS_fault_40 : decode zb_PS_fault 40 = .ok (.ireturn, 1) := by decide +kernel
theorem zd_PS_halted_0 : decode zb_PS_halted 0 = .ok (.aload_n 0, 1) := by decide +kernel
theorem zd_PS_halted_1 : decode zb_PS_halted 1 = .ok (.getfield 67, 3) := by decide +kernel
theorem zd_PS_halted_4 : decode zb_PS_halted 4 = .ok (.getfield 167, 3) := by decide +kernel
theorem zd_PS_halted_7 : decode zb_PS_halted 7 = .ok (.ireturn, 1) := by decide +kernel
theorem zd_PS_counter_0 : decode zb_PS_counter 0 = .ok (.iload_n 1, 1) := by decide +kernel
theorem zd_PS_counter_1 : decode zb_PS_counter 1 = .ok (.ifCond .lt 9, 3) := by decide +kernel
theorem zd_PS_counter_4 : decode zb_PS_counter 4 = .ok (.iload_n 1, 1) := by decide +kernel
theorem zd_PS_counter_5 : decode zb_PS_counter 5 = .ok (.bipush 9, 2) := by decide +kernel
theorem zd_PS_counter_7 : decode zb_PS_counter 7 = .ok (.if_icmp .lt 13, 3) := by decide +kernel
theorem zd_PS_counter_10 : decode zb_PS_counter 10 = .ok (.new 151, 3) := by decide +kernel
theorem zd_PS_counter_13 : decode zb_PS_counter 13 = .ok (.dup, 1) := by decide +kernel
theorem zd_PS_counter_14 : decode zb_PS_counter 14 = .ok (.ldc 213, 2) := by decide +kernel
theorem zd_PS_counter_16 : decode zb_PS_counter 16 = .ok (.invokespecial 155, 3) := by decide +kernel
theorem zd_PS_counter_19 : decode zb_PS_counter 19 = .ok (.athrow, 1) := by decide +kernel
theorem zd_PS_counter_20 : decode zb_PS_counter 20 = .ok (.iload_n 1, 1) := by decide +kernel
theorem zd_PS_counter_21 : decode zb_PS_counter 21 = .ok (.bipush 6, 2) := by decide +kernel
theorem zd_PS_counter_23 : decode zb_PS_counter 23 = .ok (.if_icmp .ne 11, 3) := by decide +kernel
theorem zd_PS_counter_26 : decode zb_PS_counter 26 = .ok (.aload_n 0, 1) := by decide +kernel
theorem zd_PS_counter_27 : decode zb_PS_counter 27 = .ok (.getfield 42, 3) := by decide +kernel
theorem zd_PS_counter_30 : decode zb_PS_counter 30 = .ok (.getfield 215, 3) := by decide +kernel
theorem zd_PS_counter_33 : decode zb_PS_counter 33 = .ok (.ireturn, 1) := by decide +kernel
theorem zd_PS_counter_34 : decode zb_PS_counter 34 = .ok (.iload_n 1, 1) := by decide +kernel
theorem zd_PS_counter_35 : decode zb_PS_counter 35 = .ok (.bipush 7, 2) := by decide +kernel
theorem zd_PS_counter_37 : decode zb_PS_counter 37 = .ok (.if_icmp .ne 13, 3) := by decide +kernel
theorem zd_PS_counter_40 : decode zb_PS_counter 40 = .ok (.aload_n 0, 1) := by decide +kernel
theorem zd_PS_counter_41 : decode zb_PS_counter 41 = .ok (.getfield 42, 3) := by decide +kernel
theorem zd_PS_counter_44 : decode zb_PS_counter 44 = .ok (.getfield 218, 3) := by decide +kernel
theorem zd_PS_counter_47 : decode zb_PS_counter 47 = .ok (.goto 9, 3) := by decide +kernel
theorem zd_PS_counter_50 : decode zb_PS_counter 50 = .ok (.aload_n 0, 1) := by decide +kernel
theorem zd_PS_counter_51 : decode zb_PS_counter 51 = .ok (.getfield 53, 3) := by decide +kernel
theorem zd_PS_counter_54 : decode zb_PS_counter 54 = .ok (.iload_n 1, 1) := by decide +kernel
theorem zd_PS_counter_55 : decode zb_PS_counter 55 = .ok (.iaload, 1) := by decide +kernel
theorem zd_PS_counter_56 : decode zb_PS_counter 56 = .ok (.ireturn, 1) := by decide +kernel

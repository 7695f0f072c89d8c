theorem zd_M_init_0 : decode zb_M_init 0 = .ok (.aload_n 0, 1) := by decide +kernel
theorem zd_M_init_1 : decode zb_M_init 1 = .ok (.invokespecial 1, 3) := by decide +kernel
theorem zd_M_init_4 : decode zb_M_init 4 = .ok (.aload_n 0, 1) := by decide +kernel
theorem zd_M_init_5 : decode zb_M_init 5 = .ok (.iconst 1, 1) := by decide +kernel
theorem zd_M_init_6 : decode zb_M_init 6 = .ok (.putfield 7, 3) := by decide +kernel
theorem zd_M_init_9 : decode zb_M_init 9 = .ok (.aload_n 0, 1) := by decide +kernel
theorem zd_M_init_10 : decode zb_M_init 10 = .ok (.bipush 24, 2) := by decide +kernel
theorem zd_M_init_12 : decode zb_M_init 12 = .ok (.newarray .int, 2) := by decide +kernel
theorem zd_M_init_14 : decode zb_M_init 14 = .ok (.putfield 13, 3) := by decide +kernel
theorem zd_M_init_17 : decode zb_M_init 17 = .ok (.aload_n 0, 1) := by decide +kernel
theorem zd_M_init_18 : decode zb_M_init 18 = .ok (.bipush 24, 2) := by decide +kernel
theorem zd_M_init_20 : decode zb_M_init 20 = .ok (.newarray .long, 2) := by decide +kernel
theorem zd_M_init_22 : decode zb_M_init 22 = .ok (.putfield 17, 3) := by decide +kernel
theorem zd_M_init_25 : decode zb_M_init 25 = .ok (.aload_n 0, 1) := by decide +kernel
theorem zd_M_init_26 : decode zb_M_init 26 = .ok (.bipush 24, 2) := by decide +kernel
theorem zd_M_init_28 : decode zb_M_init 28 = .ok (.newarray .long, 2) := by decide +kernel
theorem zd_M_init_30 : decode zb_M_init 30 = .ok (.putfield 21, 3) := by decide +kernel
theorem zd_M_init_33 : decode zb_M_init 33 = .ok (.aload_n 0, 1) := by decide +kernel
theorem zd_M_init_34 : decode zb_M_init 34 = .ok (.bipush 24, 2) := by decide +kernel
theorem zd_M_init_36 : decode zb_M_init 36 = .ok (.newarray .long, 2) := by decide +kernel
theorem zd_M_init_38 : decode zb_M_init 38 = .ok (.putfield 24, 3) := by decide +kernel
theorem zd_M_init_41 : decode zb_M_init 41 = .ok (.aload_n 0, 1) := by decide +kernel
theorem zd_M_init_42 : decode zb_M_init 42 = .ok (.bipush 24, 2) := by decide +kernel
theorem zd_M_init_44 : decode zb_M_init 44 = .ok (.newarray .boolean, 2) := by decide +kernel
theorem zd_M_init_46 : decode zb_M_init 46 = .ok (.putfield 27, 3) := by decide +kernel
theorem zd_M_init_49 : decode zb_M_init 49 = .ok (.aload_n 0, 1) := by decide +kernel
theorem zd_M_init_50 : decode zb_M_init 50 = .ok (.bipush 24, 2) := by decide +kernel
theorem zd_M_init_52 : decode zb_M_init 52 = .ok (.newarray .boolean, 2) := by decide +kernel
theorem zd_M_init_54 : decode zb_M_init 54 = .ok (.putfield 31, 3) := by decide +kernel
theorem zd_M_init_57 : decode zb_M_init 57 = .ok (.aload_n 0, 1) := by decide +kernel
theorem zd_M_init_58 : decode zb_M_init 58 = .ok (.bipush 24, 2) := by decide +kernel
theorem zd_M_init_60 : decode zb_M_init 60 = .ok (.newarray .boolean, 2) := by decide +kernel
theorem zd_M_init_62 : decode zb_M_init 62 = .ok (.putfield 34, 3) := by decide +kernel
theorem zd_M_init_65 : decode zb_M_init 65 = .ok (.aload_n 0, 1) := by decide +kernel
theorem zd_M_init_66 : decode zb_M_init 66 = .ok (.sipush 4096, 3) := by decide +kernel
theorem zd_M_init_69 : decode zb_M_init 69 = .ok (.newarray .byte, 2) := by decide +kernel
theorem zd_M_init_71 : decode zb_M_init 71 = .ok (.putfield 37, 3) := by decide +kernel
theorem zd_M_init_74 : decode zb_M_init 74 = .ok (.aload_n 0, 1) := by decide +kernel
theorem zd_M_init_75 : decode zb_M_init 75 = .ok (.sipush 4096, 3) := by decide +kernel
theorem zd_M_init_78 : decode zb_M_init 78 = .ok (.newarray .byte, 2) := by decide +kernel
theorem zd_M_init_80 : decode zb_M_init 80 = .ok (.putfield 41, 3) := by decide +kernel
theorem zd_M_init_83 : decode zb_M_init 83 = .ok (.aload_n 0, 1) := by decide +kernel
theorem zd_M_init_84 : decode zb_M_init 84 = .ok (.bipush 16, 2) := by decide +kernel
theorem zd_M_init_86 : decode zb_M_init 86 = .ok (.newarray .long, 2) := by decide +kernel
theorem zd_M_init_88 : decode zb_M_init 88 = .ok (.putfield 44, 3) := by decide +kernel
theorem zd_M_init_91 : decode zb_M_init 91 = .ok (.aload_n 0, 1) := by decide +kernel
theorem zd_M_init_92 : decode zb_M_init 92 = .ok (.bipush 16, 2) := by decide +kernel
theorem zd_M_init_94 : decode zb_M_init 94 = .ok (.newarray .int, 2) := by decide +kernel
theorem zd_M_init_96 : decode zb_M_init 96 = .ok (.putfield 47, 3) := by decide +kernel
theorem zd_M_init_99 : decode zb_M_init 99 = .ok (.aload_n 0, 1) := by decide +kernel
theorem zd_M_init_100 : decode zb_M_init 100 = .ok (.bipush 16, 2) := by decide +kernel
theorem zd_M_init_102 : decode zb_M_init 102 = .ok (.newarray .int, 2) := by decide +kernel
theorem zd_M_init_104 : decode zb_M_init 104 = .ok (.putfield 50, 3) := by decide +kernel
theorem zd_M_init_107 : decode zb_M_init 107 = .ok (.aload_n 0, 1) := by decide +kernel
theorem zd_M_init_108 : decode zb_M_init 108 = .ok (.bipush 16, 2) := by decide +kernel
theorem zd_M_init_110 : decode zb_M_init 110 = .ok (.newarray .boolean, 2) := by decide +kernel
theorem zd_M_init_112 : decode zb_M_init 112 = .ok (.putfield 53, 3) := by decide +kernel
theorem zd_M_init_115 : decode zb_M_init 115 = .ok (.aload_n 0, 1) := by decide +kernel
theorem zd_M_init_116 : decode zb_M_init 116 = .ok (.sipush 200, 3) := by decide +kernel
theorem zd_M_init_119 : decode zb_M_init 119 = .ok (.newarray .int, 2) := by decide +kernel
theorem zd_M_init_121 : decode zb_M_init 121 = .ok (.putfield 56, 3) := by decide +kernel
theorem zd_M_init_124 : decode zb_M_init 124 = .ok (.aload_n 0, 1) := by decide +kernel
theorem zd_M_init_125 : decode zb_M_init 125 = .ok (.sipush 200, 3) := by decide +kernel
theorem zd_M_init_128 : decode zb_M_init 128 = .ok (.newarray .int, 2) := by decide +kernel
theorem zd_M_init_130 : decode zb_M_init 130 = .ok (.putfield 59, 3) := by decide +kernel
theorem zd_M_init_133 : decode zb_M_init 133 = .ok (.aload_n 0, 1) := by decide +kernel
theorem zd_M_init_134 : decode zb_M_init 134 = .ok (.sipush 200, 3) := by decide +kernel
theorem zd_M_init_137 : decode zb_M_init 137 = .ok (.newarray .int, 2) := by decide +kernel
theorem zd_M_init_139 : decode zb_M_init 139 = .ok (.putfield 62, 3) := by decide +kernel
theorem zd_M_init_142 : decode zb_M_init 142 = .ok (.aload_n 0, 1) := by decide +kernel
theorem zd_M_init_143 : decode zb_M_init 143 = .ok (.sipush 200, 3) := by decide +kernel
theorem zd_M_init_146 : decode zb_M_init 146 = .ok (.newarray .int, 2) := by decide +kernel
theorem zd_M_init_148 : decode zb_M_init 148 = .ok (.putfield 65, 3) := by decide +kernel
theorem zd_M_init_151 : decode zb_M_init 151 = .ok (.aload_n 0, 1) := by decide +kernel
theorem zd_M_init_152 : decode zb_M_init 152 = .ok (.bipush 40, 2) := by decide +kernel
theorem zd_M_init_154 : decode zb_M_init 154 = .ok (.newarray .int, 2) := by decide +kernel
theorem zd_M_init_156 : decode zb_M_init 156 = .ok (.putfield 68, 3) := by decide +kernel
theorem zd_M_init_159 : decode zb_M_init 159 = .ok (.aload_n 0, 1) := by decide +kernel
theorem zd_M_init_160 : decode zb_M_init 160 = .ok (.bipush 40, 2) := by decide +kernel
theorem zd_M_init_162 : decode zb_M_init 162 = .ok (.newarray .int, 2) := by decide +kernel
theorem zd_M_init_164 : decode zb_M_init 164 = .ok (.putfield 71, 3) := by decide +kernel
theorem zd_M_init_167 : decode zb_M_init 167 = .ok (.aload_n 0, 1) := by decide +kernel
theorem zd_M_init_168 : decode zb_M_init 168 = .ok (.bipush 40, 2) := by decide +kernel
theorem zd_M_init_170 : decode zb_M_init 170 = .ok (.newarray .int, 2) := by decide +kernel
theorem zd_M_init_172 : decode zb_M_init 172 = .ok (.putfield 74, 3) := by decide +kernel
theorem zd_M_init_175 : decode zb_M_init 175 = .ok (.aload_n 0, 1) := by decide +kernel
theorem zd_M_init_176 : decode zb_M_init 176 = .ok (.bipush 41, 2) := by decide +kernel
theorem zd_M_init_178 : decode zb_M_init 178 = .ok (.newarray .int, 2) := by decide +kernel
theorem zd_M_init_180 : decode zb_M_init 180 = .ok (.putfield 77, 3) := by decide +kernel
theorem zd_M_init_183 : decode zb_M_init 183 = .ok (.aload_n 0, 1) := by decide +kernel
theorem zd_M_init_184 : decode zb_M_init 184 = .ok (.bipush 8, 2) := by decide +kernel
theorem zd_M_init_186 : decode zb_M_init 186 = .ok (.newarray .boolean, 2) := by decide +kernel
theorem zd_M_init_188 : decode zb_M_init 188 = .ok (.putfield 80, 3) := by decide +kernel
theorem zd_M_init_191 : decode zb_M_init 191 = .ok (.aload_n 0, 1) := by decide +kernel
theorem zd_M_init_192 : decode zb_M_init 192 = .ok (.bipush 8, 2) := by decide +kernel
theorem zd_M_init_194 : decode zb_M_init 194 = .ok (.newarray .int, 2) := by decide +kernel
theorem zd_M_init_196 : decode zb_M_init 196 = .ok (.putfield 83, 3) := by decide +kernel
theorem zd_M_init_199 : decode zb_M_init 199 = .ok (.aload_n 0, 1) := by decide +kernel
theorem zd_M_init_200 : decode zb_M_init 200 = .ok (.bipush 8, 2) := by decide +kernel
theorem zd_M_init_202 : decode zb_M_init 202 = .ok (.newarray .int, 2) := by decide +kernel
theorem zd_M_init_204 : decode zb_M_init 204 = .ok (.putfield 86, 3) := by decide +kernel
theorem zd_M_init_207 : decode zb_M_init 207 = .ok (.aload_n 0, 1) := by decide +kernel
theorem zd_M_init_208 : decode zb_M_init 208 = .ok (.bipush 8, 2) := by decide +kernel
theorem zd_M_init_210 : decode zb_M_init 210 = .ok (.newarray .int, 2) := by decide +kernel
theorem zd_M_init_212 : decode zb_M_init 212 = .ok (.putfield 89, 3) := by decide +kernel
theorem zd_M_init_215 : decode zb_M_init 215 = .ok (.aload_n 0, 1) := by decide +kernel
theorem zd_M_init_216 : decode zb_M_init 216 = .ok (.sipush 200, 3) := by decide +kernel
theorem zd_M_init_219 : decode zb_M_init 219 = .ok (.newarray .int, 2) := by decide +kernel
theorem zd_M_init_221 : decode zb_M_init 221 = .ok (.putfield 92, 3) := by decide +kernel
theorem zd_M_init_224 : decode zb_M_init 224 = .ok (.aload_n 0, 1) := by decide +kernel
theorem zd_M_init_225 : decode zb_M_init 225 = .ok (.sipush 200, 3) := by decide +kernel
theorem zd_M_init_228 : decode zb_M_init 228 = .ok (.newarray .int, 2) := by decide +kernel
theorem zd_M_init_230 : decode zb_M_init 230 = .ok (.putfield 95, 3) := by decide +kernel
theorem zd_M_init_233 : decode zb_M_init 233 = .ok (.aload_n 0, 1) := by decide +kernel
theorem zd_M_init_234 : decode zb_M_init 234 = .ok (.sipush 200, 3) := by decide +kernel
theorem zd_M_init_237 : decode zb_M_init 237 = .ok (.newarray .long, 2) := by decide +kernel
theorem zd_M_init_239 : decode zb_M_init 239 = .ok (.putfield 98, 3) := by decide +kernel
theorem zd_M_init_242 : decode zb_M_init 242 = .ok (.aload_n 0, 1) := by decide +kernel
theorem zd_M_init_243 : decode zb_M_init 243 = .ok (.sipush 200, 3) := by decide +kernel
theorem zd_M_init_246 : decode zb_M_init 246 = .ok (.newarray .boolean, 2) := by decide +kernel
theorem zd_M_init_248 : decode zb_M_init 248 = .ok (.putfield 101, 3) := by decide +kernel
theorem zd_M_init_251 : decode zb_M_init 251 = .ok (.aload_n 0, 1) := by decide +kernel
theorem zd_M_init_252 : decode zb_M_init 252 = .ok (.bipush 9, 2) := by decide +kernel
theorem zd_M_init_254 : decode zb_M_init 254 = .ok (.newarray .int, 2) := by decide +kernel
theorem zd_M_init_256 : decode zb_M_init 256 = .ok (.putfield 104, 3) := by decide +kernel
theorem zd_M_init_259 : decode zb_M_init 259 = .ok (.aload_n 0, 1) := by decide +kernel
theorem zd_M_init_260 : decode zb_M_init 260 = .ok (.getfield 13, 3) := by decide +kernel
theorem zd_M_init_263 : decode zb_M_init 263 = .ok (.iconst 0, 1) := by decide +kernel
theorem zd_M_init_264 : decode zb_M_init 264 = .ok (.bipush 16, 2) := by decide +kernel
theorem zd_M_init_266 : decode zb_M_init 266 = .ok (.iastore, 1) := by decide +kernel
theorem zd_M_init_267 : decode zb_M_init 267 = .ok (.iconst 0, 1) := by decide +kernel
theorem zd_M_init_268 : decode zb_M_init 268 = .ok (.istore_n 1, 1) := by decide +kernel
theorem zd_M_init_269 : decode zb_M_init 269 = .ok (.iload_n 1, 1) := by decide +kernel
theorem zd_M_init_270 : decode zb_M_init 270 = .ok (.bipush 8, 2) := by decide +kernel
theorem zd_M_init_272 : decode zb_M_init 272 = .ok (.if_icmp .ge 16, 3) := by decide +kernel
theorem zd_M_init_275 : decode zb_M_init 275 = .ok (.aload_n 0, 1) := by decide +kernel
theorem zd_M_init_276 : decode zb_M_init 276 = .ok (.getfield 83, 3) := by decide +kernel
theorem zd_M_init_279 : decode zb_M_init 279 = .ok (.iload_n 1, 1) := by decide +kernel
theorem zd_M_init_280 : decode zb_M_init 280 = .ok (.iconst 1, 1) := by decide +kernel
theorem zd_M_init_281 : decode zb_M_init 281 = .ok (.iastore, 1) := by decide +kernel
theorem zd_M_init_282 : decode zb_M_init 282 = .ok (.iinc 1 1, 3) := by decide +kernel
theorem zd_M_init_285 : decode zb_M_init 285 = .ok (.goto (-16), 3) := by decide +kernel
theorem zd_M_init_288 : decode zb_M_init 288 = .ok (.return_, 1) := by decide +kernel
theorem zd_M_thrown_0 : decode zb_M_thrown 0 = .ok (.aload_n 0, 1) := by decide +kernel
theorem zd_M_thrown_1 : decode zb_M_thrown 1 = .ok (.getfield 107, 3) := by decide +kernel
theorem zd_M_thrown_4 : decode zb_M_thrown 4 = .ok (.ireturn, 1) := by decide +kernel
theorem zd_M_in_0 : decode zb_M_in 0 = .ok (.lload_n 0, 1) := by decide +kernel
theorem zd_M_in_1 : decode zb_M_in 1 = .ok (.lload_n 2, 1) := by decide +kernel
theorem zd_M_in_2 : decode zb_M_in 2 = .ok (.lcmp, 1) := by decide +kernel
theorem zd_M_in_3 : decode zb_M_in 3 = .ok (.ifCond .lt 14, 3) := by decide +kernel
theorem zd_M_in_6 : decode zb_M_in 6 = .ok (.lload_n 0, 1) := by decide +kernel
theorem zd_M_in_7 : decode zb_M_in 7 = .ok (.lload 4, 2) := by decide +kernel
theorem zd_M_in_9 : decode zb_M_in 9 = .ok (.lcmp, 1) := by decide +kernel
theorem zd_M_in_10 : decode zb_M_in 10 = .ok (.ifCond .gt 7, 3) := by decide +kernel
theorem zd_M_in_13 : decode zb_M_in 13 = .ok (.iconst 1, 1) := by decide +kernel
theorem zd_M_in_14 : decode zb_M_in 14 = .ok (.goto 4, 3) := by decide +kernel
theorem zd_M_in_17 : decode zb_M_in 17 = .ok (.iconst 0, 1) := by decide +kernel
theorem zd_M_in_18 : decode zb_M_in 18 = .ok (.ireturn, 1) := by decide +kernel
theorem zd_M_goes_0 : decode zb_M_goes 0 = .ok (.aload_n 0, 1) := by decide +kernel
theorem zd_M_goes_1 : decode zb_M_goes 1 = .ok (.iload_n 1, 1) := by decide +kernel
theorem zd_M_goes_2 : decode zb_M_goes 2 = .ok (.ifCond .ne 7, 3) := by decide +kernel
theorem zd_M_goes_5 : decode zb_M_goes 5 = .ok (.iconst 1, 1) := by decide +kernel
theorem zd_M_goes_6 : decode zb_M_goes 6 = .ok (.goto 12, 3) := by decide +kernel
theorem zd_M_goes_9 : decode zb_M_goes 9 = .ok (.iload_n 2, 1) := by decide +kernel
theorem zd_M_goes_10 : decode zb_M_goes 10 = .ok (.ifCond .ne 7, 3) := by decide +kernel
theorem zd_M_goes_13 : decode zb_M_goes 13 = .ok (.iconst 2, 1) := by decide +kernel
theorem zd_M_goes_14 : decode zb_M_goes 14 = .ok (.goto 4, 3) := by decide +kernel
theorem zd_M_goes_17 : decode zb_M_goes 17 = .ok (.iconst 0, 1) := by decide +kernel
theorem zd_M_goes_18 : decode zb_M_goes 18 = .ok (.putfield 107, 3) := by decide +kernel
theorem zd_M_goes_21 : decode zb_M_goes 21 = .ok (.aload_n 0, 1) := by decide +kernel
theorem zd_M_goes_22 : decode zb_M_goes 22 = .ok (.getfield 107, 3) := by decide +kernel
theorem zd_M_goes_25 : decode zb_M_goes 25 = .ok (.ifCond .ne 7, 3) := by decide +kernel
theorem zd_M_goes_28 : decode zb_M_goes 28 = .ok (.iconst 1, 1) := by decide +kernel
theorem zd_M_goes_29 : decode zb_M_goes 29 = .ok (.goto 4, 3) := by decide +kernel
theorem zd_M_goes_32 : decode zb_M_goes 32 = .ok (.iconst 0, 1) := by decide +kernel
theorem zd_M_goes_33 : decode zb_M_goes 33 = .ok (.ireturn, 1) := by decide +kernel
theorem zd_M_cut_0 : decode zb_M_cut 0 = .ok (.aload_n 0, 1) := by decide +kernel
theorem zd_M_cut_1 : decode zb_M_cut 1 = .ok (.getfield 13, 3) := by decide +kernel
theorem zd_M_cut_4 : decode zb_M_cut 4 = .ok (.iload_n 1, 1) := by decide +kernel
theorem zd_M_cut_5 : decode zb_M_cut 5 = .ok (.iaload, 1) := by decide +kernel
theorem zd_M_cut_6 : decode zb_M_cut 6 = .ok (.bipush 64, 2) := by decide +kernel
theorem zd_M_cut_8 : decode zb_M_cut 8 = .ok (.if_icmp .ne 7, 3) := by decide +kernel
theorem zd_M_cut_11 : decode zb_M_cut 11 = .ok (.lload_n 2, 1) := by decide +kernel
theorem zd_M_cut_12 : decode zb_M_cut 12 = .ok (.goto 15, 3) := by decide +kernel
theorem zd_M_cut_15 : decode zb_M_cut 15 = .ok (.lload_n 2, 1) := by decide +kernel
theorem zd_M_cut_16 : decode zb_M_cut 16 = .ok (.lconst 1, 1) := by decide +kernel
theorem zd_M_cut_17 : decode zb_M_cut 17 = .ok (.aload_n 0, 1) := by decide +kernel
theorem zd_M_cut_18 : decode zb_M_cut 18 = .ok (.getfield 13, 3) := by decide +kernel
theorem zd_M_cut_21 : decode zb_M_cut 21 = .ok (.iload_n 1, 1) := by decide +kernel
theorem zd_M_cut_22 : decode zb_M_cut 22 = .ok (.iaload, 1) := by decide +kernel
theorem zd_M_cut_23 : decode zb_M_cut 23 = .ok (.lshl, 1) := by decide +kernel
theorem zd_M_cut_24 : decode zb_M_cut 24 = .ok (.lconst 1, 1) := by decide +kernel
theorem zd_M_cut_25 : decode zb_M_cut 25 = .ok (.lsub, 1) := by decide +kernel
theorem zd_M_cut_26 : decode zb_M_cut 26 = .ok (.land, 1) := by decide +kernel
theorem zd_M_cut_27 : decode zb_M_cut 27 = .ok (.lreturn, 1) := by decide +kernel
theorem zd_M_register_0 : decode zb_M_register 0 = .ok (.aload_n 0, 1) := by decide +kernel
theorem zd_M_register_1 : decode zb_M_register 1 = .ok (.iload_n 1, 1) := by decide +kernel
theorem zd_M_register_2 : decode zb_M_register 2 = .ok (.i2l, 1) := by decide +kernel
theorem zd_M_register_3 : decode zb_M_register 3 = .ok (.lconst 1, 1) := by decide +kernel
theorem zd_M_register_4 : decode zb_M_register 4 = .ok (.ldc2_w 110, 3) := by decide +kernel
theorem zd_M_register_7 : decode zb_M_register 7 = .ok (.invokestatic 112, 3) := by decide +kernel
theorem zd_M_register_10 : decode zb_M_register 10 = .ok (.aload_n 0, 1) := by decide +kernel
theorem zd_M_register_11 : decode zb_M_register 11 = .ok (.getfield 7, 3) := by decide +kernel
theorem zd_M_register_14 : decode zb_M_register 14 = .ok (.bipush 24, 2) := by decide +kernel
theorem zd_M_register_16 : decode zb_M_register 16 = .ok (.if_icmp .ge 7, 3) := by decide +kernel
theorem zd_M_register_19 : decode zb_M_register 19 = .ok (.iconst 1, 1) := by decide +kernel
theorem zd_M_register_20 : decode zb_M_register 20 = .ok (.goto 4, 3) := by decide +kernel
theorem zd_M_register_23 : decode zb_M_register 23 = .ok (.iconst 0, 1) := by decide +kernel
theorem zd_M_register_24 : decode zb_M_register 24 = .ok (.invokevirtual 116, 3) := by decide +kernel
theorem zd_M_register_27 : decode zb_M_register 27 = .ok (.ifCond .ne 5, 3) := by decide +kernel
theorem zd_M_register_30 : decode zb_M_register 30 = .ok (.iconst 0, 1) := by decide +kernel
theorem zd_M_register_31 : decode zb_M_register 31 = .ok (.ireturn, 1) := by decide +kernel
theorem zd_M_register_32 : decode zb_M_register 32 = .ok (.aload_n 0, 1) := by decide +kernel
theorem zd_M_register_33 : decode zb_M_register 33 = .ok (.getfield 13, 3) := by decide +kernel
theorem zd_M_register_36 : decode zb_M_register 36 = .ok (.aload_n 0, 1) := by decide +kernel
theorem zd_M_register_37 : decode zb_M_register 37 = .ok (.getfield 7, 3) := by decide +kernel
theorem zd_M_register_40 : decode zb_M_register 40 = .ok (.iload_n 1, 1) := by decide +kernel
theorem zd_M_register_41 : decode zb_M_register 41 = .ok (.iastore, 1) := by decide +kernel
theorem zd_M_register_42 : decode zb_M_register 42 = .ok (.aload_n 0, 1) := by decide +kernel
theorem zd_M_register_43 : decode zb_M_register 43 = .ok (.getfield 17, 3) := by decide +kernel
theorem zd_M_register_46 : decode zb_M_register 46 = .ok (.aload_n 0, 1) := by decide +kernel
theorem zd_M_register_47 : decode zb_M_register 47 = .ok (.getfield 7, 3) := by decide +kernel
theorem zd_M_register_50 : decode zb_M_register 50 = .ok (.lconst 0, 1) := by decide +kernel
theorem zd_M_register_51 : decode zb_M_register 51 = .ok (.lastore, 1) := by decide +kernel
theorem zd_M_register_52 : decode zb_M_register 52 = .ok (.aload_n 0, 1) := by decide +kernel
theorem zd_M_register_53 : decode zb_M_register 53 = .ok (.getfield 27, 3) := by decide +kernel
theorem zd_M_register_56 : decode zb_M_register 56 = .ok (.aload_n 0, 1) := by decide +kernel
theorem zd_M_register_57 : decode zb_M_register 57 = .ok (.getfield 7, 3) := by decide +kernel
theorem zd_M_register_60 : decode zb_M_register 60 = .ok (.iconst 1, 1) := by decide +kernel
theorem zd_M_register_61 : decode zb_M_register 61 = .ok (.bastore, 1) := by decide +kernel
theorem zd_M_register_62 : decode zb_M_register 62 = .ok (.aload_n 0, 1) := by decide +kernel
theorem zd_M_register_63 : decode zb_M_register 63 = .ok (.dup, 1) := by decide +kernel
theorem zd_M_register_64 : decode zb_M_register 64 = .ok (.getfield 7, 3) := by decide +kernel
theorem zd_M_register_67 : decode zb_M_register 67 = .ok (.iconst 1, 1) := by decide +kernel
theorem zd_M_register_68 : decode zb_M_register 68 = .ok (.iadd, 1) := by decide +kernel
theorem zd_M_register_69 : decode zb_M_register 69 = .ok (.putfield 7, 3) := by decide +kernel
theorem zd_M_register_72 : decode zb_M_register 72 = .ok (.aload_n 0, 1) := by decide +kernel
theorem zd_M_register_73 : decode zb_M_register 73 = .ok (.getfield 7, 3) := by decide +kernel
theorem zd_M_register_76 : decode zb_M_register 76 = .ok (.iconst 1, 1) := by decide +kernel
theorem zd_M_register_77 : decode zb_M_register 77 = .ok (.isub, 1) := by decide +kernel
theorem zd_M_register_78 : decode zb_M_register 78 = .ok (.ireturn, 1) := by decide +kernel
theorem zd_M_constant_0 : decode zb_M_constant 0 = .ok (.aload_n 0, 1) := by decide +kernel
theorem zd_M_constant_1 : decode zb_M_constant 1 = .ok (.aload_n 0, 1) := by decide +kernel
theorem zd_M_constant_2 : decode zb_M_constant 2 = .ok (.getfield 120, 3) := by decide +kernel
theorem zd_M_constant_5 : decode zb_M_constant 5 = .ok (.bipush 16, 2) := by decide +kernel
theorem zd_M_constant_7 : decode zb_M_constant 7 = .ok (.if_icmp .ge 7, 3) := by decide +kernel
theorem zd_M_constant_10 : decode zb_M_constant 10 = .ok (.iconst 1, 1) := by decide +kernel
theorem zd_M_constant_11 : decode zb_M_constant 11 = .ok (.goto 4, 3) := by decide +kernel
theorem zd_M_constant_14 : decode zb_M_constant 14 = .ok (.iconst 0, 1) := by decide +kernel
theorem zd_M_constant_15 : decode zb_M_constant 15 = .ok (.iconst 1, 1) := by decide +kernel
theorem zd_M_constant_16 : decode zb_M_constant 16 = .ok (.invokevirtual 116, 3) := by decide +kernel
theorem zd_M_constant_19 : decode zb_M_constant 19 = .ok (.ifCond .ne 5, 3) := by decide +kernel
theorem zd_M_constant_22 : decode zb_M_constant 22 = .ok (.iconst 0, 1) := by decide +kernel
theorem zd_M_constant_23 : decode zb_M_constant 23 = .ok (.ireturn, 1) := by decide +kernel
theorem zd_M_constant_24 : decode zb_M_constant 24 = .ok (.aload_n 0, 1) := by decide +kernel
theorem zd_M_constant_25 : decode zb_M_constant 25 = .ok (.getfield 44, 3) := by decide +kernel
theorem zd_M_constant_28 : decode zb_M_constant 28 = .ok (.aload_n 0, 1) := by decide +kernel
theorem zd_M_constant_29 : decode zb_M_constant 29 = .ok (.getfield 120, 3) := by decide +kernel
theorem zd_M_constant_32 : decode zb_M_constant 32 = .ok (.lload_n 1, 1) := by decide +kernel
theorem zd_M_constant_33 : decode zb_M_constant 33 = .ok (.lastore, 1) := by decide +kernel
theorem zd_M_constant_34 : decode zb_M_constant 34 = .ok (.aload_n 0, 1) := by decide +kernel
theorem zd_M_constant_35 : decode zb_M_constant 35 = .ok (.dup, 1) := by decide +kernel
theorem zd_M_constant_36 : decode zb_M_constant 36 = .ok (.getfield 120, 3) := by decide +kernel
theorem zd_M_constant_39 : decode zb_M_constant 39 = .ok (.iconst 1, 1) := by decide +kernel
theorem zd_M_constant_40 : decode zb_M_constant 40 = .ok (.iadd, 1) := by decide +kernel
theorem zd_M_constant_41 : decode zb_M_constant 41 = .ok (.putfield 120, 3) := by decide +kernel
theorem zd_M_constant_44 : decode zb_M_constant 44 = .ok (.bipush 31, 2) := by decide +kernel
theorem zd_M_constant_46 : decode zb_M_constant 46 = .ok (.aload_n 0, 1) := by decide +kernel
theorem zd_M_constant_47 : decode zb_M_constant 47 = .ok (.getfield 120, 3) := by decide +kernel
theorem zd_M_constant_50 : decode zb_M_constant 50 = .ok (.iadd, 1) := by decide +kernel
theorem zd_M_constant_51 : decode zb_M_constant 51 = .ok (.ireturn, 1) := by decide +kernel
theorem zd_M_field_0 : decode zb_M_field 0 = .ok (.aload_n 0, 1) := by decide +kernel
theorem zd_M_field_1 : decode zb_M_field 1 = .ok (.iload_n 1, 1) := by decide +kernel
theorem zd_M_field_2 : decode zb_M_field 2 = .ok (.i2l, 1) := by decide +kernel
theorem zd_M_field_3 : decode zb_M_field 3 = .ok (.lconst 0, 1) := by decide +kernel
theorem zd_M_field_4 : decode zb_M_field 4 = .ok (.ldc2_w 123, 3) := by decide +kernel
theorem zd_M_field_7 : decode zb_M_field 7 = .ok (.invokestatic 112, 3) := by decide +kernel
theorem zd_M_field_10 : decode zb_M_field 10 = .ok (.ifCond .eq 20, 3) := by decide +kernel
theorem zd_M_field_13 : decode zb_M_field 13 = .ok (.iload_n 2, 1) := by decide +kernel
theorem zd_M_field_14 : decode zb_M_field 14 = .ok (.i2l, 1) := by decide +kernel
theorem zd_M_field_15 : decode zb_M_field 15 = .ok (.iload_n 1, 1) := by decide +kernel
theorem zd_M_field_16 : decode zb_M_field 16 = .ok (.i2l, 1) := by decide +kernel
theorem zd_M_field_17 : decode zb_M_field 17 = .ok (.ldc2_w 123, 3) := by decide +kernel
theorem zd_M_field_20 : decode zb_M_field 20 = .ok (.invokestatic 112, 3) := by decide +kernel
theorem zd_M_field_23 : decode zb_M_field 23 = .ok (.ifCond .eq 7, 3) := by decide +kernel
theorem zd_M_field_26 : decode zb_M_field 26 = .ok (.iconst 1, 1) := by decide +kernel
theorem zd_M_field_27 : decode zb_M_field 27 = .ok (.goto 4, 3) := by decide +kernel
theorem zd_M_field_30 : decode zb_M_field 30 = .ok (.iconst 0, 1) := by decide +kernel
theorem zd_M_field_31 : decode zb_M_field 31 = .ok (.aload_n 0, 1) := by decide +kernel
theorem zd_M_field_32 : decode zb_M_field 32 = .ok (.getfield 125, 3) := by decide +kernel
theorem zd_M_field_35 : decode zb_M_field 35 = .ok (.bipush 16, 2) := by decide +kernel
theorem zd_M_field_37 : decode zb_M_field 37 = .ok (.if_icmp .ge 7, 3) := by decide +kernel
theorem zd_M_field_40 : decode zb_M_field 40 = .ok (.iconst 1, 1) := by decide +kernel
theorem zd_M_field_41 : decode zb_M_field 41 = .ok (.goto 4, 3) := by decide +kernel
theorem zd_M_field_44 : decode zb_M_field 44 = .ok (.iconst 0, 1) := by decide +kernel
theorem zd_M_field_45 : decode zb_M_field 45 = .ok (.invokevirtual 116, 3) := by decide +kernel
theorem zd_M_field_48 : decode zb_M_field 48 = .ok (.ifCond .ne 5, 3) := by decide +kernel
theorem zd_M_field_51 : decode zb_M_field 51 = .ok (.iconst 0, 1) := by decide +kernel
theorem zd_M_field_52 : decode zb_M_field 52 = .ok (.ireturn, 1) := by decide +kernel
theorem zd_M_field_53 : decode zb_M_field 53 = .ok (.aload_n 0, 1) := by decide +kernel
theorem zd_M_field_54 : decode zb_M_field 54 = .ok (.getfield 47, 3) := by decide +kernel
theorem zd_M_field_57 : decode zb_M_field 57 = .ok (.aload_n 0, 1) := by decide +kernel
theorem zd_M_field_58 : decode zb_M_field 58 = .ok (.getfield 125, 3) := by decide +kernel
theorem zd_M_field_61 : decode zb_M_field 61 = .ok (.iload_n 1, 1) := by decide +kernel
theorem zd_M_field_62 : decode zb_M_field 62 = .ok (.iastore, 1) := by decide +kernel
theorem zd_M_field_63 : decode zb_M_field 63 = .ok (.aload_n 0, 1) := by decide +kernel
theorem zd_M_field_64 : decode zb_M_field 64 = .ok (.getfield 50, 3) := by decide +kernel
theorem zd_M_field_67 : decode zb_M_field 67 = .ok (.aload_n 0, 1) := by decide +kernel
theorem zd_M_field_68 : decode zb_M_field 68 = .ok (.getfield 125, 3) := by decide +kernel
theorem zd_M_field_71 : decode zb_M_field 71 = .ok (.iload_n 2, 1) := by decide +kernel
theorem zd_M_field_72 : decode zb_M_field 72 = .ok (.iastore, 1) := by decide +kernel
theorem zd_M_field_73 : decode zb_M_field 73 = .ok (.aload_n 0, 1) := by decide +kernel
theorem zd_M_field_74 : decode zb_M_field 74 = .ok (.getfield 53, 3) := by decide +kernel
theorem zd_M_field_77 : decode zb_M_field 77 = .ok (.aload_n 0, 1) := by decide +kernel
theorem zd_M_field_78 : decode zb_M_field 78 = .ok (.getfield 125, 3) := by decide +kernel
theorem zd_M_field_81 : decode zb_M_field 81 = .ok (.iload_n 3, 1) := by decide +kernel
theorem zd_M_field_82 : decode zb_M_field 82 = .ok (.bastore, 1) := by decide +kernel
theorem zd_M_field_83 : decode zb_M_field 83 = .ok (.aload_n 0, 1) := by decide +kernel
theorem zd_M_field_84 : decode zb_M_field 84 = .ok (.dup, 1) := by decide +kernel
theorem zd_M_field_85 : decode zb_M_field 85 = .ok (.getfield 125, 3) := by decide +kernel
theorem zd_M_field_88 : decode zb_M_field 88 = .ok (.iconst 1, 1) := by decide +kernel
theorem zd_M_field_89 : decode zb_M_field 89 = .ok (.iadd, 1) := by decide +kernel
theorem zd_M_field_90 : decode zb_M_field 90 = .ok (.putfield 125, 3) := by decide +kernel
theorem zd_M_field_93 : decode zb_M_field 93 = .ok (.bipush 63, 2) := by decide +kernel
theorem zd_M_field_95 : decode zb_M_field 95 = .ok (.aload_n 0, 1) := by decide +kernel
theorem zd_M_field_96 : decode zb_M_field 96 = .ok (.getfield 125, 3) := by decide +kernel
theorem zd_M_field_99 : decode zb_M_field 99 = .ok (.iadd, 1) := by decide +kernel
theorem zd_M_field_100 : decode zb_M_field 100 = .ok (.ireturn, 1) := by decide +kernel
theorem zd_M_isOperand_0 : decode zb_M_isOperand 0 = .ok (.iload_n 1, 1) := by decide +kernel
theorem zd_M_isOperand_1 : decode zb_M_isOperand 1 = .ok (.i2l, 1) := by decide +kernel
theorem zd_M_isOperand_2 : decode zb_M_isOperand 2 = .ok (.lconst 0, 1) := by decide +kernel
theorem zd_M_isOperand_3 : decode zb_M_isOperand 3 = .ok (.aload_n 0, 1) := by decide +kernel
theorem zd_M_isOperand_4 : decode zb_M_isOperand 4 = .ok (.getfield 7, 3) := by decide +kernel
theorem zd_M_isOperand_7 : decode zb_M_isOperand 7 = .ok (.iconst 1, 1) := by decide +kernel
theorem zd_M_isOperand_8 : decode zb_M_isOperand 8 = .ok (.isub, 1) := by decide +kernel
theorem zd_M_isOperand_9 : decode zb_M_isOperand 9 = .ok (.i2l, 1) := by decide +kernel
theorem zd_M_isOperand_10 : decode zb_M_isOperand 10 = .ok (.invokestatic 112, 3) := by decide +kernel
theorem zd_M_isOperand_13 : decode zb_M_isOperand 13 = .ok (.ifCond .ne 41, 3) := by decide +kernel
theorem zd_M_isOperand_16 : decode zb_M_isOperand 16 = .ok (.iload_n 1, 1) := by decide +kernel
theorem zd_M_isOperand_17 : decode zb_M_isOperand 17 = .ok (.i2l, 1) := by decide +kernel
theorem zd_M_isOperand_18 : decode zb_M_isOperand 18 = .ok (.ldc2_w 128, 3) := by decide +kernel
theorem zd_M_isOperand_21 : decode zb_M_isOperand 21 = .ok (.bipush 31, 2) := by decide +kernel
theorem zd_M_isOperand_23 : decode zb_M_isOperand 23 = .ok (.aload_n 0, 1) := by decide +kernel
theorem zd_M_isOperand_24 : decode zb_M_isOperand 24 = .ok (.getfield 120, 3) := by decide +kernel
theorem zd_M_isOperand_27 : decode zb_M_isOperand 27 = .ok (.iadd, 1) := by decide +kernel
theorem zd_M_isOperand_28 : decode zb_M_isOperand 28 = .ok (.i2l, 1) := by decide +kernel
theorem zd_M_isOperand_29 : decode zb_M_isOperand 29 = .ok (.invokestatic 112, 3) := by decide +kernel
theorem zd_M_isOperand_32 : decode zb_M_isOperand 32 = .ok (.ifCond .ne 22, 3) := by decide +kernel
theorem zd_M_isOperand_35 : decode zb_M_isOperand 35 = .ok (.iload_n 1, 1) := by decide +kernel
theorem zd_M_isOperand_36 : decode zb_M_isOperand 36 = .ok (.i2l, 1) := by decide +kernel
theorem zd_M_isOperand_37 : decode zb_M_isOperand 37 = .ok (.ldc2_w 110, 3) := by decide +kernel
theorem zd_M_isOperand_40 : decode zb_M_isOperand 40 = .ok (.bipush 63, 2) := by decide +kernel
theorem zd_M_isOperand_42 : decode zb_M_isOperand 42 = .ok (.aload_n 0, 1) := by decide +kernel
theorem zd_M_isOperand_43 : decode zb_M_isOperand 43 = .ok (.getfield 125, 3) := by decide +kernel
theorem zd_M_isOperand_46 : decode zb_M_isOperand 46 = .ok (.iadd, 1) := by decide +kernel
theorem zd_M_isOperand_47 : decode zb_M_isOperand 47 = .ok (.i2l, 1) := by decide +kernel
theorem zd_M_isOperand_48 : decode zb_M_isOperand 48 = .ok (.invokestatic 112, 3) := by decide +kernel
theorem zd_M_isOperand_51 : decode zb_M_isOperand 51 = .ok (.ifCond .eq 7, 3) := by decide +kernel
theorem zd_M_isOperand_54 : decode zb_M_isOperand 54 = .ok (.iconst 1, 1) := by decide +kernel
theorem zd_M_isOperand_55 : decode zb_M_isOperand 55 = .ok (.goto 4, 3) := by decide +kernel
theorem zd_M_isOperand_58 : decode zb_M_isOperand 58 = .ok (.iconst 0, 1) := by decide +kernel
theorem zd_M_isOperand_59 : decode zb_M_isOperand 59 = .ok (.ireturn, 1) := by decide +kernel
theorem zd_M_transfer_0 : decode zb_M_transfer 0 = .ok (.aload_n 0, 1) := by decide +kernel
theorem zd_M_transfer_1 : decode zb_M_transfer 1 = .ok (.iload_n 1, 1) := by decide +kernel
theorem zd_M_transfer_2 : decode zb_M_transfer 2 = .ok (.i2l, 1) := by decide +kernel
theorem zd_M_transfer_3 : decode zb_M_transfer 3 = .ok (.lconst 0, 1) := by decide +kernel
theorem zd_M_transfer_4 : decode zb_M_transfer 4 = .ok (.ldc2_w 130, 3) := by decide +kernel
theorem zd_M_transfer_7 : decode zb_M_transfer 7 = .ok (.invokestatic 112, 3) := by decide +kernel
theorem zd_M_transfer_10 : decode zb_M_transfer 10 = .ok (.ifCond .eq 40, 3) := by decide +kernel
theorem zd_M_transfer_13 : decode zb_M_transfer 13 = .ok (.aload_n 0, 1) := by decide +kernel
theorem zd_M_transfer_14 : decode zb_M_transfer 14 = .ok (.iload_n 2, 1) := by decide +kernel
theorem zd_M_transfer_15 : decode zb_M_transfer 15 = .ok (.invokevirtual 132, 3) := by decide +kernel
theorem zd_M_transfer_18 : decode zb_M_transfer 18 = .ok (.ifCond .eq 32, 3) := by decide +kernel
theorem zd_M_transfer_21 : decode zb_M_transfer 21 = .ok (.aload_n 0, 1) := by decide +kernel
theorem zd_M_transfer_22 : decode zb_M_transfer 22 = .ok (.iload_n 3, 1) := by decide +kernel
theorem zd_M_transfer_23 : decode zb_M_transfer 23 = .ok (.invokevirtual 132, 3) := by decide +kernel
theorem zd_M_transfer_26 : decode zb_M_transfer 26 = .ok (.ifCond .eq 24, 3) := by decide +kernel
theorem zd_M_transfer_29 : decode zb_M_transfer 29 = .ok (.iload 4, 2) := by decide +kernel
theorem zd_M_transfer_31 : decode zb_M_transfer 31 = .ok (.i2l, 1) := by decide +kernel
theorem zd_M_transfer_32 : decode zb_M_transfer 32 = .ok (.lconst 0, 1) := by decide +kernel
theorem zd_M_transfer_33 : decode zb_M_transfer 33 = .ok (.aload_n 0, 1) := by decide +kernel
theorem zd_M_transfer_34 : decode zb_M_transfer 34 = .ok (.getfield 7, 3) := by decide +kernel
theorem zd_M_transfer_37 : decode zb_M_transfer 37 = .ok (.iconst 1, 1) := by decide +kernel
theorem zd_M_transfer_38 : decode zb_M_transfer 38 = .ok (.isub, 1) := by decide +kernel
theorem zd_M_transfer_39 : decode zb_M_transfer 39 = .ok (.i2l, 1) := by decide +kernel
theorem zd_M_transfer_40 : decode zb_M_transfer 40 = .ok (.invokestatic 112, 3) := by decide +kernel
theorem zd_M_transfer_43 : decode zb_M_transfer 43 = .ok (.ifCond .eq 7, 3) := by decide +kernel
theorem zd_M_transfer_46 : decode zb_M_transfer 46 = .ok (.iconst 1, 1) := by decide +kernel
theorem zd_M_transfer_47 : decode zb_M_transfer 47 = .ok (.goto 4, 3) := by decide +kernel
theorem zd_M_transfer_50 : decode zb_M_transfer 50 = .ok (.iconst 0, 1) := by decide +kernel
theorem zd_M_transfer_51 : decode zb_M_transfer 51 = .ok (.aload_n 0, 1) := by decide +kernel
theorem zd_M_transfer_52 : decode zb_M_transfer 52 = .ok (.getfield 136, 3) := by decide +kernel
theorem zd_M_transfer_55 : decode zb_M_transfer 55 = .ok (.sipush 200, 3) := by decide +kernel
theorem zd_M_transfer_58 : decode zb_M_transfer 58 = .ok (.if_icmp .ge 7, 3) := by decide +kernel
theorem zd_M_transfer_61 : decode zb_M_transfer 61 = .ok (.iconst 1, 1) := by decide +kernel
theorem zd_M_transfer_62 : decode zb_M_transfer 62 = .ok (.goto 4, 3) := by decide +kernel
theorem zd_M_transfer_65 : decode zb_M_transfer 65 = .ok (.iconst 0, 1) := by decide +kernel
theorem zd_M_transfer_66 : decode zb_M_transfer 66 = .ok (.invokevirtual 116, 3) := by decide +kernel
theorem zd_M_transfer_69 : decode zb_M_transfer 69 = .ok (.ifCond .ne 5, 3) := by decide +kernel
theorem zd_M_transfer_72 : decode zb_M_transfer 72 = .ok (.iconst 0, 1) := by decide +kernel
theorem zd_M_transfer_73 : decode zb_M_transfer 73 = .ok (.ireturn, 1) := by decide +kernel
theorem zd_M_transfer_74 : decode zb_M_transfer 74 = .ok (.aload_n 0, 1) := by decide +kernel
theorem zd_M_transfer_75 : decode zb_M_transfer 75 = .ok (.getfield 56, 3) := by decide +kernel
theorem zd_M_transfer_78 : decode zb_M_transfer 78 = .ok (.aload_n 0, 1) := by decide +kernel
theorem zd_M_transfer_79 : decode zb_M_transfer 79 = .ok (.getfield 136, 3) := by decide +kernel
theorem zd_M_transfer_82 : decode zb_M_transfer 82 = .ok (.iload_n 1, 1) := by decide +kernel
theorem zd_M_transfer_83 : decode zb_M_transfer 83 = .ok (.iastore, 1) := by decide +kernel
theorem zd_M_transfer_84 : decode zb_M_transfer 84 = .ok (.aload_n 0, 1) := by decide +kernel
theorem zd_M_transfer_85 : decode zb_M_transfer 85 = .ok (.getfield 59, 3) := by decide +kernel
theorem zd_M_transfer_88 : decode zb_M_transfer 88 = .ok (.aload_n 0, 1) := by decide +kernel
theorem zd_M_transfer_89 : decode zb_M_transfer 89 = .ok (.getfield 136, 3) := by decide +kernel
theorem zd_M_transfer_92 : decode zb_M_transfer 92 = .ok (.iload_n 2, 1) := by decide +kernel
theorem zd_M_transfer_93 : decode zb_M_transfer 93 = .ok (.iastore, 1) := by decide +kernel
theorem zd_M_transfer_94 : decode zb_M_transfer 94 = .ok (.aload_n 0, 1) := by decide +kernel
theorem zd_M_transfer_95 : decode zb_M_transfer 95 = .ok (.getfield 62, 3) := by decide +kernel
theorem zd_M_transfer_98 : decode zb_M_transfer 98 = .ok (.aload_n 0, 1) := by decide +kernel
theorem zd_M_transfer_99 : decode zb_M_transfer 99 = .ok (.getfield 136, 3) := by decide +kernel
theorem zd_M_transfer_102 : decode zb_M_transfer 102 = .ok (.iload_n 3, 1) := by decide +kernel
theorem zd_M_transfer_103 : decode zb_M_transfer 103 = .ok (.iastore, 1) := by decide +kernel
theorem zd_M_transfer_104 : decode zb_M_transfer 104 = .ok (.aload_n 0, 1) := by decide +kernel
theorem zd_M_transfer_105 : decode zb_M_transfer 105 = .ok (.getfield 65, 3) := by decide +kernel
theorem zd_M_transfer_108 : decode zb_M_transfer 108 = .ok (.aload_n 0, 1) := by decide +kernel
theorem zd_M_transfer_109 : decode zb_M_transfer 109 = .ok (.getfield 136, 3) := by decide +kernel
theorem zd_M_transfer_112 : decode zb_M_transfer 112 = .ok (.iload 4, 2) := by decide +kernel
theorem zd_M_transfer_114 : decode zb_M_transfer 114 = .ok (.iastore, 1) := by decide +kernel
theorem zd_M_transfer_115 : decode zb_M_transfer 115 = .ok (.aload_n 0, 1) := by decide +kernel
theorem zd_M_transfer_116 : decode zb_M_transfer 116 = .ok (.dup, 1) := by decide +kernel
theorem zd_M_transfer_117 : decode zb_M_transfer 117 = .ok (.getfield 136, 3) := by decide +kernel
theorem zd_M_transfer_120 : decode zb_M_transfer 120 = .ok (.iconst 1, 1) := by decide +kernel
theorem zd_M_transfer_121 : decode zb_M_transfer 121 = .ok (.iadd, 1) := by decide +kernel
theorem zd_M_transfer_122 : decode zb_M_transfer 122 = .ok (.putfield 136, 3) := by decide +kernel
theorem zd_M_transfer_125 : decode zb_M_transfer 125 = .ok (.aload_n 0, 1) := by decide +kernel
theorem zd_M_transfer_126 : decode zb_M_transfer 126 = .ok (.getfield 136, 3) := by decide +kernel
theorem zd_M_transfer_129 : decode zb_M_transfer 129 = .ok (.ireturn, 1) := by decide +kernel
theorem zd_M_instruction_0 : decode zb_M_instruction 0 = .ok (.aload_n 0, 1) := by decide +kernel
theorem zd_M_instruction_1 : decode zb_M_instruction 1 = .ok (.iload_n 1, 1) := by decide +kernel
theorem zd_M_instruction_2 : decode zb_M_instruction 2 = .ok (.i2l, 1) := by decide +kernel
theorem zd_M_instruction_3 : decode zb_M_instruction 3 = .ok (.lconst 0, 1) := by decide +kernel
theorem zd_M_instruction_4 : decode zb_M_instruction 4 = .ok (.ldc2_w 139, 3) := by decide +kernel
theorem zd_M_instruction_7 : decode zb_M_instruction 7 = .ok (.invokestatic 112, 3) := by decide +kernel
theorem zd_M_instruction_10 : decode zb_M_instruction 10 = .ok (.ifCond .eq 39, 3) := by decide +kernel
theorem zd_M_instruction_13 : decode zb_M_instruction 13 = .ok (.iload_n 2, 1) := by decide +kernel
theorem zd_M_instruction_14 : decode zb_M_instruction 14 = .ok (.i2l, 1) := by decide +kernel
theorem zd_M_instruction_15 : decode zb_M_instruction 15 = .ok (.lconst 0, 1) := by decide +kernel
theorem zd_M_instruction_16 : decode zb_M_instruction 16 = .ok (.ldc2_w 139, 3) := by decide +kernel
theorem zd_M_instruction_19 : decode zb_M_instruction 19 = .ok (.invokestatic 112, 3) := by decide +kernel
theorem zd_M_instruction_22 : decode zb_M_instruction 22 = .ok (.ifCond .eq 27, 3) := by decide +kernel
theorem zd_M_instruction_25 : decode zb_M_instruction 25 = .ok (.iload_n 2, 1) := by decide +kernel
theorem zd_M_instruction_26 : decode zb_M_instruction 26 = .ok (.iload_n 1, 1) := by decide +kernel
theorem zd_M_instruction_27 : decode zb_M_instruction 27 = .ok (.iconst (-1), 1) := by decide +kernel
theorem zd_M_instruction_28 : decode zb_M_instruction 28 = .ok (.ixor, 1) := by decide +kernel
theorem zd_M_instruction_29 : decode zb_M_instruction 29 = .ok (.iand, 1) := by decide +kernel
theorem zd_M_instruction_30 : decode zb_M_instruction 30 = .ok (.ifCond .ne 19, 3) := by decide +kernel
theorem zd_M_instruction_33 : decode zb_M_instruction 33 = .ok (.iload_n 3, 1) := by decide +kernel
theorem zd_M_instruction_34 : decode zb_M_instruction 34 = .ok (.i2l, 1) := by decide +kernel
theorem zd_M_instruction_35 : decode zb_M_instruction 35 = .ok (.lconst 0, 1) := by decide +kernel
theorem zd_M_instruction_36 : decode zb_M_instruction 36 = .ok (.ldc2_w 141, 3) := by decide +kernel
theorem zd_M_instruction_39 : decode zb_M_instruction 39 = .ok (.invokestatic 112, 3) := by decide +kernel
theorem zd_M_instruction_42 : decode zb_M_instruction 42 = .ok (.ifCond .eq 7, 3) := by decide +kernel
theorem zd_M_instruction_45 : decode zb_M_instruction 45 = .ok (.iconst 1, 1) := by decide +kernel
theorem zd_M_instruction_46 : decode zb_M_instruction 46 = .ok (.goto 4, 3) := by decide +kernel
theorem zd_M_instruction_49 : decode zb_M_instruction 49 = .ok (.iconst 0, 1) := by decide +kernel
theorem zd_M_instruction_50 : decode zb_M_instruction 50 = .ok (.aload_n 0, 1) := by decide +kernel
theorem zd_M_instruction_51 : decode zb_M_instruction 51 = .ok (.getfield 143, 3) := by decide +kernel
theorem zd_M_instruction_54 : decode zb_M_instruction 54 = .ok (.bipush 40, 2) := by decide +kernel
theorem zd_M_instruction_56 : decode zb_M_instruction 56 = .ok (.if_icmp .ge 7, 3) := by decide +kernel
theorem zd_M_instruction_59 : decode zb_M_instruction 59 = .ok (.iconst 1, 1) := by decide +kernel
theorem zd_M_instruction_60 : decode zb_M_instruction 60 = .ok (.goto 4, 3) := by decide +kernel
theorem zd_M_instruction_63 : decode zb_M_instruction 63 = .ok (.iconst 0, 1) := by decide +kernel
theorem zd_M_instruction_64 : decode zb_M_instruction 64 = .ok (.invokevirtual 116, 3) := by decide +kernel
theorem zd_M_instruction_67 : decode zb_M_instruction 67 = .ok (.ifCond .ne 5, 3) := by decide +kernel
theorem zd_M_instruction_70 : decode zb_M_instruction 70 = .ok (.iconst 0, 1) := by decide +kernel
theorem zd_M_instruction_71 : decode zb_M_instruction 71 = .ok (.ireturn, 1) := by decide +kernel
theorem zd_M_instruction_72 : decode zb_M_instruction 72 = .ok (.aload_n 0, 1) := by decide +kernel
theorem zd_M_instruction_73 : decode zb_M_instruction 73 = .ok (.getfield 68, 3) := by decide +kernel
theorem zd_M_instruction_76 : decode zb_M_instruction 76 = .ok (.aload_n 0, 1) := by decide +kernel
theorem zd_M_instruction_77 : decode zb_M_instruction 77 = .ok (.getfield 143, 3) := by decide +kernel
theorem zd_M_instruction_80 : decode zb_M_instruction 80 = .ok (.iload_n 1, 1) := by decide +kernel
theorem zd_M_instruction_81 : decode zb_M_instruction 81 = .ok (.iastore, 1) := by decide +kernel
theorem zd_M_instruction_82 : decode zb_M_instruction 82 = .ok (.aload_n 0, 1) := by decide +kernel
theorem zd_M_instruction_83 : decode zb_M_instruction 83 = .ok (.getfield 71, 3) := by decide +kernel
theorem zd_M_instruction_86 : decode zb_M_instruction 86 = .ok (.aload_n 0, 1) := by decide +kernel
theorem zd_M_instruction_87 : decode zb_M_instruction 87 = .ok (.getfield 143, 3) := by decide +kernel
theorem zd_M_instruction_90 : decode zb_M_instruction 90 = .ok (.iload_n 2, 1) := by decide +kernel
theorem zd_M_instruction_91 : decode zb_M_instruction 91 = .ok (.iastore, 1) := by decide +kernel
theorem zd_M_instruction_92 : decode zb_M_instruction 92 = .ok (.aload_n 0, 1) := by decide +kernel
theorem zd_M_instruction_93 : decode zb_M_instruction 93 = .ok (.getfield 74, 3) := by decide +kernel
theorem zd_M_instruction_96 : decode zb_M_instruction 96 = .ok (.aload_n 0, 1) := by decide +kernel
theorem zd_M_instruction_97 : decode zb_M_instruction 97 = .ok (.getfield 143, 3) := by decide +kernel
theorem zd_M_instruction_100 : decode zb_M_instruction 100 = .ok (.iload_n 3, 1) := by decide +kernel
theorem zd_M_instruction_101 : decode zb_M_instruction 101 = .ok (.iastore, 1) := by decide +kernel
theorem zd_M_instruction_102 : decode zb_M_instruction 102 = .ok (.aload_n 0, 1) := by decide +kernel
theorem zd_M_instruction_103 : decode zb_M_instruction 103 = .ok (.dup, 1) := by decide +kernel
theorem zd_M_instruction_104 : decode zb_M_instruction 104 = .ok (.getfield 143, 3) := by decide +kernel
theorem zd_M_instruction_107 : decode zb_M_instruction 107 = .ok (.iconst 1, 1) := by decide +kernel
theorem zd_M_instruction_108 : decode zb_M_instruction 108 = .ok (.iadd, 1) := by decide +kernel
theorem zd_M_instruction_109 : decode zb_M_instruction 109 = .ok (.putfield 143, 3) := by decide +kernel
theorem zd_M_instruction_112 : decode zb_M_instruction 112 = .ok (.aload_n 0, 1) := by decide +kernel
theorem zd_M_instruction_113 : decode zb_M_instruction 113 = .ok (.getfield 77, 3) := by decide +kernel
theorem zd_M_instruction_116 : decode zb_M_instruction 116 = .ok (.aload_n 0, 1) := by decide +kernel
theorem zd_M_instruction_117 : decode zb_M_instruction 117 = .ok (.getfield 143, 3) := by decide +kernel
theorem zd_M_instruction_120 : decode zb_M_instruction 120 = .ok (.aload_n 0, 1) := by decide +kernel
theorem zd_M_instruction_121 : decode zb_M_instruction 121 = .ok (.getfield 136, 3) := by decide +kernel
theorem zd_M_instruction_124 : decode zb_M_instruction 124 = .ok (.iastore, 1) := by decide +kernel
theorem zd_M_instruction_125 : decode zb_M_instruction 125 = .ok (.aload_n 0, 1) := by decide +kernel
theorem zd_M_instruction_126 : decode zb_M_instruction 126 = .ok (.getfield 143, 3) := by decide +kernel
theorem zd_M_instruction_129 : decode zb_M_instruction 129 = .ok (.iconst 1, 1) := by decide +kernel
theorem zd_M_instruction_130 : decode zb_M_instruction 130 = .ok (.isub, 1) := by decide +kernel
theorem zd_M_instruction_131 : decode zb_M_instruction 131 = .ok (.ireturn, 1) := by decide +kernel
theorem zd_M_memory_0 : decode zb_M_memory 0 = .ok (.aload_n 0, 1) := by decide +kernel
theorem zd_M_memory_1 : decode zb_M_memory 1 = .ok (.iload_n 1, 1) := by decide +kernel
theorem zd_M_memory_2 : decode zb_M_memory 2 = .ok (.i2l, 1) := by decide +kernel
theorem zd_M_memory_3 : decode zb_M_memory 3 = .ok (.lconst 0, 1) := by decide +kernel
theorem zd_M_memory_4 : decode zb_M_memory 4 = .ok (.ldc2_w 146, 3) := by decide +kernel
theorem zd_M_memory_7 : decode zb_M_memory 7 = .ok (.invokestatic 112, 3) := by decide +kernel
theorem zd_M_memory_10 : decode zb_M_memory 10 = .ok (.iload_n 2, 1) := by decide +kernel
theorem zd_M_memory_11 : decode zb_M_memory 11 = .ok (.i2l, 1) := by decide +kernel
theorem zd_M_memory_12 : decode zb_M_memory 12 = .ok (.lconst 0, 1) := by decide +kernel
theorem zd_M_memory_13 : decode zb_M_memory 13 = .ok (.ldc2_w 148, 3) := by decide +kernel
theorem zd_M_memory_16 : decode zb_M_memory 16 = .ok (.invokestatic 112, 3) := by decide +kernel
theorem zd_M_memory_19 : decode zb_M_memory 19 = .ok (.invokevirtual 116, 3) := by decide +kernel
theorem zd_M_memory_22 : decode zb_M_memory 22 = .ok (.ifCond .ne 5, 3) := by decide +kernel
theorem zd_M_memory_25 : decode zb_M_memory 25 = .ok (.iconst 0, 1) := by decide +kernel
theorem zd_M_memory_26 : decode zb_M_memory 26 = .ok (.ireturn, 1) := by decide +kernel
theorem zd_M_memory_27 : decode zb_M_memory 27 = .ok (.aload_n 0, 1) := by decide +kernel
theorem zd_M_memory_28 : decode zb_M_memory 28 = .ok (.getfield 37, 3) := by decide +kernel
theorem zd_M_memory_31 : decode zb_M_memory 31 = .ok (.iload_n 1, 1) := by decide +kernel
theorem zd_M_memory_32 : decode zb_M_memory 32 = .ok (.baload, 1) := by decide +kernel
theorem zd_M_memory_33 : decode zb_M_memory 33 = .ok (.sipush 255, 3) := by decide +kernel
theorem zd_M_memory_36 : decode zb_M_memory 36 = .ok (.iand, 1) := by decide +kernel
theorem zd_M_memory_37 : decode zb_M_memory 37 = .ok (.istore_n 3, 1) := by decide +kernel
theorem zd_M_memory_38 : decode zb_M_memory 38 = .ok (.aload_n 0, 1) := by decide +kernel
theorem zd_M_memory_39 : decode zb_M_memory 39 = .ok (.getfield 37, 3) := by decide +kernel
theorem zd_M_memory_42 : decode zb_M_memory 42 = .ok (.iload_n 1, 1) := by decide +kernel
theorem zd_M_memory_43 : decode zb_M_memory 43 = .ok (.iload_n 2, 1) := by decide +kernel
theorem zd_M_memory_44 : decode zb_M_memory 44 = .ok (.i2b, 1) := by decide +kernel
theorem zd_M_memory_45 : decode zb_M_memory 45 = .ok (.bastore, 1) := by decide +kernel
theorem zd_M_memory_46 : decode zb_M_memory 46 = .ok (.iload_n 3, 1) := by decide +kernel
theorem zd_M_memory_47 : decode zb_M_memory 47 = .ok (.ireturn, 1) := by decide +kernel
theorem zd_M_byteAt_0 : decode zb_M_byteAt 0 = .ok (.aload_n 0, 1) := by decide +kernel
theorem zd_M_byteAt_1 : decode zb_M_byteAt 1 = .ok (.iload_n 1, 1) := by decide +kernel
theorem zd_M_byteAt_2 : decode zb_M_byteAt 2 = .ok (.i2l, 1) := by decide +kernel
theorem zd_M_byteAt_3 : decode zb_M_byteAt 3 = .ok (.lconst 0, 1) := by decide +kernel
theorem zd_M_byteAt_4 : decode zb_M_byteAt 4 = .ok (.ldc2_w 146, 3) := by decide +kernel
theorem zd_M_byteAt_7 : decode zb_M_byteAt 7 = .ok (.invokestatic 112, 3) := by decide +kernel
theorem zd_M_byteAt_10 : decode zb_M_byteAt 10 = .ok (.iconst 1, 1) := by decide +kernel
theorem zd_M_byteAt_11 : decode zb_M_byteAt 11 = .ok (.invokevirtual 116, 3) := by decide +kernel
theorem zd_M_byteAt_14 : decode zb_M_byteAt 14 = .ok (.ifCond .eq 16, 3) := by decide +kernel
theorem zd_M_byteAt_17 : decode zb_M_byteAt 17 = .ok (.aload_n 0, 1) := by decide +kernel
theorem zd_M_byteAt_18 : decode zb_M_byteAt 18 = .ok (.getfield 37, 3) := by decide +kernel
theorem zd_M_byteAt_21 : decode zb_M_byteAt 21 = .ok (.iload_n 1, 1) := by decide +kernel
theorem zd_M_byteAt_22 : decode zb_M_byteAt 22 = .ok (.baload, 1) := by decide +kernel
theorem zd_M_byteAt_23 : decode zb_M_byteAt 23 = .ok (.sipush 255, 3) := by decide +kernel
theorem zd_M_byteAt_26 : decode zb_M_byteAt 26 = .ok (.iand, 1) := by decide +kernel
theorem zd_M_byteAt_27 : decode zb_M_byteAt 27 = .ok (.goto 4, 3) := by decide +kernel
theorem zd_M_byteAt_30 : decode zb_M_byteAt 30 = .ok (.iconst 0, 1) := by decide +kernel
theorem zd_M_byteAt_31 : decode zb_M_byteAt 31 = .ok (.ireturn, 1) := by decide +kernel
theorem zd_M_keep_0 : decode zb_M_keep 0 = .ok (.aload_n 0, 1) := by decide +kernel
theorem zd_M_keep_1 : decode zb_M_keep 1 = .ok (.getfield 150, 3) := by decide +kernel
theorem zd_M_keep_4 : decode zb_M_keep 4 = .ok (.bipush 8, 2) := by decide +kernel
theorem zd_M_keep_6 : decode zb_M_keep 6 = .ok (.if_icmp .ne 18, 3) := by decide +kernel
theorem zd_M_keep_9 : decode zb_M_keep 9 = .ok (.aload_n 0, 1) := by decide +kernel
theorem zd_M_keep_10 : decode zb_M_keep 10 = .ok (.getfield 17, 3) := by decide +kernel
theorem zd_M_keep_13 : decode zb_M_keep 13 = .ok (.iconst 0, 1) := by decide +kernel
theorem zd_M_keep_14 : decode zb_M_keep 14 = .ok (.iload_n 1, 1) := by decide +kernel
theorem zd_M_keep_15 : decode zb_M_keep 15 = .ok (.i2l, 1) := by decide +kernel
theorem zd_M_keep_16 : decode zb_M_keep 16 = .ok (.lastore, 1) := by decide +kernel
theorem zd_M_keep_17 : decode zb_M_keep 17 = .ok (.aload_n 0, 1) := by decide +kernel
theorem zd_M_keep_18 : decode zb_M_keep 18 = .ok (.iconst 2, 1) := by decide +kernel
theorem zd_M_keep_19 : decode zb_M_keep 19 = .ok (.putfield 153, 3) := by decide +kernel
theorem zd_M_keep_22 : decode zb_M_keep 22 = .ok (.iconst 0, 1) := by decide +kernel
theorem zd_M_keep_23 : decode zb_M_keep 23 = .ok (.ireturn, 1) := by decide +kernel
theorem zd_M_keep_24 : decode zb_M_keep 24 = .ok (.aload_n 0, 1) := by decide +kernel
theorem zd_M_keep_25 : decode zb_M_keep 25 = .ok (.getfield 86, 3) := by decide +kernel
theorem zd_M_keep_28 : decode zb_M_keep 28 = .ok (.aload_n 0, 1) := by decide +kernel
theorem zd_M_keep_29 : decode zb_M_keep 29 = .ok (.getfield 150, 3) := by decide +kernel
theorem zd_M_keep_32 : decode zb_M_keep 32 = .ok (.iload_n 1, 1) := by decide +kernel
theorem zd_M_keep_33 : decode zb_M_keep 33 = .ok (.iastore, 1) := by decide +kernel
theorem zd_M_keep_34 : decode zb_M_keep 34 = .ok (.aload_n 0, 1) := by decide +kernel
theorem zd_M_keep_35 : decode zb_M_keep 35 = .ok (.getfield 89, 3) := by decide +kernel
theorem zd_M_keep_38 : decode zb_M_keep 38 = .ok (.aload_n 0, 1) := by decide +kernel
theorem zd_M_keep_39 : decode zb_M_keep 39 = .ok (.getfield 150, 3) := by decide +kernel
theorem zd_M_keep_42 : decode zb_M_keep 42 = .ok (.aload_n 0, 1) := by decide +kernel
theorem zd_M_keep_43 : decode zb_M_keep 43 = .ok (.getfield 156, 3) := by decide +kernel
theorem zd_M_keep_46 : decode zb_M_keep 46 = .ok (.iastore, 1) := by decide +kernel
theorem zd_M_keep_47 : decode zb_M_keep 47 = .ok (.aload_n 0, 1) := by decide +kernel
theorem zd_M_keep_48 : decode zb_M_keep 48 = .ok (.dup, 1) := by decide +kernel
theorem zd_M_keep_49 : decode zb_M_keep 49 = .ok (.getfield 150, 3) := by decide +kernel
theorem zd_M_keep_52 : decode zb_M_keep 52 = .ok (.iconst 1, 1) := by decide +kernel
theorem zd_M_keep_53 : decode zb_M_keep 53 = .ok (.iadd, 1) := by decide +kernel
theorem zd_M_keep_54 : decode zb_M_keep 54 = .ok (.putfield 150, 3) := by decide +kernel
theorem zd_M_keep_57 : decode zb_M_keep 57 = .ok (.aload_n 0, 1) := by decide +kernel
theorem zd_M_keep_58 : decode zb_M_keep 58 = .ok (.iload_n 2, 1) := by decide +kernel
theorem zd_M_keep_59 : decode zb_M_keep 59 = .ok (.putfield 156, 3) := by decide +kernel
theorem zd_M_keep_62 : decode zb_M_keep 62 = .ok (.aload_n 0, 1) := by decide +kernel
theorem zd_M_keep_63 : decode zb_M_keep 63 = .ok (.getfield 17, 3) := by decide +kernel
theorem zd_M_keep_66 : decode zb_M_keep 66 = .ok (.iconst 0, 1) := by decide +kernel
theorem zd_M_keep_67 : decode zb_M_keep 67 = .ok (.iload_n 3, 1) := by decide +kernel
theorem zd_M_keep_68 : decode zb_M_keep 68 = .ok (.i2l, 1) := by decide +kernel
theorem zd_M_keep_69 : decode zb_M_keep 69 = .ok (.lastore, 1) := by decide +kernel
theorem zd_M_keep_70 : decode zb_M_keep 70 = .ok (.aload_n 0, 1) := by decide +kernel
theorem zd_M_keep_71 : decode zb_M_keep 71 = .ok (.getfield 27, 3) := by decide +kernel
theorem zd_M_keep_74 : decode zb_M_keep 74 = .ok (.iconst 0, 1) := by decide +kernel
theorem zd_M_keep_75 : decode zb_M_keep 75 = .ok (.iconst 0, 1) := by decide +kernel
theorem zd_M_keep_76 : decode zb_M_keep 76 = .ok (.bastore, 1) := by decide +kernel
theorem zd_M_keep_77 : decode zb_M_keep 77 = .ok (.iconst 1, 1) := by decide +kernel
theorem zd_M_keep_78 : decode zb_M_keep 78 = .ok (.ireturn, 1) := by decide +kernel
theorem zd_M_takeFault_0 : decode zb_M_takeFault 0 = .ok (.aload_n 0, 1) := by decide +kernel
theorem zd_M_takeFault_1 : decode zb_M_takeFault 1 = .ok (.getfield 104, 3) := by decide +kernel
theorem zd_M_takeFault_4 : decode zb_M_takeFault 4 = .ok (.iconst 2, 1) := by decide +kernel
theorem zd_M_takeFault_5 : decode zb_M_takeFault 5 = .ok (.dup2, 1) := by decide +kernel
theorem zd_M_takeFault_6 : decode zb_M_takeFault 6 = .ok (.iaload, 1) := by decide +kernel
theorem zd_M_takeFault_7 : decode zb_M_takeFault 7 = .ok (.iconst 1, 1) := by decide +kernel
theorem zd_M_takeFault_8 : decode zb_M_takeFault 8 = .ok (.iadd, 1) := by decide +kernel
theorem zd_M_takeFault_9 : decode zb_M_takeFault 9 = .ok (.iastore, 1) := by decide +kernel
theorem zd_M_takeFault_10 : decode zb_M_takeFault 10 = .ok (.aload_n 0, 1) := by decide +kernel
theorem zd_M_takeFault_11 : decode zb_M_takeFault 11 = .ok (.iload_n 1, 1) := by decide +kernel
theorem zd_M_takeFault_12 : decode zb_M_takeFault 12 = .ok (.putfield 159, 3) := by decide +kernel
theorem zd_M_takeFault_15 : decode zb_M_takeFault 15 = .ok (.aload_n 0, 1) := by decide +kernel
theorem zd_M_takeFault_16 : decode zb_M_takeFault 16 = .ok (.aload_n 0, 1) := by decide +kernel
theorem zd_M_takeFault_17 : decode zb_M_takeFault 17 = .ok (.getfield 162, 3) := by decide +kernel
theorem zd_M_takeFault_20 : decode zb_M_takeFault 20 = .ok (.putfield 165, 3) := by decide +kernel
theorem zd_M_takeFault_23 : decode zb_M_takeFault 23 = .ok (.aload_n 0, 1) := by decide +kernel
theorem zd_M_takeFault_24 : decode zb_M_takeFault 24 = .ok (.iconst 0, 1) := by decide +kernel
theorem zd_M_takeFault_25 : decode zb_M_takeFault 25 = .ok (.putfield 168, 3) := by decide +kernel
theorem zd_M_takeFault_28 : decode zb_M_takeFault 28 = .ok (.aload_n 0, 1) := by decide +kernel
theorem zd_M_takeFault_29 : decode zb_M_takeFault 29 = .ok (.aload_n 0, 1) := by decide +kernel
theorem zd_M_takeFault_30 : decode zb_M_takeFault 30 = .ok (.getfield 162, 3) := by decide +kernel
theorem zd_M_takeFault_33 : decode zb_M_takeFault 33 = .ok (.bipush 15, 2) := by decide +kernel
theorem zd_M_takeFault_35 : decode zb_M_takeFault 35 = .ok (.iconst 4, 1) := by decide +kernel
theorem zd_M_takeFault_36 : decode zb_M_takeFault 36 = .ok (.iload_n 1, 1) := by decide +kernel
theorem zd_M_takeFault_37 : decode zb_M_takeFault 37 = .ok (.imul, 1) := by decide +kernel
theorem zd_M_takeFault_38 : decode zb_M_takeFault 38 = .ok (.invokevirtual 172, 3) := by decide +kernel
theorem zd_M_takeFault_41 : decode zb_M_takeFault 41 = .ok (.pop, 1) := by decide +kernel
theorem zd_M_takeFault_42 : decode zb_M_takeFault 42 = .ok (.return_, 1) := by decide +kernel
theorem zd_M_waitingLine_0 : decode zb_M_waitingLine 0 = .ok (.iconst (-1), 1) := by decide +kernel
theorem zd_M_waitingLine_1 : decode zb_M_waitingLine 1 = .ok (.istore_n 1, 1) := by decide +kernel
theorem zd_M_waitingLine_2 : decode zb_M_waitingLine 2 = .ok (.iconst 0, 1) := by decide +kernel
theorem zd_M_waitingLine_3 : decode zb_M_waitingLine 3 = .ok (.istore_n 2, 1) := by decide +kernel
theorem zd_M_waitingLine_4 : decode zb_M_waitingLine 4 = .ok (.iload_n 2, 1) := by decide +kernel
theorem zd_M_waitingLine_5 : decode zb_M_waitingLine 5 = .ok (.bipush 8, 2) := by decide +kernel
theorem zd_M_waitingLine_7 : decode zb_M_waitingLine 7 = .ok (.if_icmp .ge 53, 3) := by decide +kernel
theorem zd_M_waitingLine_10 : decode zb_M_waitingLine 10 = .ok (.aload_n 0, 1) := by decide +kernel
theorem zd_M_waitingLine_11 : decode zb_M_waitingLine 11 = .ok (.getfield 80, 3) := by decide +kernel
theorem zd_M_waitingLine_14 : decode zb_M_waitingLine 14 = .ok (.iload_n 2, 1) := by decide +kernel
theorem zd_M_waitingLine_15 : decode zb_M_waitingLine 15 = .ok (.baload, 1) := by decide +kernel
theorem zd_M_waitingLine_16 : decode zb_M_waitingLine 16 = .ok (.ifCond .eq 38, 3) := by decide +kernel
theorem zd_M_waitingLine_19 : decode zb_M_waitingLine 19 = .ok (.aload_n 0, 1) := by decide +kernel
theorem zd_M_waitingLine_20 : decode zb_M_waitingLine 20 = .ok (.getfield 83, 3) := by decide +kernel
theorem zd_M_waitingLine_23 : decode zb_M_waitingLine 23 = .ok (.iload_n 2, 1) := by decide +kernel
theorem zd_M_waitingLine_24 : decode zb_M_waitingLine 24 = .ok (.iaload, 1) := by decide +kernel
theorem zd_M_waitingLine_25 : decode zb_M_waitingLine 25 = .ok (.aload_n 0, 1) := by decide +kernel
theorem zd_M_waitingLine_26 : decode zb_M_waitingLine 26 = .ok (.getfield 156, 3) := by decide +kernel
theorem zd_M_waitingLine_29 : decode zb_M_waitingLine 29 = .ok (.if_icmp .le 25, 3) := by decide +kernel
theorem zd_M_waitingLine_32 : decode zb_M_waitingLine 32 = .ok (.iload_n 1, 1) := by decide +kernel
theorem zd_M_waitingLine_33 : decode zb_M_waitingLine 33 = .ok (.iconst (-1), 1) := by decide +kernel
theorem zd_M_waitingLine_34 : decode zb_M_waitingLine 34 = .ok (.if_icmp .eq 18, 3) := by decide +kernel
theorem zd_M_waitingLine_37 : decode zb_M_waitingLine 37 = .ok (.aload_n 0, 1) := by decide +kernel
theorem zd_M_waitingLine_38 : decode zb_M_waitingLine 38 = .ok (.getfield 83, 3) := by decide +kernel
theorem zd_M_waitingLine_41 : decode zb_M_waitingLine 41 = .ok (.iload_n 2, 1) := by decide +kernel
theorem zd_M_waitingLine_42 : decode zb_M_waitingLine 42 = .ok (.iaload, 1) := by decide +kernel
theorem zd_M_waitingLine_43 : decode zb_M_waitingLine 43 = .ok (.aload_n 0, 1) := by decide +kernel
theorem zd_M_waitingLine_44 : decode zb_M_waitingLine 44 = .ok (.getfield 83, 3) := by decide +kernel
theorem zd_M_waitingLine_47 : decode zb_M_waitingLine 47 = .ok (.iload_n 1, 1) := by decide +kernel
theorem zd_M_waitingLine_48 : decode zb_M_waitingLine 48 = .ok (.iaload, 1) := by decide +kernel
theorem zd_M_waitingLine_49 : decode zb_M_waitingLine 49 = .ok (.if_icmp .le 5, 3) := by decide +kernel
theorem zd_M_waitingLine_52 : decode zb_M_waitingLine 52 = .ok (.iload_n 2, 1) := by decide +kernel
theorem zd_M_waitingLine_53 : decode zb_M_waitingLine 53 = .ok (.istore_n 1, 1) := by decide +kernel
theorem zd_M_waitingLine_54 : decode zb_M_waitingLine 54 = .ok (.iinc 2 1, 3) := by decide +kernel
theorem zd_M_waitingLine_57 : decode zb_M_waitingLine 57 = .ok (.goto (-53), 3) := by decide +kernel
theorem zd_M_waitingLine_60 : decode zb_M_waitingLine 60 = .ok (.iload_n 1, 1) := by decide +kernel
theorem zd_M_waitingLine_61 : decode zb_M_waitingLine 61 = .ok (.ireturn, 1) := by decide +kernel
theorem zd_M_isParallel_0 : decode zb_M_isParallel 0 = .ok (.aload_n 0, 1) := by decide +kernel
theorem zd_M_isParallel_1 : decode zb_M_isParallel 1 = .ok (.getfield 74, 3) := by decide +kernel
theorem zd_M_isParallel_4 : decode zb_M_isParallel 4 = .ok (.iload_n 1, 1) := by decide +kernel
theorem zd_M_isParallel_5 : decode zb_M_isParallel 5 = .ok (.iaload, 1) := by decide +kernel
theorem zd_M_isParallel_6 : decode zb_M_isParallel 6 = .ok (.iconst 1, 1) := by decide +kernel
theorem zd_M_isParallel_7 : decode zb_M_isParallel 7 = .ok (.iand, 1) := by decide +kernel
theorem zd_M_isParallel_8 : decode zb_M_isParallel 8 = .ok (.iconst 1, 1) := by decide +kernel
theorem zd_M_isParallel_9 : decode zb_M_isParallel 9 = .ok (.if_icmp .ne 7, 3) := by decide +kernel
theorem zd_M_isParallel_12 : decode zb_M_isParallel 12 = .ok (.iconst 1, 1) := by decide +kernel
theorem zd_M_isParallel_13 : decode zb_M_isParallel 13 = .ok (.goto 4, 3) := by decide +kernel
theorem zd_M_isParallel_16 : decode zb_M_isParallel 16 = .ok (.iconst 0, 1) := by decide +kernel
theorem zd_M_isParallel_17 : decode zb_M_isParallel 17 = .ok (.ireturn, 1) := by decide +kernel
theorem zd_M_operand_0 : decode zb_M_operand 0 = .ok (.iload_n 2, 1) := by decide +kernel
theorem zd_M_operand_1 : decode zb_M_operand 1 = .ok (.bipush 32, 2) := by decide +kernel
theorem zd_M_operand_3 : decode zb_M_operand 3 = .ok (.if_icmp .ge 27, 3) := by decide +kernel
theorem zd_M_operand_6 : decode zb_M_operand 6 = .ok (.aload_n 0, 1) := by decide +kernel
theorem zd_M_operand_7 : decode zb_M_operand 7 = .ok (.iload_n 1, 1) := by decide +kernel
theorem zd_M_operand_8 : decode zb_M_operand 8 = .ok (.invokevirtual 176, 3) := by decide +kernel
theorem zd_M_operand_11 : decode zb_M_operand 11 = .ok (.ifCond .eq 12, 3) := by decide +kernel
theorem zd_M_operand_14 : decode zb_M_operand 14 = .ok (.aload_n 0, 1) := by decide +kernel
theorem zd_M_operand_15 : decode zb_M_operand 15 = .ok (.getfield 21, 3) := by decide +kernel
theorem zd_M_operand_18 : decode zb_M_operand 18 = .ok (.iload_n 2, 1) := by decide +kernel
theorem zd_M_operand_19 : decode zb_M_operand 19 = .ok (.laload, 1) := by decide +kernel
theorem zd_M_operand_20 : decode zb_M_operand 20 = .ok (.goto 9, 3) := by decide +kernel
theorem zd_M_operand_23 : decode zb_M_operand 23 = .ok (.aload_n 0, 1) := by decide +kernel
theorem zd_M_operand_24 : decode zb_M_operand 24 = .ok (.getfield 17, 3) := by decide +kernel
theorem zd_M_operand_27 : decode zb_M_operand 27 = .ok (.iload_n 2, 1) := by decide +kernel
theorem zd_M_operand_28 : decode zb_M_operand 28 = .ok (.laload, 1) := by decide +kernel
theorem zd_M_operand_29 : decode zb_M_operand 29 = .ok (.lreturn, 1) := by decide +kernel
theorem zd_M_operand_30 : decode zb_M_operand 30 = .ok (.iload_n 2, 1) := by decide +kernel
theorem zd_M_operand_31 : decode zb_M_operand 31 = .ok (.bipush 64, 2) := by decide +kernel
theorem zd_M_operand_33 : decode zb_M_operand 33 = .ok (.if_icmp .ge 13, 3) := by decide +kernel
theorem zd_M_operand_36 : decode zb_M_operand 36 = .ok (.aload_n 0, 1) := by decide +kernel
theorem zd_M_operand_37 : decode zb_M_operand 37 = .ok (.getfield 44, 3) := by decide +kernel
theorem zd_M_operand_40 : decode zb_M_operand 40 = .ok (.iload_n 2, 1) := by decide +kernel
theorem zd_M_operand_41 : decode zb_M_operand 41 = .ok (.bipush 32, 2) := by decide +kernel
theorem zd_M_operand_43 : decode zb_M_operand 43 = .ok (.isub, 1) := by decide +kernel
theorem zd_M_operand_44 : decode zb_M_operand 44 = .ok (.laload, 1) := by decide +kernel
theorem zd_M_operand_45 : decode zb_M_operand 45 = .ok (.lreturn, 1) := by decide +kernel
theorem zd_M_operand_46 : decode zb_M_operand 46 = .ok (.iload_n 2, 1) := by decide +kernel
theorem zd_M_operand_47 : decode zb_M_operand 47 = .ok (.bipush 64, 2) := by decide +kernel
theorem zd_M_operand_49 : decode zb_M_operand 49 = .ok (.isub, 1) := by decide +kernel
theorem zd_M_operand_50 : decode zb_M_operand 50 = .ok (.istore_n 3, 1) := by decide +kernel
theorem zd_M_operand_51 : decode zb_M_operand 51 = .ok (.aload_n 0, 1) := by decide +kernel
theorem zd_M_operand_52 : decode zb_M_operand 52 = .ok (.getfield 179, 3) := by decide +kernel
theorem zd_M_operand_55 : decode zb_M_operand 55 = .ok (.aload_n 0, 1) := by decide +kernel
theorem zd_M_operand_56 : decode zb_M_operand 56 = .ok (.getfield 47, 3) := by decide +kernel
theorem zd_M_operand_59 : decode zb_M_operand 59 = .ok (.iload_n 3, 1) := by decide +kernel
theorem zd_M_operand_60 : decode zb_M_operand 60 = .ok (.iaload, 1) := by decide +kernel
theorem zd_M_operand_61 : decode zb_M_operand 61 = .ok (.ishr, 1) := by decide +kernel
theorem zd_M_operand_62 : decode zb_M_operand 62 = .ok (.iconst 1, 1) := by decide +kernel
theorem zd_M_operand_63 : decode zb_M_operand 63 = .ok (.aload_n 0, 1) := by decide +kernel
theorem zd_M_operand_64 : decode zb_M_operand 64 = .ok (.getfield 50, 3) := by decide +kernel
theorem zd_M_operand_67 : decode zb_M_operand 67 = .ok (.iload_n 3, 1) := by decide +kernel
theorem zd_M_operand_68 : decode zb_M_operand 68 = .ok (.iaload, 1) := by decide +kernel
theorem zd_M_operand_69 : decode zb_M_operand 69 = .ok (.aload_n 0, 1) := by decide +kernel
theorem zd_M_operand_70 : decode zb_M_operand 70 = .ok (.getfield 47, 3) := by decide +kernel
theorem zd_M_operand_73 : decode zb_M_operand 73 = .ok (.iload_n 3, 1) := by decide +kernel
theorem zd_M_operand_74 : decode zb_M_operand 74 = .ok (.iaload, 1) := by decide +kernel
theorem zd_M_operand_75 : decode zb_M_operand 75 = .ok (.isub, 1) := by decide +kernel
theorem zd_M_operand_76 : decode zb_M_operand 76 = .ok (.iconst 1, 1) := by decide +kernel
theorem zd_M_operand_77 : decode zb_M_operand 77 = .ok (.iadd, 1) := by decide +kernel
theorem zd_M_operand_78 : decode zb_M_operand 78 = .ok (.ishl, 1) := by decide +kernel
theorem zd_M_operand_79 : decode zb_M_operand 79 = .ok (.iconst 1, 1) := by decide +kernel
theorem zd_M_operand_80 : decode zb_M_operand 80 = .ok (.isub, 1) := by decide +kernel
theorem zd_M_operand_81 : decode zb_M_operand 81 = .ok (.iand, 1) := by decide +kernel
theorem zd_M_operand_82 : decode zb_M_operand 82 = .ok (.i2l, 1) := by decide +kernel
theorem zd_M_operand_83 : decode zb_M_operand 83 = .ok (.lstore 4, 2) := by decide +kernel
theorem zd_M_operand_85 : decode zb_M_operand 85 = .ok (.aload_n 0, 1) := by decide +kernel
theorem zd_M_operand_86 : decode zb_M_operand 86 = .ok (.getfield 53, 3) := by decide +kernel
theorem zd_M_operand_89 : decode zb_M_operand 89 = .ok (.iload_n 3, 1) := by decide +kernel
theorem zd_M_operand_90 : decode zb_M_operand 90 = .ok (.baload, 1) := by decide +kernel
theorem zd_M_operand_91 : decode zb_M_operand 91 = .ok (.ifCond .eq 24, 3) := by decide +kernel
theorem zd_M_operand_94 : decode zb_M_operand 94 = .ok (.aload_n 0, 1) := by decide +kernel
theorem zd_M_operand_95 : decode zb_M_operand 95 = .ok (.getfield 179, 3) := by decide +kernel
theorem zd_M_operand_98 : decode zb_M_operand 98 = .ok (.aload_n 0, 1) := by decide +kernel
theorem zd_M_operand_99 : decode zb_M_operand 99 = .ok (.getfield 50, 3) := by decide +kernel
theorem zd_M_operand_102 : decode zb_M_operand 102 = .ok (.iload_n 3, 1) := by decide +kernel
theorem zd_M_operand_103 : decode zb_M_operand 103 = .ok (.iaload, 1) := by decide +kernel
theorem zd_M_operand_104 : decode zb_M_operand 104 = .ok (.ishr, 1) := by decide +kernel
theorem zd_M_operand_105 : decode zb_M_operand 105 = .ok (.iconst 1, 1) := by decide +kernel
theorem zd_M_operand_106 : decode zb_M_operand 106 = .ok (.iand, 1) := by decide +kernel
theorem zd_M_operand_107 : decode zb_M_operand 107 = .ok (.iconst 1, 1) := by decide +kernel
theorem zd_M_operand_108 : decode zb_M_operand 108 = .ok (.if_icmp .ne 7, 3) := by decide +kernel
theorem zd_M_operand_111 : decode zb_M_operand 111 = .ok (.iconst 1, 1) := by decide +kernel
theorem zd_M_operand_112 : decode zb_M_operand 112 = .ok (.goto 4, 3) := by decide +kernel
theorem zd_M_operand_115 : decode zb_M_operand 115 = .ok (.iconst 0, 1) := by decide +kernel
theorem zd_M_operand_116 : decode zb_M_operand 116 = .ok (.istore 6, 2) := by decide +kernel
theorem zd_M_operand_118 : decode zb_M_operand 118 = .ok (.iload 6, 2) := by decide +kernel
theorem zd_M_operand_120 : decode zb_M_operand 120 = .ok (.ifCond .eq 28, 3) := by decide +kernel
theorem zd_M_operand_123 : decode zb_M_operand 123 = .ok (.lload 4, 2) := by decide +kernel
theorem zd_M_operand_125 : decode zb_M_operand 125 = .ok (.ldc2_w 182, 3) := by decide +kernel
theorem zd_M_operand_128 : decode zb_M_operand 128 = .ok (.aload_n 0, 1) := by decide +kernel
theorem zd_M_operand_129 : decode zb_M_operand 129 = .ok (.getfield 50, 3) := by decide +kernel
theorem zd_M_operand_132 : decode zb_M_operand 132 = .ok (.iload_n 3, 1) := by decide +kernel
theorem zd_M_operand_133 : decode zb_M_operand 133 = .ok (.iaload, 1) := by decide +kernel
theorem zd_M_operand_134 : decode zb_M_operand 134 = .ok (.aload_n 0, 1) := by decide +kernel
theorem zd_M_operand_135 : decode zb_M_operand 135 = .ok (.getfield 47, 3) := by decide +kernel
theorem zd_M_operand_138 : decode zb_M_operand 138 = .ok (.iload_n 3, 1) := by decide +kernel
theorem zd_M_operand_139 : decode zb_M_operand 139 = .ok (.iaload, 1) := by decide +kernel
theorem zd_M_operand_140 : decode zb_M_operand 140 = .ok (.isub, 1) := by decide +kernel
theorem zd_M_operand_141 : decode zb_M_operand 141 = .ok (.iconst 1, 1) := by decide +kernel
theorem zd_M_operand_142 : decode zb_M_operand 142 = .ok (.iadd, 1) := by decide +kernel
theorem zd_M_operand_143 : decode zb_M_operand 143 = .ok (.lshl, 1) := by decide +kernel
theorem zd_M_operand_144 : decode zb_M_operand 144 = .ok (.lor, 1) := by decide +kernel
theorem zd_M_operand_145 : decode zb_M_operand 145 = .ok (.goto 5, 3) := by decide +kernel
theorem zd_M_operand_148 : decode zb_M_operand 148 = .ok (.lload 4, 2) := by decide +kernel
theorem zd_M_operand_150 : decode zb_M_operand 150 = .ok (.lreturn, 1) := by decide +kernel
theorem zd_M_isMarked_0 : decode zb_M_isMarked 0 = .ok (.iload_n 2, 1) := by decide +kernel
theorem zd_M_isMarked_1 : decode zb_M_isMarked 1 = .ok (.bipush 32, 2) := by decide +kernel
theorem zd_M_isMarked_3 : decode zb_M_isMarked 3 = .ok (.if_icmp .ge 36, 3) := by decide +kernel
theorem zd_M_isMarked_6 : decode zb_M_isMarked 6 = .ok (.aload_n 0, 1) := by decide +kernel
theorem zd_M_isMarked_7 : decode zb_M_isMarked 7 = .ok (.iload_n 1, 1) := by decide +kernel
theorem zd_M_isMarked_8 : decode zb_M_isMarked 8 = .ok (.invokevirtual 176, 3) := by decide +kernel
theorem zd_M_isMarked_11 : decode zb_M_isMarked 11 = .ok (.ifCond .eq 15, 3) := by decide +kernel
theorem zd_M_isMarked_14 : decode zb_M_isMarked 14 = .ok (.aload_n 0, 1) := by decide +kernel
theorem zd_M_isMarked_15 : decode zb_M_isMarked 15 = .ok (.getfield 31, 3) := by decide +kernel
theorem zd_M_isMarked_18 : decode zb_M_isMarked 18 = .ok (.iload_n 2, 1) := by decide +kernel
theorem zd_M_isMarked_19 : decode zb_M_isMarked 19 = .ok (.baload, 1) := by decide +kernel
theorem zd_M_isMarked_20 : decode zb_M_isMarked 20 = .ok (.ifCond .eq 19, 3) := by decide +kernel
theorem zd_M_isMarked_23 : decode zb_M_isMarked 23 = .ok (.goto 12, 3) := by decide +kernel
theorem zd_M_isMarked_26 : decode zb_M_isMarked 26 = .ok (.aload_n 0, 1) := by decide +kernel
theorem zd_M_isMarked_27 : decode zb_M_isMarked 27 = .ok (.getfield 27, 3) := by decide +kernel
theorem zd_M_isMarked_30 : decode zb_M_isMarked 30 = .ok (.iload_n 2, 1) := by decide +kernel
theorem zd_M_isMarked_31 : decode zb_M_isMarked 31 = .ok (.baload, 1) := by decide +kernel
theorem zd_M_isMarked_32 : decode zb_M_isMarked 32 = .ok (.ifCond .eq 7, 3) := by decide +kernel
theorem zd_M_isMarked_35 : decode zb_M_isMarked 35 = .ok (.iconst 1, 1) := by decide +kernel
theorem zd_M_isMarked_36 : decode zb_M_isMarked 36 = .ok (.goto 4, 3) := by decide +kernel
theorem zd_M_isMarked_39 : decode zb_M_isMarked 39 = .ok (.iconst 0, 1) := by decide +kernel
theorem zd_M_isMarked_40 : decode zb_M_isMarked 40 = .ok (.ireturn, 1) := by decide +kernel
theorem zd_M_setRegister_0 : decode zb_M_setRegister 0 = .ok (.aload_n 0, 1) := by decide +kernel
theorem zd_M_setRegister_1 : decode zb_M_setRegister 1 = .ok (.getfield 17, 3) := by decide +kernel
theorem zd_M_setRegister_4 : decode zb_M_setRegister 4 = .ok (.iload_n 1, 1) := by decide +kernel
theorem zd_M_setRegister_5 : decode zb_M_setRegister 5 = .ok (.lload_n 2, 1) := by decide +kernel
theorem zd_M_setRegister_6 : decode zb_M_setRegister 6 = .ok (.lastore, 1) := by decide +kernel
theorem zd_M_setRegister_7 : decode zb_M_setRegister 7 = .ok (.aload_n 0, 1) := by decide +kernel
theorem zd_M_setRegister_8 : decode zb_M_setRegister 8 = .ok (.getfield 27, 3) := by decide +kernel
theorem zd_M_setRegister_11 : decode zb_M_setRegister 11 = .ok (.iload_n 1, 1) := by decide +kernel
theorem zd_M_setRegister_12 : decode zb_M_setRegister 12 = .ok (.iload 4, 2) := by decide +kernel
theorem zd_M_setRegister_14 : decode zb_M_setRegister 14 = .ok (.bastore, 1) := by decide +kernel
theorem zd_M_setRegister_15 : decode zb_M_setRegister 15 = .ok (.aload_n 0, 1) := by decide +kernel
theorem zd_M_setRegister_16 : decode zb_M_setRegister 16 = .ok (.aload_n 0, 1) := by decide +kernel
theorem zd_M_setRegister_17 : decode zb_M_setRegister 17 = .ok (.getfield 184, 3) := by decide +kernel
theorem zd_M_setRegister_20 : decode zb_M_setRegister 20 = .ok (.ifCond .ne 7, 3) := by decide +kernel
theorem zd_M_setRegister_23 : decode zb_M_setRegister 23 = .ok (.iload_n 1, 1) := by decide +kernel
theorem zd_M_setRegister_24 : decode zb_M_setRegister 24 = .ok (.ifCond .ne 7, 3) := by decide +kernel
theorem zd_M_setRegister_27 : decode zb_M_setRegister 27 = .ok (.iconst 1, 1) := by decide +kernel
theorem zd_M_setRegister_28 : decode zb_M_setRegister 28 = .ok (.goto 4, 3) := by decide +kernel
theorem zd_M_setRegister_31 : decode zb_M_setRegister 31 = .ok (.iconst 0, 1) := by decide +kernel
theorem zd_M_setRegister_32 : decode zb_M_setRegister 32 = .ok (.putfield 184, 3) := by decide +kernel
theorem zd_M_setRegister_35 : decode zb_M_setRegister 35 = .ok (.return_, 1) := by decide +kernel
theorem zd_M_setMemory_0 : decode zb_M_setMemory 0 = .ok (.aload_n 0, 1) := by decide +kernel
theorem zd_M_setMemory_1 : decode zb_M_setMemory 1 = .ok (.getfield 37, 3) := by decide +kernel
theorem zd_M_setMemory_4 : decode zb_M_setMemory 4 = .ok (.iload_n 1, 1) := by decide +kernel
theorem zd_M_setMemory_5 : decode zb_M_setMemory 5 = .ok (.lload_n 2, 1) := by decide +kernel
theorem zd_M_setMemory_6 : decode zb_M_setMemory 6 = .ok (.l2i, 1) := by decide +kernel
theorem zd_M_setMemory_7 : decode zb_M_setMemory 7 = .ok (.i2b, 1) := by decide +kernel
theorem zd_M_setMemory_8 : decode zb_M_setMemory 8 = .ok (.bastore, 1) := by decide +kernel
theorem zd_M_setMemory_9 : decode zb_M_setMemory 9 = .ok (.iload 4, 2) := by decide +kernel
theorem zd_M_setMemory_11 : decode zb_M_setMemory 11 = .ok (.iconst 2, 1) := by decide +kernel
theorem zd_M_setMemory_12 : decode zb_M_setMemory 12 = .ok (.if_icmp .ne 17, 3) := by decide +kernel
theorem zd_M_setMemory_15 : decode zb_M_setMemory 15 = .ok (.aload_n 0, 1) := by decide +kernel
theorem zd_M_setMemory_16 : decode zb_M_setMemory 16 = .ok (.getfield 37, 3) := by decide +kernel
theorem zd_M_setMemory_19 : decode zb_M_setMemory 19 = .ok (.iload_n 1, 1) := by decide +kernel
theorem zd_M_setMemory_20 : decode zb_M_setMemory 20 = .ok (.iconst 1, 1) := by decide +kernel
theorem zd_M_setMemory_21 : decode zb_M_setMemory 21 = .ok (.iadd, 1) := by decide +kernel
theorem zd_M_setMemory_22 : decode zb_M_setMemory 22 = .ok (.lload_n 2, 1) := by decide +kernel
theorem zd_M_setMemory_23 : decode zb_M_setMemory 23 = .ok (.bipush 8, 2) := by decide +kernel
theorem zd_M_setMemory_25 : decode zb_M_setMemory 25 = .ok (.lshr, 1) := by decide +kernel
theorem zd_M_setMemory_26 : decode zb_M_setMemory 26 = .ok (.l2i, 1) := by decide +kernel
theorem zd_M_setMemory_27 : decode zb_M_setMemory 27 = .ok (.i2b, 1) := by decide +kernel
theorem zd_M_setMemory_28 : decode zb_M_setMemory 28 = .ok (.bastore, 1) := by decide +kernel
theorem zd_M_setMemory_29 : decode zb_M_setMemory 29 = .ok (.return_, 1) := by decide +kernel
theorem zd_M_later_0 : decode zb_M_later 0 = .ok (.aload_n 0, 1) := by decide +kernel
theorem zd_M_later_1 : decode zb_M_later 1 = .ok (.getfield 92, 3) := by decide +kernel
theorem zd_M_later_4 : decode zb_M_later 4 = .ok (.aload_n 0, 1) := by decide +kernel
theorem zd_M_later_5 : decode zb_M_later 5 = .ok (.getfield 187, 3) := by decide +kernel
theorem zd_M_later_8 : decode zb_M_later 8 = .ok (.iload_n 1, 1) := by decide +kernel
theorem zd_M_later_9 : decode zb_M_later 9 = .ok (.iastore, 1) := by decide +kernel
theorem zd_M_later_10 : decode zb_M_later 10 = .ok (.aload_n 0, 1) := by decide +kernel
theorem zd_M_later_11 : decode zb_M_later 11 = .ok (.getfield 95, 3) := by decide +kernel
theorem zd_M_later_14 : decode zb_M_later 14 = .ok (.aload_n 0, 1) := by decide +kernel
theorem zd_M_later_15 : decode zb_M_later 15 = .ok (.getfield 187, 3) := by decide +kernel
theorem zd_M_later_18 : decode zb_M_later 18 = .ok (.iload_n 2, 1) := by decide +kernel
theorem zd_M_later_19 : decode zb_M_later 19 = .ok (.iastore, 1) := by decide +kernel
theorem zd_M_later_20 : decode zb_M_later 20 = .ok (.aload_n 0, 1) := by decide +kernel
theorem zd_M_later_21 : decode zb_M_later 21 = .ok (.getfield 98, 3) := by decide +kernel
theorem zd_M_later_24 : decode zb_M_later 24 = .ok (.aload_n 0, 1) := by decide +kernel
theorem zd_M_later_25 : decode zb_M_later 25 = .ok (.getfield 187, 3) := by decide +kernel
theorem zd_M_later_28 : decode zb_M_later 28 = .ok (.lload_n 3, 1) := by decide +kernel
theorem zd_M_later_29 : decode zb_M_later 29 = .ok (.lastore, 1) := by decide +kernel
theorem zd_M_later_30 : decode zb_M_later 30 = .ok (.aload_n 0, 1) := by decide +kernel
theorem zd_M_later_31 : decode zb_M_later 31 = .ok (.getfield 101, 3) := by decide +kernel
theorem zd_M_later_34 : decode zb_M_later 34 = .ok (.aload_n 0, 1) := by decide +kernel
theorem zd_M_later_35 : decode zb_M_later 35 = .ok (.getfield 187, 3) := by decide +kernel
theorem zd_M_later_38 : decode zb_M_later 38 = .ok (.iload 5, 2) := by decide +kernel
theorem zd_M_later_40 : decode zb_M_later 40 = .ok (.bastore, 1) := by decide +kernel
theorem zd_M_later_41 : decode zb_M_later 41 = .ok (.aload_n 0, 1) := by decide +kernel
theorem zd_M_later_42 : decode zb_M_later 42 = .ok (.dup, 1) := by decide +kernel
theorem zd_M_later_43 : decode zb_M_later 43 = .ok (.getfield 187, 3) := by decide +kernel
theorem zd_M_later_46 : decode zb_M_later 46 = .ok (.iconst 1, 1) := by decide +kernel
theorem zd_M_later_47 : decode zb_M_later 47 = .ok (.iadd, 1) := by decide +kernel
theorem zd_M_later_48 : decode zb_M_later 48 = .ok (.putfield 187, 3) := by decide +kernel
theorem zd_M_later_51 : decode zb_M_later 51 = .ok (.return_, 1) := by decide +kernel
theorem zd_M_result_0 : decode zb_M_result 0 = .ok (.aload_n 0, 1) := by decide +kernel
theorem zd_M_result_1 : decode zb_M_result 1 = .ok (.aload_n 0, 1) := by decide +kernel
theorem zd_M_result_2 : decode zb_M_result 2 = .ok (.getfield 65, 3) := by decide +kernel
theorem zd_M_result_5 : decode zb_M_result 5 = .ok (.iload_n 2, 1) := by decide +kernel
theorem zd_M_result_6 : decode zb_M_result 6 = .ok (.iaload, 1) := by decide +kernel
theorem zd_M_result_7 : decode zb_M_result 7 = .ok (.lload_n 3, 1) := by decide +kernel
theorem zd_M_result_8 : decode zb_M_result 8 = .ok (.invokevirtual 190, 3) := by decide +kernel
theorem zd_M_result_11 : decode zb_M_result 11 = .ok (.lstore 6, 2) := by decide +kernel
theorem zd_M_result_13 : decode zb_M_result 13 = .ok (.aload_n 0, 1) := by decide +kernel
theorem zd_M_result_14 : decode zb_M_result 14 = .ok (.iload_n 1, 1) := by decide +kernel
theorem zd_M_result_15 : decode zb_M_result 15 = .ok (.invokevirtual 176, 3) := by decide +kernel
theorem zd_M_result_18 : decode zb_M_result 18 = .ok (.ifCond .eq 21, 3) := by decide +kernel
theorem zd_M_result_21 : decode zb_M_result 21 = .ok (.aload_n 0, 1) := by decide +kernel
theorem zd_M_result_22 : decode zb_M_result 22 = .ok (.aload_n 0, 1) := by decide +kernel
theorem zd_M_result_23 : decode zb_M_result 23 = .ok (.getfield 65, 3) := by decide +kernel
theorem zd_M_result_26 : decode zb_M_result 26 = .ok (.iload_n 2, 1) := by decide +kernel
theorem zd_M_result_27 : decode zb_M_result 27 = .ok (.iaload, 1) := by decide +kernel
theorem zd_M_result_28 : decode zb_M_result 28 = .ok (.iconst 0, 1) := by decide +kernel
theorem zd_M_result_29 : decode zb_M_result 29 = .ok (.lload 6, 2) := by decide +kernel
theorem zd_M_result_31 : decode zb_M_result 31 = .ok (.iload 5, 2) := by decide +kernel
theorem zd_M_result_33 : decode zb_M_result 33 = .ok (.invokevirtual 194, 3) := by decide +kernel
theorem zd_M_result_36 : decode zb_M_result 36 = .ok (.goto 17, 3) := by decide +kernel
theorem zd_M_result_39 : decode zb_M_result 39 = .ok (.aload_n 0, 1) := by decide +kernel
theorem zd_M_result_40 : decode zb_M_result 40 = .ok (.aload_n 0, 1) := by decide +kernel
theorem zd_M_result_41 : decode zb_M_result 41 = .ok (.getfield 65, 3) := by decide +kernel
theorem zd_M_result_44 : decode zb_M_result 44 = .ok (.iload_n 2, 1) := by decide +kernel
theorem zd_M_result_45 : decode zb_M_result 45 = .ok (.iaload, 1) := by decide +kernel
theorem zd_M_result_46 : decode zb_M_result 46 = .ok (.lload 6, 2) := by decide +kernel
theorem zd_M_result_48 : decode zb_M_result 48 = .ok (.iload 5, 2) := by decide +kernel
theorem zd_M_result_50 : decode zb_M_result 50 = .ok (.invokevirtual 198, 3) := by decide +kernel
theorem zd_M_result_53 : decode zb_M_result 53 = .ok (.return_, 1) := by decide +kernel
theorem zd_M_markOnly_0 : decode zb_M_markOnly 0 = .ok (.aload_n 0, 1) := by decide +kernel
theorem zd_M_markOnly_1 : decode zb_M_markOnly 1 = .ok (.iload_n 1, 1) := by decide +kernel
theorem zd_M_markOnly_2 : decode zb_M_markOnly 2 = .ok (.invokevirtual 176, 3) := by decide +kernel
theorem zd_M_markOnly_5 : decode zb_M_markOnly 5 = .ok (.ifCond .eq 17, 3) := by decide +kernel
theorem zd_M_markOnly_8 : decode zb_M_markOnly 8 = .ok (.aload_n 0, 1) := by decide +kernel
theorem zd_M_markOnly_9 : decode zb_M_markOnly 9 = .ok (.bipush 26, 2) := by decide +kernel
theorem zd_M_markOnly_11 : decode zb_M_markOnly 11 = .ok (.iload_n 2, 1) := by decide +kernel
theorem zd_M_markOnly_12 : decode zb_M_markOnly 12 = .ok (.iadd, 1) := by decide +kernel
theorem zd_M_markOnly_13 : decode zb_M_markOnly 13 = .ok (.iconst 0, 1) := by decide +kernel
theorem zd_M_markOnly_14 : decode zb_M_markOnly 14 = .ok (.lconst 0, 1) := by decide +kernel
theorem zd_M_markOnly_15 : decode zb_M_markOnly 15 = .ok (.iconst 1, 1) := by decide +kernel
theorem zd_M_markOnly_16 : decode zb_M_markOnly 16 = .ok (.invokevirtual 194, 3) := by decide +kernel
theorem zd_M_markOnly_19 : decode zb_M_markOnly 19 = .ok (.goto 10, 3) := by decide +kernel
theorem zd_M_markOnly_22 : decode zb_M_markOnly 22 = .ok (.aload_n 0, 1) := by decide +kernel
theorem zd_M_markOnly_23 : decode zb_M_markOnly 23 = .ok (.getfield 27, 3) := by decide +kernel
theorem zd_M_markOnly_26 : decode zb_M_markOnly 26 = .ok (.iload_n 2, 1) := by decide +kernel
theorem zd_M_markOnly_27 : decode zb_M_markOnly 27 = .ok (.iconst 1, 1) := by decide +kernel
theorem zd_M_markOnly_28 : decode zb_M_markOnly 28 = .ok (.bastore, 1) := by decide +kernel
theorem zd_M_markOnly_29 : decode zb_M_markOnly 29 = .ok (.return_, 1) := by decide +kernel
theorem zd_M_writeAll_0 : decode zb_M_writeAll 0 = .ok (.iconst 0, 1) := by decide +kernel
theorem zd_M_writeAll_1 : decode zb_M_writeAll 1 = .ok (.istore_n 1, 1) := by decide +kernel
theorem zd_M_writeAll_2 : decode zb_M_writeAll 2 = .ok (.iload_n 1, 1) := by decide +kernel
theorem zd_M_writeAll_3 : decode zb_M_writeAll 3 = .ok (.aload_n 0, 1) := by decide +kernel
theorem zd_M_writeAll_4 : decode zb_M_writeAll 4 = .ok (.getfield 187, 3) := by decide +kernel
theorem zd_M_writeAll_7 : decode zb_M_writeAll 7 = .ok (.if_icmp .ge 81, 3) := by decide +kernel
theorem zd_M_writeAll_10 : decode zb_M_writeAll 10 = .ok (.aload_n 0, 1) := by decide +kernel
theorem zd_M_writeAll_11 : decode zb_M_writeAll 11 = .ok (.getfield 92, 3) := by decide +kernel
theorem zd_M_writeAll_14 : decode zb_M_writeAll 14 = .ok (.iload_n 1, 1) := by decide +kernel
theorem zd_M_writeAll_15 : decode zb_M_writeAll 15 = .ok (.iaload, 1) := by decide +kernel
theorem zd_M_writeAll_16 : decode zb_M_writeAll 16 = .ok (.istore_n 2, 1) := by decide +kernel
theorem zd_M_writeAll_17 : decode zb_M_writeAll 17 = .ok (.iload_n 2, 1) := by decide +kernel
theorem zd_M_writeAll_18 : decode zb_M_writeAll 18 = .ok (.bipush 24, 2) := by decide +kernel
theorem zd_M_writeAll_20 : decode zb_M_writeAll 20 = .ok (.if_icmp .ge 23, 3) := by decide +kernel
theorem zd_M_writeAll_23 : decode zb_M_writeAll 23 = .ok (.aload_n 0, 1) := by decide +kernel
theorem zd_M_writeAll_24 : decode zb_M_writeAll 24 = .ok (.iload_n 2, 1) := by decide +kernel
theorem zd_M_writeAll_25 : decode zb_M_writeAll 25 = .ok (.aload_n 0, 1) := by decide +kernel
theorem zd_M_writeAll_26 : decode zb_M_writeAll 26 = .ok (.getfield 98, 3) := by decide +kernel
theorem zd_M_writeAll_29 : decode zb_M_writeAll 29 = .ok (.iload_n 1, 1) := by decide +kernel
theorem zd_M_writeAll_30 : decode zb_M_writeAll 30 = .ok (.laload, 1) := by decide +kernel
theorem zd_M_writeAll_31 : decode zb_M_writeAll 31 = .ok (.aload_n 0, 1) := by decide +kernel
theorem zd_M_writeAll_32 : decode zb_M_writeAll 32 = .ok (.getfield 101, 3) := by decide +kernel
theorem zd_M_writeAll_35 : decode zb_M_writeAll 35 = .ok (.iload_n 1, 1) := by decide +kernel
theorem zd_M_writeAll_36 : decode zb_M_writeAll 36 = .ok (.baload, 1) := by decide +kernel
theorem zd_M_writeAll_37 : decode zb_M_writeAll 37 = .ok (.invokevirtual 198, 3) := by decide +kernel
theorem zd_M_writeAll_40 : decode zb_M_writeAll 40 = .ok (.goto 42, 3) := by decide +kernel
theorem zd_M_writeAll_43 : decode zb_M_writeAll 43 = .ok (.iload_n 2, 1) := by decide +kernel
theorem zd_M_writeAll_44 : decode zb_M_writeAll 44 = .ok (.bipush 26, 2) := by decide +kernel
theorem zd_M_writeAll_46 : decode zb_M_writeAll 46 = .ok (.if_icmp .ge 26, 3) := by decide +kernel
theorem zd_M_writeAll_49 : decode zb_M_writeAll 49 = .ok (.aload_n 0, 1) := by decide +kernel
theorem zd_M_writeAll_50 : decode zb_M_writeAll 50 = .ok (.aload_n 0, 1) := by decide +kernel
theorem zd_M_writeAll_51 : decode zb_M_writeAll 51 = .ok (.getfield 95, 3) := by decide +kernel
theorem zd_M_writeAll_54 : decode zb_M_writeAll 54 = .ok (.iload_n 1, 1) := by decide +kernel
theorem zd_M_writeAll_55 : decode zb_M_writeAll 55 = .ok (.iaload, 1) := by decide +kernel
theorem zd_M_writeAll_56 : decode zb_M_writeAll 56 = .ok (.aload_n 0, 1) := by decide +kernel
theorem zd_M_writeAll_57 : decode zb_M_writeAll 57 = .ok (.getfield 98, 3) := by decide +kernel
theorem zd_M_writeAll_60 : decode zb_M_writeAll 60 = .ok (.iload_n 1, 1) := by decide +kernel
theorem zd_M_writeAll_61 : decode zb_M_writeAll 61 = .ok (.laload, 1) := by decide +kernel
theorem zd_M_writeAll_62 : decode zb_M_writeAll 62 = .ok (.iload_n 2, 1) := by decide +kernel
theorem zd_M_writeAll_63 : decode zb_M_writeAll 63 = .ok (.bipush 23, 2) := by decide +kernel
theorem zd_M_writeAll_65 : decode zb_M_writeAll 65 = .ok (.isub, 1) := by decide +kernel
theorem zd_M_writeAll_66 : decode zb_M_writeAll 66 = .ok (.invokevirtual 202, 3) := by decide +kernel
theorem zd_M_writeAll_69 : decode zb_M_writeAll 69 = .ok (.goto 13, 3) := by decide +kernel
theorem zd_M_writeAll_72 : decode zb_M_writeAll 72 = .ok (.aload_n 0, 1) := by decide +kernel
theorem zd_M_writeAll_73 : decode zb_M_writeAll 73 = .ok (.getfield 27, 3) := by decide +kernel
theorem zd_M_writeAll_76 : decode zb_M_writeAll 76 = .ok (.iload_n 2, 1) := by decide +kernel
theorem zd_M_writeAll_77 : decode zb_M_writeAll 77 = .ok (.bipush 26, 2) := by decide +kernel
theorem zd_M_writeAll_79 : decode zb_M_writeAll 79 = .ok (.isub, 1) := by decide +kernel
theorem zd_M_writeAll_80 : decode zb_M_writeAll 80 = .ok (.iconst 1, 1) := by decide +kernel
theorem zd_M_writeAll_81 : decode zb_M_writeAll 81 = .ok (.bastore, 1) := by decide +kernel
theorem zd_M_writeAll_82 : decode zb_M_writeAll 82 = .ok (.iinc 1 1, 3) := by decide +kernel
theorem zd_M_writeAll_85 : decode zb_M_writeAll 85 = .ok (.goto (-83), 3) := by decide +kernel
theorem zd_M_writeAll_88 : decode zb_M_writeAll 88 = .ok (.return_, 1) := by decide +kernel
theorem zd_M_isLess_0 : decode zb_M_isLess 0 = .ok (.lload_n 0, 1) := by decide +kernel
theorem zd_M_isLess_1 : decode zb_M_isLess 1 = .ok (.ldc2_w 206, 3) := by decide +kernel
theorem zd_M_isLess_4 : decode zb_M_isLess 4 = .ok (.ladd, 1) := by decide +kernel
theorem zd_M_isLess_5 : decode zb_M_isLess 5 = .ok (.lload_n 2, 1) := by decide +kernel
theorem zd_M_isLess_6 : decode zb_M_isLess 6 = .ok (.ldc2_w 206, 3) := by decide +kernel
theorem zd_M_isLess_9 : decode zb_M_isLess 9 = .ok (.ladd, 1) := by decide +kernel
theorem zd_M_isLess_10 : decode zb_M_isLess 10 = .ok (.lcmp, 1) := by decide +kernel
theorem zd_M_isLess_11 : decode zb_M_isLess 11 = .ok (.ifCond .ge 7, 3) := by decide +kernel
theorem zd_M_isLess_14 : decode zb_M_isLess 14 = .ok (.iconst 1, 1) := by decide +kernel
theorem zd_M_isLess_15 : decode zb_M_isLess 15 = .ok (.goto 4, 3) := by decide +kernel
theorem zd_M_isLess_18 : decode zb_M_isLess 18 = .ok (.iconst 0, 1) := by decide +kernel
theorem zd_M_isLess_19 : decode zb_M_isLess 19 = .ok (.ireturn, 1) := by decide +kernel
theorem zd_M_quotient_0 : decode zb_M_quotient 0 = .ok (.lload_n 2, 1) := by decide +kernel
theorem zd_M_quotient_1 : decode zb_M_quotient 1 = .ok (.lconst 0, 1) := by decide +kernel
theorem zd_M_quotient_2 : decode zb_M_quotient 2 = .ok (.lcmp, 1) := by decide +kernel
theorem zd_M_quotient_3 : decode zb_M_quotient 3 = .ok (.ifCond .ge 17, 3) := by decide +kernel
theorem zd_M_quotient_6 : decode zb_M_quotient 6 = .ok (.lload_n 0, 1) := by decide +kernel
theorem zd_M_quotient_7 : decode zb_M_quotient 7 = .ok (.lload_n 2, 1) := by decide +kernel
theorem zd_M_quotient_8 : decode zb_M_quotient 8 = .ok (.invokestatic 208, 3) := by decide +kernel
theorem zd_M_quotient_11 : decode zb_M_quotient 11 = .ok (.ifCond .eq 7, 3) := by decide +kernel
theorem zd_M_quotient_14 : decode zb_M_quotient 14 = .ok (.lconst 0, 1) := by decide +kernel
theorem zd_M_quotient_15 : decode zb_M_quotient 15 = .ok (.goto 4, 3) := by decide +kernel
theorem zd_M_quotient_18 : decode zb_M_quotient 18 = .ok (.lconst 1, 1) := by decide +kernel
theorem zd_M_quotient_19 : decode zb_M_quotient 19 = .ok (.lreturn, 1) := by decide +kernel
theorem zd_M_quotient_20 : decode zb_M_quotient 20 = .ok (.lload_n 0, 1) := by decide +kernel
theorem zd_M_quotient_21 : decode zb_M_quotient 21 = .ok (.iconst 1, 1) := by decide +kernel
theorem zd_M_quotient_22 : decode zb_M_quotient 22 = .ok (.lushr, 1) := by decide +kernel
theorem zd_M_quotient_23 : decode zb_M_quotient 23 = .ok (.lload_n 2, 1) := by decide +kernel
theorem zd_M_quotient_24 : decode zb_M_quotient 24 = .ok (.ldiv, 1) := by decide +kernel
theorem zd_M_quotient_25 : decode zb_M_quotient 25 = .ok (.iconst 1, 1) := by decide +kernel
theorem zd_M_quotient_26 : decode zb_M_quotient 26 = .ok (.lshl, 1) := by decide +kernel
theorem zd_M_quotient_27 : decode zb_M_quotient 27 = .ok (.lstore 4, 2) := by decide +kernel
theorem zd_M_quotient_29 : decode zb_M_quotient 29 = .ok (.lload_n 0, 1) := by decide +kernel
theorem zd_M_quotient_30 : decode zb_M_quotient 30 = .ok (.lload 4, 2) := by decide +kernel
theorem zd_M_quotient_32 : decode zb_M_quotient 32 = .ok (.lload_n 2, 1) := by decide +kernel
theorem zd_M_quotient_33 : decode zb_M_quotient 33 = .ok (.lmul, 1) := by decide +kernel
theorem zd_M_quotient_34 : decode zb_M_quotient 34 = .ok (.lsub, 1) := by decide +kernel
theorem zd_M_quotient_35 : decode zb_M_quotient 35 = .ok (.lstore 6, 2) := by decide +kernel
theorem zd_M_quotient_37 : decode zb_M_quotient 37 = .ok (.lload 6, 2) := by decide +kernel
theorem zd_M_quotient_39 : decode zb_M_quotient 39 = .ok (.lload_n 2, 1) := by decide +kernel
theorem zd_M_quotient_40 : decode zb_M_quotient 40 = .ok (.invokestatic 208, 3) := by decide +kernel
theorem zd_M_quotient_43 : decode zb_M_quotient 43 = .ok (.ifCond .eq 8, 3) := by decide +kernel
theorem zd_M_quotient_46 : decode zb_M_quotient 46 = .ok (.lload 4, 2) := by decide +kernel
theorem zd_M_quotient_48 : decode zb_M_quotient 48 = .ok (.goto 7, 3) := by decide +kernel
theorem zd_M_quotient_51 : decode zb_M_quotient 51 = .ok (.lload 4, 2) := by decide +kernel
theorem zd_M_quotient_53 : decode zb_M_quotient 53 = .ok (.lconst 1, 1) := by decide +kernel
theorem zd_M_quotient_54 : decode zb_M_quotient 54 = .ok (.ladd, 1) := by decide +kernel
theorem zd_M_quotient_55 : decode zb_M_quotient 55 = .ok (.lreturn, 1) := by decide +kernel
theorem zd_M_simple_0 : decode zb_M_simple 0 = .ok (.iload_n 0, 1) := by decide +kernel
theorem zd_M_simple_1 : decode zb_M_simple 1 = .ok (.tableswitch 159 0 11 #[63, 65, 69, 73, 77, 83, 93, 97, 101, 105, 125, 145], 63) := by decide +kernel
theorem zd_M_simple_64 : decode zb_M_simple 64 = .ok (.lload_n 1, 1) := by decide +kernel
theorem zd_M_simple_65 : decode zb_M_simple 65 = .ok (.lreturn, 1) := by decide +kernel
theorem zd_M_simple_66 : decode zb_M_simple 66 = .ok (.lload_n 1, 1) := by decide +kernel
theorem zd_M_simple_67 : decode zb_M_simple 67 = .ok (.lload_n 3, 1) := by decide +kernel
theorem zd_M_simple_68 : decode zb_M_simple 68 = .ok (.ladd, 1) := by decide +kernel
theorem zd_M_simple_69 : decode zb_M_simple 69 = .ok (.lreturn, 1) := by decide +kernel
theorem zd_M_simple_70 : decode zb_M_simple 70 = .ok (.lload_n 1, 1) := by decide +kernel
theorem zd_M_simple_71 : decode zb_M_simple 71 = .ok (.lload_n 3, 1) := by decide +kernel
theorem zd_M_simple_72 : decode zb_M_simple 72 = .ok (.lsub, 1) := by decide +kernel
theorem zd_M_simple_73 : decode zb_M_simple 73 = .ok (.lreturn, 1) := by decide +kernel
theorem zd_M_simple_74 : decode zb_M_simple 74 = .ok (.lload_n 1, 1) := by decide +kernel
theorem zd_M_simple_75 : decode zb_M_simple 75 = .ok (.lload_n 3, 1) := by decide +kernel
theorem zd_M_simple_76 : decode zb_M_simple 76 = .ok (.lmul, 1) := by decide +kernel
theorem zd_M_simple_77 : decode zb_M_simple 77 = .ok (.lreturn, 1) := by decide +kernel
theorem zd_M_simple_78 : decode zb_M_simple 78 = .ok (.lload_n 1, 1) := by decide +kernel
theorem zd_M_simple_79 : decode zb_M_simple 79 = .ok (.lload_n 3, 1) := by decide +kernel
theorem zd_M_simple_80 : decode zb_M_simple 80 = .ok (.invokestatic 212, 3) := by decide +kernel
theorem zd_M_simple_83 : decode zb_M_simple 83 = .ok (.lreturn, 1) := by decide +kernel
theorem zd_M_simple_84 : decode zb_M_simple 84 = .ok (.lload_n 1, 1) := by decide +kernel
theorem zd_M_simple_85 : decode zb_M_simple 85 = .ok (.lload_n 1, 1) := by decide +kernel
theorem zd_M_simple_86 : decode zb_M_simple 86 = .ok (.lload_n 3, 1) := by decide +kernel
theorem zd_M_simple_87 : decode zb_M_simple 87 = .ok (.invokestatic 212, 3) := by decide +kernel
theorem zd_M_simple_90 : decode zb_M_simple 90 = .ok (.lload_n 3, 1) := by decide +kernel
theorem zd_M_simple_91 : decode zb_M_simple 91 = .ok (.lmul, 1) := by decide +kernel
theorem zd_M_simple_92 : decode zb_M_simple 92 = .ok (.lsub, 1) := by decide +kernel
theorem zd_M_simple_93 : decode zb_M_simple 93 = .ok (.lreturn, 1) := by decide +kernel
theorem zd_M_simple_94 : decode zb_M_simple 94 = .ok (.lload_n 1, 1) := by decide +kernel
theorem zd_M_simple_95 : decode zb_M_simple 95 = .ok (.lload_n 3, 1) := by decide +kernel
theorem zd_M_simple_96 : decode zb_M_simple 96 = .ok (.land, 1) := by decide +kernel
theorem zd_M_simple_97 : decode zb_M_simple 97 = .ok (.lreturn, 1) := by decide +kernel
theorem zd_M_simple_98 : decode zb_M_simple 98 = .ok (.lload_n 1, 1) := by decide +kernel
theorem zd_M_simple_99 : decode zb_M_simple 99 = .ok (.lload_n 3, 1) := by decide +kernel
theorem zd_M_simple_100 : decode zb_M_simple 100 = .ok (.lor, 1) := by decide +kernel
theorem zd_M_simple_101 : decode zb_M_simple 101 = .ok (.lreturn, 1) := by decide +kernel
theorem zd_M_simple_102 : decode zb_M_simple 102 = .ok (.lload_n 1, 1) := by decide +kernel
theorem zd_M_simple_103 : decode zb_M_simple 103 = .ok (.lload_n 3, 1) := by decide +kernel
theorem zd_M_simple_104 : decode zb_M_simple 104 = .ok (.lxor, 1) := by decide +kernel
theorem zd_M_simple_105 : decode zb_M_simple 105 = .ok (.lreturn, 1) := by decide +kernel
theorem zd_M_simple_106 : decode zb_M_simple 106 = .ok (.lload_n 3, 1) := by decide +kernel
theorem zd_M_simple_107 : decode zb_M_simple 107 = .ok (.lconst 0, 1) := by decide +kernel
theorem zd_M_simple_108 : decode zb_M_simple 108 = .ok (.ldc2_w 216, 3) := by decide +kernel
theorem zd_M_simple_111 : decode zb_M_simple 111 = .ok (.invokestatic 112, 3) := by decide +kernel
theorem zd_M_simple_114 : decode zb_M_simple 114 = .ok (.ifCond .eq 10, 3) := by decide +kernel
theorem zd_M_simple_117 : decode zb_M_simple 117 = .ok (.lload_n 1, 1) := by decide +kernel
theorem zd_M_simple_118 : decode zb_M_simple 118 = .ok (.lload_n 3, 1) := by decide +kernel
theorem zd_M_simple_119 : decode zb_M_simple 119 = .ok (.l2i, 1) := by decide +kernel
theorem zd_M_simple_120 : decode zb_M_simple 120 = .ok (.lshl, 1) := by decide +kernel
theorem zd_M_simple_121 : decode zb_M_simple 121 = .ok (.goto 4, 3) := by decide +kernel
theorem zd_M_simple_124 : decode zb_M_simple 124 = .ok (.lconst 0, 1) := by decide +kernel
theorem zd_M_simple_125 : decode zb_M_simple 125 = .ok (.lreturn, 1) := by decide +kernel
theorem zd_M_simple_126 : decode zb_M_simple 126 = .ok (.lload_n 3, 1) := by decide +kernel
theorem zd_M_simple_127 : decode zb_M_simple 127 = .ok (.lconst 0, 1) := by decide +kernel
theorem zd_M_simple_128 : decode zb_M_simple 128 = .ok (.ldc2_w 216, 3) := by decide +kernel
theorem zd_M_simple_131 : decode zb_M_simple 131 = .ok (.invokestatic 112, 3) := by decide +kernel
theorem zd_M_simple_134 : decode zb_M_simple 134 = .ok (.ifCond .eq 10, 3) := by decide +kernel
theorem zd_M_simple_137 : decode zb_M_simple 137 = .ok (.lload_n 1, 1) := by decide +kernel
theorem zd_M_simple_138 : decode zb_M_simple 138 = .ok (.lload_n 3, 1) := by decide +kernel
theorem zd_M_simple_139 : decode zb_M_simple 139 = .ok (.l2i, 1) := by decide +kernel
theorem zd_M_simple_140 : decode zb_M_simple 140 = .ok (.lushr, 1) := by decide +kernel
theorem zd_M_simple_141 : decode zb_M_simple 141 = .ok (.goto 4, 3) := by decide +kernel
theorem zd_M_simple_144 : decode zb_M_simple 144 = .ok (.lconst 0, 1) := by decide +kernel
theorem zd_M_simple_145 : decode zb_M_simple 145 = .ok (.lreturn, 1) := by decide +kernel
theorem zd_M_simple_146 : decode zb_M_simple 146 = .ok (.lload_n 1, 1) := by decide +kernel
theorem zd_M_simple_147 : decode zb_M_simple 147 = .ok (.lload_n 3, 1) := by decide +kernel
theorem zd_M_simple_148 : decode zb_M_simple 148 = .ok (.invokestatic 208, 3) := by decide +kernel
theorem zd_M_simple_151 : decode zb_M_simple 151 = .ok (.ifCond .eq 7, 3) := by decide +kernel
theorem zd_M_simple_154 : decode zb_M_simple 154 = .ok (.lconst 1, 1) := by decide +kernel
theorem zd_M_simple_155 : decode zb_M_simple 155 = .ok (.goto 4, 3) := by decide +kernel
theorem zd_M_simple_158 : decode zb_M_simple 158 = .ok (.lconst 0, 1) := by decide +kernel
theorem zd_M_simple_159 : decode zb_M_simple 159 = .ok (.lreturn, 1) := by decide +kernel
theorem zd_M_simple_160 : decode zb_M_simple 160 = .ok (.lload_n 1, 1) := by decide +kernel

theorem zd_M_simple_161 : decode zb_M_simple 161 = .ok (.lload_n 3, 1) := by decide +kernel
theorem zd_M_simple_162 : decode zb_M_simple 162 = .ok (.lcmp, 1) := by decide +kernel
theorem zd_M_simple_163 : decode zb_M_simple 163 = .ok (.ifCond .ne 7, 3) := by decide +kernel
theorem zd_M_simple_166 : decode zb_M_simple 166 = .ok (.lconst 1, 1) := by decide +kernel
theorem zd_M_simple_167 : decode zb_M_simple 167 = .ok (.goto 4, 3) := by decide +kernel
theorem zd_M_simple_170 : decode zb_M_simple 170 = .ok (.lconst 0, 1) := by decide +kernel
theorem zd_M_simple_171 : decode zb_M_simple 171 = .ok (.lreturn, 1) := by decide +kernel
theorem zd_M_isThere_0 : decode zb_M_isThere 0 = .ok (.lload_n 1, 1) := by decide +kernel
theorem zd_M_isThere_1 : decode zb_M_isThere 1 = .ok (.lconst 0, 1) := by decide +kernel
theorem zd_M_isThere_2 : decode zb_M_isThere 2 = .ok (.sipush 4096, 3) := by decide +kernel
theorem zd_M_isThere_5 : decode zb_M_isThere 5 = .ok (.iload_n 3, 1) := by decide +kernel
theorem zd_M_isThere_6 : decode zb_M_isThere 6 = .ok (.isub, 1) := by decide +kernel
theorem zd_M_isThere_7 : decode zb_M_isThere 7 = .ok (.i2l, 1) := by decide +kernel
theorem zd_M_isThere_8 : decode zb_M_isThere 8 = .ok (.invokestatic 112, 3) := by decide +kernel
theorem zd_M_isThere_11 : decode zb_M_isThere 11 = .ok (.ifCond .eq 20, 3) := by decide +kernel
theorem zd_M_isThere_14 : decode zb_M_isThere 14 = .ok (.iload_n 3, 1) := by decide +kernel
theorem zd_M_isThere_15 : decode zb_M_isThere 15 = .ok (.iconst 1, 1) := by decide +kernel
theorem zd_M_isThere_16 : decode zb_M_isThere 16 = .ok (.if_icmp .eq 11, 3) := by decide +kernel
theorem zd_M_isThere_19 : decode zb_M_isThere 19 = .ok (.lload_n 1, 1) := by decide +kernel
theorem zd_M_isThere_20 : decode zb_M_isThere 20 = .ok (.lconst 1, 1) := by decide +kernel
theorem zd_M_isThere_21 : decode zb_M_isThere 21 = .ok (.land, 1) := by decide +kernel
theorem zd_M_isThere_22 : decode zb_M_isThere 22 = .ok (.lconst 0, 1) := by decide +kernel
theorem zd_M_isThere_23 : decode zb_M_isThere 23 = .ok (.lcmp, 1) := by decide +kernel
theorem zd_M_isThere_24 : decode zb_M_isThere 24 = .ok (.ifCond .ne 7, 3) := by decide +kernel
theorem zd_M_isThere_27 : decode zb_M_isThere 27 = .ok (.iconst 1, 1) := by decide +kernel
theorem zd_M_isThere_28 : decode zb_M_isThere 28 = .ok (.goto 4, 3) := by decide +kernel
theorem zd_M_isThere_31 : decode zb_M_isThere 31 = .ok (.iconst 0, 1) := by decide +kernel
theorem zd_M_isThere_32 : decode zb_M_isThere 32 = .ok (.ireturn, 1) := by decide +kernel
theorem zd_M_compute_0 : decode zb_M_compute 0 = .ok (.aload_n 0, 1) := by decide +kernel
theorem zd_M_compute_1 : decode zb_M_compute 1 = .ok (.iload_n 1, 1) := by decide +kernel
theorem zd_M_compute_2 : decode zb_M_compute 2 = .ok (.aload_n 0, 1) := by decide +kernel
theorem zd_M_compute_3 : decode zb_M_compute 3 = .ok (.getfield 59, 3) := by decide +kernel
theorem zd_M_compute_6 : decode zb_M_compute 6 = .ok (.iload_n 2, 1) := by decide +kernel
theorem zd_M_compute_7 : decode zb_M_compute 7 = .ok (.iaload, 1) := by decide +kernel
theorem zd_M_compute_8 : decode zb_M_compute 8 = .ok (.invokevirtual 218, 3) := by decide +kernel
theorem zd_M_compute_11 : decode zb_M_compute 11 = .ok (.ifCond .ne 26, 3) := by decide +kernel
theorem zd_M_compute_14 : decode zb_M_compute 14 = .ok (.aload_n 0, 1) := by decide +kernel
theorem zd_M_compute_15 : decode zb_M_compute 15 = .ok (.getfield 56, 3) := by decide +kernel
theorem zd_M_compute_18 : decode zb_M_compute 18 = .ok (.iload_n 2, 1) := by decide +kernel
theorem zd_M_compute_19 : decode zb_M_compute 19 = .ok (.iaload, 1) := by decide +kernel
theorem zd_M_compute_20 : decode zb_M_compute 20 = .ok (.ifCond .le 21, 3) := by decide +kernel
theorem zd_M_compute_23 : decode zb_M_compute 23 = .ok (.aload_n 0, 1) := by decide +kernel
theorem zd_M_compute_24 : decode zb_M_compute 24 = .ok (.iload_n 1, 1) := by decide +kernel
theorem zd_M_compute_25 : decode zb_M_compute 25 = .ok (.aload_n 0, 1) := by decide +kernel
theorem zd_M_compute_26 : decode zb_M_compute 26 = .ok (.getfield 62, 3) := by decide +kernel
theorem zd_M_compute_29 : decode zb_M_compute 29 = .ok (.iload_n 2, 1) := by decide +kernel
theorem zd_M_compute_30 : decode zb_M_compute 30 = .ok (.iaload, 1) := by decide +kernel
theorem zd_M_compute_31 : decode zb_M_compute 31 = .ok (.invokevirtual 218, 3) := by decide +kernel
theorem zd_M_compute_34 : decode zb_M_compute 34 = .ok (.ifCond .eq 7, 3) := by decide +kernel
theorem zd_M_compute_37 : decode zb_M_compute 37 = .ok (.iconst 1, 1) := by decide +kernel
theorem zd_M_compute_38 : decode zb_M_compute 38 = .ok (.goto 4, 3) := by decide +kernel
theorem zd_M_compute_41 : decode zb_M_compute 41 = .ok (.iconst 0, 1) := by decide +kernel
theorem zd_M_compute_42 : decode zb_M_compute 42 = .ok (.istore 7, 2) := by decide +kernel
theorem zd_M_compute_44 : decode zb_M_compute 44 = .ok (.aload_n 0, 1) := by decide +kernel
theorem zd_M_compute_45 : decode zb_M_compute 45 = .ok (.getfield 56, 3) := by decide +kernel
theorem zd_M_compute_48 : decode zb_M_compute 48 = .ok (.iload_n 2, 1) := by decide +kernel
theorem zd_M_compute_49 : decode zb_M_compute 49 = .ok (.iaload, 1) := by decide +kernel
theorem zd_M_compute_50 : decode zb_M_compute 50 = .ok (.iconst 4, 1) := by decide +kernel
theorem zd_M_compute_51 : decode zb_M_compute 51 = .ok (.if_icmp .eq 13, 3) := by decide +kernel
theorem zd_M_compute_54 : decode zb_M_compute 54 = .ok (.aload_n 0, 1) := by decide +kernel
theorem zd_M_compute_55 : decode zb_M_compute 55 = .ok (.getfield 56, 3) := by decide +kernel
theorem zd_M_compute_58 : decode zb_M_compute 58 = .ok (.iload_n 2, 1) := by decide +kernel
theorem zd_M_compute_59 : decode zb_M_compute 59 = .ok (.iaload, 1) := by decide +kernel
theorem zd_M_compute_60 : decode zb_M_compute 60 = .ok (.iconst 5, 1) := by decide +kernel
theorem zd_M_compute_61 : decode zb_M_compute 61 = .ok (.if_icmp .ne 18, 3) := by decide +kernel
theorem zd_M_compute_64 : decode zb_M_compute 64 = .ok (.lload 5, 2) := by decide +kernel
theorem zd_M_compute_66 : decode zb_M_compute 66 = .ok (.lconst 0, 1) := by decide +kernel
theorem zd_M_compute_67 : decode zb_M_compute 67 = .ok (.lcmp, 1) := by decide +kernel
theorem zd_M_compute_68 : decode zb_M_compute 68 = .ok (.ifCond .ne 11, 3) := by decide +kernel
theorem zd_M_compute_71 : decode zb_M_compute 71 = .ok (.aload_n 0, 1) := by decide +kernel
theorem zd_M_compute_72 : decode zb_M_compute 72 = .ok (.iconst 4, 1) := by decide +kernel
theorem zd_M_compute_73 : decode zb_M_compute 73 = .ok (.putfield 222, 3) := by decide +kernel
theorem zd_M_compute_76 : decode zb_M_compute 76 = .ok (.goto 152, 3) := by decide +kernel
theorem zd_M_compute_79 : decode zb_M_compute 79 = .ok (.aload_n 0, 1) := by decide +kernel
theorem zd_M_compute_80 : decode zb_M_compute 80 = .ok (.getfield 56, 3) := by decide +kernel
theorem zd_M_compute_83 : decode zb_M_compute 83 = .ok (.iload_n 2, 1) := by decide +kernel
theorem zd_M_compute_84 : decode zb_M_compute 84 = .ok (.iaload, 1) := by decide +kernel
theorem zd_M_compute_85 : decode zb_M_compute 85 = .ok (.bipush 13, 2) := by decide +kernel
theorem zd_M_compute_87 : decode zb_M_compute 87 = .ok (.if_icmp .ge 26, 3) := by decide +kernel
theorem zd_M_compute_90 : decode zb_M_compute 90 = .ok (.aload_n 0, 1) := by decide +kernel
theorem zd_M_compute_91 : decode zb_M_compute 91 = .ok (.iload_n 1, 1) := by decide +kernel
theorem zd_M_compute_92 : decode zb_M_compute 92 = .ok (.iload_n 2, 1) := by decide +kernel
theorem zd_M_compute_93 : decode zb_M_compute 93 = .ok (.aload_n 0, 1) := by decide +kernel
theorem zd_M_compute_94 : decode zb_M_compute 94 = .ok (.getfield 56, 3) := by decide +kernel
theorem zd_M_compute_97 : decode zb_M_compute 97 = .ok (.iload_n 2, 1) := by decide +kernel
theorem zd_M_compute_98 : decode zb_M_compute 98 = .ok (.iaload, 1) := by decide +kernel
theorem zd_M_compute_99 : decode zb_M_compute 99 = .ok (.lload_n 3, 1) := by decide +kernel
theorem zd_M_compute_100 : decode zb_M_compute 100 = .ok (.lload 5, 2) := by decide +kernel
theorem zd_M_compute_102 : decode zb_M_compute 102 = .ok (.invokestatic 225, 3) := by decide +kernel
theorem zd_M_compute_105 : decode zb_M_compute 105 = .ok (.iload 7, 2) := by decide +kernel
theorem zd_M_compute_107 : decode zb_M_compute 107 = .ok (.invokevirtual 229, 3) := by decide +kernel
theorem zd_M_compute_110 : decode zb_M_compute 110 = .ok (.goto 118, 3) := by decide +kernel
theorem zd_M_compute_113 : decode zb_M_compute 113 = .ok (.aload_n 0, 1) := by decide +kernel
theorem zd_M_compute_114 : decode zb_M_compute 114 = .ok (.lload_n 3, 1) := by decide +kernel
theorem zd_M_compute_115 : decode zb_M_compute 115 = .ok (.lload 5, 2) := by decide +kernel
theorem zd_M_compute_117 : decode zb_M_compute 117 = .ok (.ladd, 1) := by decide +kernel
theorem zd_M_compute_118 : decode zb_M_compute 118 = .ok (.aload_n 0, 1) := by decide +kernel
theorem zd_M_compute_119 : decode zb_M_compute 119 = .ok (.getfield 56, 3) := by decide +kernel
theorem zd_M_compute_122 : decode zb_M_compute 122 = .ok (.iload_n 2, 1) := by decide +kernel
theorem zd_M_compute_123 : decode zb_M_compute 123 = .ok (.iaload, 1) := by decide +kernel
theorem zd_M_compute_124 : decode zb_M_compute 124 = .ok (.bipush 12, 2) := by decide +kernel
theorem zd_M_compute_126 : decode zb_M_compute 126 = .ok (.isub, 1) := by decide +kernel
theorem zd_M_compute_127 : decode zb_M_compute 127 = .ok (.invokevirtual 232, 3) := by decide +kernel
theorem zd_M_compute_130 : decode zb_M_compute 130 = .ok (.ifCond .ne 11, 3) := by decide +kernel
theorem zd_M_compute_133 : decode zb_M_compute 133 = .ok (.aload_n 0, 1) := by decide +kernel
theorem zd_M_compute_134 : decode zb_M_compute 134 = .ok (.iconst 3, 1) := by decide +kernel
theorem zd_M_compute_135 : decode zb_M_compute 135 = .ok (.putfield 222, 3) := by decide +kernel
theorem zd_M_compute_138 : decode zb_M_compute 138 = .ok (.goto 90, 3) := by decide +kernel
theorem zd_M_compute_141 : decode zb_M_compute 141 = .ok (.lload_n 3, 1) := by decide +kernel
theorem zd_M_compute_142 : decode zb_M_compute 142 = .ok (.lload 5, 2) := by decide +kernel
theorem zd_M_compute_144 : decode zb_M_compute 144 = .ok (.ladd, 1) := by decide +kernel
theorem zd_M_compute_145 : decode zb_M_compute 145 = .ok (.l2i, 1) := by decide +kernel
theorem zd_M_compute_146 : decode zb_M_compute 146 = .ok (.istore 8, 2) := by decide +kernel
theorem zd_M_compute_148 : decode zb_M_compute 148 = .ok (.aload_n 0, 1) := by decide +kernel
theorem zd_M_compute_149 : decode zb_M_compute 149 = .ok (.getfield 56, 3) := by decide +kernel
theorem zd_M_compute_152 : decode zb_M_compute 152 = .ok (.iload_n 2, 1) := by decide +kernel
theorem zd_M_compute_153 : decode zb_M_compute 153 = .ok (.iaload, 1) := by decide +kernel
theorem zd_M_compute_154 : decode zb_M_compute 154 = .ok (.bipush 12, 2) := by decide +kernel
theorem zd_M_compute_156 : decode zb_M_compute 156 = .ok (.isub, 1) := by decide +kernel
theorem zd_M_compute_157 : decode zb_M_compute 157 = .ok (.istore 9, 2) := by decide +kernel
theorem zd_M_compute_159 : decode zb_M_compute 159 = .ok (.aload_n 0, 1) := by decide +kernel
theorem zd_M_compute_160 : decode zb_M_compute 160 = .ok (.getfield 104, 3) := by decide +kernel
theorem zd_M_compute_163 : decode zb_M_compute 163 = .ok (.iconst 4, 1) := by decide +kernel
theorem zd_M_compute_164 : decode zb_M_compute 164 = .ok (.dup2, 1) := by decide +kernel
theorem zd_M_compute_165 : decode zb_M_compute 165 = .ok (.iaload, 1) := by decide +kernel
theorem zd_M_compute_166 : decode zb_M_compute 166 = .ok (.iload 9, 2) := by decide +kernel
theorem zd_M_compute_168 : decode zb_M_compute 168 = .ok (.iadd, 1) := by decide +kernel
theorem zd_M_compute_169 : decode zb_M_compute 169 = .ok (.iastore, 1) := by decide +kernel
theorem zd_M_compute_170 : decode zb_M_compute 170 = .ok (.aload_n 0, 1) := by decide +kernel
theorem zd_M_compute_171 : decode zb_M_compute 171 = .ok (.iload_n 1, 1) := by decide +kernel
theorem zd_M_compute_172 : decode zb_M_compute 172 = .ok (.iload_n 2, 1) := by decide +kernel
theorem zd_M_compute_173 : decode zb_M_compute 173 = .ok (.iload 9, 2) := by decide +kernel
theorem zd_M_compute_175 : decode zb_M_compute 175 = .ok (.iconst 1, 1) := by decide +kernel
theorem zd_M_compute_176 : decode zb_M_compute 176 = .ok (.if_icmp .ne 18, 3) := by decide +kernel
theorem zd_M_compute_179 : decode zb_M_compute 179 = .ok (.aload_n 0, 1) := by decide +kernel
theorem zd_M_compute_180 : decode zb_M_compute 180 = .ok (.getfield 37, 3) := by decide +kernel
theorem zd_M_compute_183 : decode zb_M_compute 183 = .ok (.iload 8, 2) := by decide +kernel
theorem zd_M_compute_185 : decode zb_M_compute 185 = .ok (.baload, 1) := by decide +kernel
theorem zd_M_compute_186 : decode zb_M_compute 186 = .ok (.sipush 255, 3) := by decide +kernel
theorem zd_M_compute_189 : decode zb_M_compute 189 = .ok (.iand, 1) := by decide +kernel
theorem zd_M_compute_190 : decode zb_M_compute 190 = .ok (.i2l, 1) := by decide +kernel
theorem zd_M_compute_191 : decode zb_M_compute 191 = .ok (.goto 32, 3) := by decide +kernel
theorem zd_M_compute_194 : decode zb_M_compute 194 = .ok (.aload_n 0, 1) := by decide +kernel
theorem zd_M_compute_195 : decode zb_M_compute 195 = .ok (.getfield 37, 3) := by decide +kernel
theorem zd_M_compute_198 : decode zb_M_compute 198 = .ok (.iload 8, 2) := by decide +kernel
theorem zd_M_compute_200 : decode zb_M_compute 200 = .ok (.baload, 1) := by decide +kernel
theorem zd_M_compute_201 : decode zb_M_compute 201 = .ok (.sipush 255, 3) := by decide +kernel
theorem zd_M_compute_204 : decode zb_M_compute 204 = .ok (.iand, 1) := by decide +kernel
theorem zd_M_compute_205 : decode zb_M_compute 205 = .ok (.aload_n 0, 1) := by decide +kernel
theorem zd_M_compute_206 : decode zb_M_compute 206 = .ok (.getfield 37, 3) := by decide +kernel
theorem zd_M_compute_209 : decode zb_M_compute 209 = .ok (.iload 8, 2) := by decide +kernel
theorem zd_M_compute_211 : decode zb_M_compute 211 = .ok (.iconst 1, 1) := by decide +kernel
theorem zd_M_compute_212 : decode zb_M_compute 212 = .ok (.iadd, 1) := by decide +kernel
theorem zd_M_compute_213 : decode zb_M_compute 213 = .ok (.baload, 1) := by decide +kernel
theorem zd_M_compute_214 : decode zb_M_compute 214 = .ok (.sipush 255, 3) := by decide +kernel
theorem zd_M_compute_217 : decode zb_M_compute 217 = .ok (.iand, 1) := by decide +kernel
theorem zd_M_compute_218 : decode zb_M_compute 218 = .ok (.bipush 8, 2) := by decide +kernel
theorem zd_M_compute_220 : decode zb_M_compute 220 = .ok (.ishl, 1) := by decide +kernel
theorem zd_M_compute_221 : decode zb_M_compute 221 = .ok (.ior, 1) := by decide +kernel
theorem zd_M_compute_222 : decode zb_M_compute 222 = .ok (.i2l, 1) := by decide +kernel
theorem zd_M_compute_223 : decode zb_M_compute 223 = .ok (.iload 7, 2) := by decide +kernel
theorem zd_M_compute_225 : decode zb_M_compute 225 = .ok (.invokevirtual 229, 3) := by decide +kernel
theorem zd_M_compute_228 : decode zb_M_compute 228 = .ok (.return_, 1) := by decide +kernel
theorem zd_M_store_0 : decode zb_M_store 0 = .ok (.aload_n 0, 1) := by decide +kernel
theorem zd_M_store_1 : decode zb_M_store 1 = .ok (.lload_n 2, 1) := by decide +kernel
theorem zd_M_store_2 : decode zb_M_store 2 = .ok (.iload 6, 2) := by decide +kernel
theorem zd_M_store_4 : decode zb_M_store 4 = .ok (.invokevirtual 232, 3) := by decide +kernel
theorem zd_M_store_7 : decode zb_M_store 7 = .ok (.ifCond .ne 9, 3) := by decide +kernel
theorem zd_M_store_10 : decode zb_M_store 10 = .ok (.aload_n 0, 1) := by decide +kernel
theorem zd_M_store_11 : decode zb_M_store 11 = .ok (.iconst 3, 1) := by decide +kernel
theorem zd_M_store_12 : decode zb_M_store 12 = .ok (.putfield 222, 3) := by decide +kernel
theorem zd_M_store_15 : decode zb_M_store 15 = .ok (.return_, 1) := by decide +kernel
theorem zd_M_store_16 : decode zb_M_store 16 = .ok (.aload_n 0, 1) := by decide +kernel
theorem zd_M_store_17 : decode zb_M_store 17 = .ok (.getfield 104, 3) := by decide +kernel
theorem zd_M_store_20 : decode zb_M_store 20 = .ok (.iconst 5, 1) := by decide +kernel
theorem zd_M_store_21 : decode zb_M_store 21 = .ok (.dup2, 1) := by decide +kernel
theorem zd_M_store_22 : decode zb_M_store 22 = .ok (.iaload, 1) := by decide +kernel
theorem zd_M_store_23 : decode zb_M_store 23 = .ok (.iload 6, 2) := by decide +kernel
theorem zd_M_store_25 : decode zb_M_store 25 = .ok (.iadd, 1) := by decide +kernel
theorem zd_M_store_26 : decode zb_M_store 26 = .ok (.iastore, 1) := by decide +kernel
theorem zd_M_store_27 : decode zb_M_store 27 = .ok (.aload_n 0, 1) := by decide +kernel
theorem zd_M_store_28 : decode zb_M_store 28 = .ok (.iload_n 1, 1) := by decide +kernel
theorem zd_M_store_29 : decode zb_M_store 29 = .ok (.invokevirtual 176, 3) := by decide +kernel
theorem zd_M_store_32 : decode zb_M_store 32 = .ok (.ifCond .eq 20, 3) := by decide +kernel
theorem zd_M_store_35 : decode zb_M_store 35 = .ok (.aload_n 0, 1) := by decide +kernel
theorem zd_M_store_36 : decode zb_M_store 36 = .ok (.bipush 23, 2) := by decide +kernel
theorem zd_M_store_38 : decode zb_M_store 38 = .ok (.iload 6, 2) := by decide +kernel
theorem zd_M_store_40 : decode zb_M_store 40 = .ok (.iadd, 1) := by decide +kernel
theorem zd_M_store_41 : decode zb_M_store 41 = .ok (.lload_n 2, 1) := by decide +kernel
theorem zd_M_store_42 : decode zb_M_store 42 = .ok (.l2i, 1) := by decide +kernel
theorem zd_M_store_43 : decode zb_M_store 43 = .ok (.lload 4, 2) := by decide +kernel
theorem zd_M_store_45 : decode zb_M_store 45 = .ok (.iconst 0, 1) := by decide +kernel
theorem zd_M_store_46 : decode zb_M_store 46 = .ok (.invokevirtual 194, 3) := by decide +kernel
theorem zd_M_store_49 : decode zb_M_store 49 = .ok (.goto 13, 3) := by decide +kernel
theorem zd_M_store_52 : decode zb_M_store 52 = .ok (.aload_n 0, 1) := by decide +kernel
theorem zd_M_store_53 : decode zb_M_store 53 = .ok (.lload_n 2, 1) := by decide +kernel
theorem zd_M_store_54 : decode zb_M_store 54 = .ok (.l2i, 1) := by decide +kernel
theorem zd_M_store_55 : decode zb_M_store 55 = .ok (.lload 4, 2) := by decide +kernel
theorem zd_M_store_57 : decode zb_M_store 57 = .ok (.iload 6, 2) := by decide +kernel
theorem zd_M_store_59 : decode zb_M_store 59 = .ok (.invokevirtual 202, 3) := by decide +kernel
theorem zd_M_store_62 : decode zb_M_store 62 = .ok (.return_, 1) := by decide +kernel
theorem zd_M_back_0 : decode zb_M_back 0 = .ok (.aload_n 0, 1) := by decide +kernel
theorem zd_M_back_1 : decode zb_M_back 1 = .ok (.getfield 150, 3) := by decide +kernel
theorem zd_M_back_4 : decode zb_M_back 4 = .ok (.ifCond .ne 10, 3) := by decide +kernel
theorem zd_M_back_7 : decode zb_M_back 7 = .ok (.aload_n 0, 1) := by decide +kernel
theorem zd_M_back_8 : decode zb_M_back 8 = .ok (.bipush 6, 2) := by decide +kernel
theorem zd_M_back_10 : decode zb_M_back 10 = .ok (.putfield 222, 3) := by decide +kernel
theorem zd_M_back_13 : decode zb_M_back 13 = .ok (.return_, 1) := by decide +kernel
theorem zd_M_back_14 : decode zb_M_back 14 = .ok (.aload_n 0, 1) := by decide +kernel
theorem zd_M_back_15 : decode zb_M_back 15 = .ok (.dup, 1) := by decide +kernel
theorem zd_M_back_16 : decode zb_M_back 16 = .ok (.getfield 150, 3) := by decide +kernel
theorem zd_M_back_19 : decode zb_M_back 19 = .ok (.iconst 1, 1) := by decide +kernel
theorem zd_M_back_20 : decode zb_M_back 20 = .ok (.isub, 1) := by decide +kernel
theorem zd_M_back_21 : decode zb_M_back 21 = .ok (.putfield 150, 3) := by decide +kernel
theorem zd_M_back_24 : decode zb_M_back 24 = .ok (.aload_n 0, 1) := by decide +kernel
theorem zd_M_back_25 : decode zb_M_back 25 = .ok (.getfield 17, 3) := by decide +kernel
theorem zd_M_back_28 : decode zb_M_back 28 = .ok (.iconst 0, 1) := by decide +kernel
theorem zd_M_back_29 : decode zb_M_back 29 = .ok (.aload_n 0, 1) := by decide +kernel
theorem zd_M_back_30 : decode zb_M_back 30 = .ok (.getfield 86, 3) := by decide +kernel
theorem zd_M_back_33 : decode zb_M_back 33 = .ok (.aload_n 0, 1) := by decide +kernel
theorem zd_M_back_34 : decode zb_M_back 34 = .ok (.getfield 150, 3) := by decide +kernel
theorem zd_M_back_37 : decode zb_M_back 37 = .ok (.iaload, 1) := by decide +kernel
theorem zd_M_back_38 : decode zb_M_back 38 = .ok (.i2l, 1) := by decide +kernel
theorem zd_M_back_39 : decode zb_M_back 39 = .ok (.lastore, 1) := by decide +kernel
theorem zd_M_back_40 : decode zb_M_back 40 = .ok (.aload_n 0, 1) := by decide +kernel
theorem zd_M_back_41 : decode zb_M_back 41 = .ok (.aload_n 0, 1) := by decide +kernel
theorem zd_M_back_42 : decode zb_M_back 42 = .ok (.getfield 89, 3) := by decide +kernel
theorem zd_M_back_45 : decode zb_M_back 45 = .ok (.aload_n 0, 1) := by decide +kernel
theorem zd_M_back_46 : decode zb_M_back 46 = .ok (.getfield 150, 3) := by decide +kernel
theorem zd_M_back_49 : decode zb_M_back 49 = .ok (.iaload, 1) := by decide +kernel
theorem zd_M_back_50 : decode zb_M_back 50 = .ok (.putfield 156, 3) := by decide +kernel
theorem zd_M_back_53 : decode zb_M_back 53 = .ok (.aload_n 0, 1) := by decide +kernel
theorem zd_M_back_54 : decode zb_M_back 54 = .ok (.getfield 27, 3) := by decide +kernel
theorem zd_M_back_57 : decode zb_M_back 57 = .ok (.iconst 0, 1) := by decide +kernel
theorem zd_M_back_58 : decode zb_M_back 58 = .ok (.iconst 0, 1) := by decide +kernel
theorem zd_M_back_59 : decode zb_M_back 59 = .ok (.bastore, 1) := by decide +kernel
theorem zd_M_back_60 : decode zb_M_back 60 = .ok (.aload_n 0, 1) := by decide +kernel
theorem zd_M_back_61 : decode zb_M_back 61 = .ok (.iconst 1, 1) := by decide +kernel
theorem zd_M_back_62 : decode zb_M_back 62 = .ok (.putfield 184, 3) := by decide +kernel
theorem zd_M_back_65 : decode zb_M_back 65 = .ok (.return_, 1) := by decide +kernel
theorem zd_M_doTransfer_0 : decode zb_M_doTransfer 0 = .ok (.aload_n 0, 1) := by decide +kernel
theorem zd_M_doTransfer_1 : decode zb_M_doTransfer 1 = .ok (.iload_n 1, 1) := by decide +kernel
theorem zd_M_doTransfer_2 : decode zb_M_doTransfer 2 = .ok (.aload_n 0, 1) := by decide +kernel
theorem zd_M_doTransfer_3 : decode zb_M_doTransfer 3 = .ok (.getfield 59, 3) := by decide +kernel
theorem zd_M_doTransfer_6 : decode zb_M_doTransfer 6 = .ok (.iload_n 2, 1) := by decide +kernel
theorem zd_M_doTransfer_7 : decode zb_M_doTransfer 7 = .ok (.iaload, 1) := by decide +kernel
theorem zd_M_doTransfer_8 : decode zb_M_doTransfer 8 = .ok (.invokevirtual 236, 3) := by decide +kernel
theorem zd_M_doTransfer_11 : decode zb_M_doTransfer 11 = .ok (.lstore_n 3, 1) := by decide +kernel
theorem zd_M_doTransfer_12 : decode zb_M_doTransfer 12 = .ok (.aload_n 0, 1) := by decide +kernel
theorem zd_M_doTransfer_13 : decode zb_M_doTransfer 13 = .ok (.iload_n 1, 1) := by decide +kernel
theorem zd_M_doTransfer_14 : decode zb_M_doTransfer 14 = .ok (.aload_n 0, 1) := by decide +kernel
theorem zd_M_doTransfer_15 : decode zb_M_doTransfer 15 = .ok (.getfield 62, 3) := by decide +kernel
theorem zd_M_doTransfer_18 : decode zb_M_doTransfer 18 = .ok (.iload_n 2, 1) := by decide +kernel
theorem zd_M_doTransfer_19 : decode zb_M_doTransfer 19 = .ok (.iaload, 1) := by decide +kernel
theorem zd_M_doTransfer_20 : decode zb_M_doTransfer 20 = .ok (.invokevirtual 236, 3) := by decide +kernel
theorem zd_M_doTransfer_23 : decode zb_M_doTransfer 23 = .ok (.lstore 5, 2) := by decide +kernel
theorem zd_M_doTransfer_25 : decode zb_M_doTransfer 25 = .ok (.aload_n 0, 1) := by decide +kernel
theorem zd_M_doTransfer_26 : decode zb_M_doTransfer 26 = .ok (.getfield 104, 3) := by decide +kernel
theorem zd_M_doTransfer_29 : decode zb_M_doTransfer 29 = .ok (.bipush 8, 2) := by decide +kernel
theorem zd_M_doTransfer_31 : decode zb_M_doTransfer 31 = .ok (.dup2, 1) := by decide +kernel
theorem zd_M_doTransfer_32 : decode zb_M_doTransfer 32 = .ok (.iaload, 1) := by decide +kernel
theorem zd_M_doTransfer_33 : decode zb_M_doTransfer 33 = .ok (.iconst 1, 1) := by decide +kernel
theorem zd_M_doTransfer_34 : decode zb_M_doTransfer 34 = .ok (.iadd, 1) := by decide +kernel
theorem zd_M_doTransfer_35 : decode zb_M_doTransfer 35 = .ok (.iastore, 1) := by decide +kernel
theorem zd_M_doTransfer_36 : decode zb_M_doTransfer 36 = .ok (.aload_n 0, 1) := by decide +kernel
theorem zd_M_doTransfer_37 : decode zb_M_doTransfer 37 = .ok (.getfield 56, 3) := by decide +kernel
theorem zd_M_doTransfer_40 : decode zb_M_doTransfer 40 = .ok (.iload_n 2, 1) := by decide +kernel
theorem zd_M_doTransfer_41 : decode zb_M_doTransfer 41 = .ok (.iaload, 1) := by decide +kernel
theorem zd_M_doTransfer_42 : decode zb_M_doTransfer 42 = .ok (.tableswitch 163 15 22 #[46, 58, 70, 88, 115, 129, 148, 156], 46) := by decide +kernel
theorem zd_M_doTransfer_88 : decode zb_M_doTransfer 88 = .ok (.aload_n 0, 1) := by decide +kernel
theorem zd_M_doTransfer_89 : decode zb_M_doTransfer 89 = .ok (.iload_n 1, 1) := by decide +kernel
theorem zd_M_doTransfer_90 : decode zb_M_doTransfer 90 = .ok (.lload_n 3, 1) := by decide +kernel
theorem zd_M_doTransfer_91 : decode zb_M_doTransfer 91 = .ok (.lload 5, 2) := by decide +kernel
theorem zd_M_doTransfer_93 : decode zb_M_doTransfer 93 = .ok (.iconst 1, 1) := by decide +kernel
theorem zd_M_doTransfer_94 : decode zb_M_doTransfer 94 = .ok (.invokevirtual 240, 3) := by decide +kernel
theorem zd_M_doTransfer_97 : decode zb_M_doTransfer 97 = .ok (.goto 117, 3) := by decide +kernel
theorem zd_M_doTransfer_100 : decode zb_M_doTransfer 100 = .ok (.aload_n 0, 1) := by decide +kernel
theorem zd_M_doTransfer_101 : decode zb_M_doTransfer 101 = .ok (.iload_n 1, 1) := by decide +kernel
theorem zd_M_doTransfer_102 : decode zb_M_doTransfer 102 = .ok (.lload_n 3, 1) := by decide +kernel
theorem zd_M_doTransfer_103 : decode zb_M_doTransfer 103 = .ok (.lload 5, 2) := by decide +kernel
theorem zd_M_doTransfer_105 : decode zb_M_doTransfer 105 = .ok (.iconst 2, 1) := by decide +kernel
theorem zd_M_doTransfer_106 : decode zb_M_doTransfer 106 = .ok (.invokevirtual 240, 3) := by decide +kernel
theorem zd_M_doTransfer_109 : decode zb_M_doTransfer 109 = .ok (.goto 105, 3) := by decide +kernel
theorem zd_M_doTransfer_112 : decode zb_M_doTransfer 112 = .ok (.aload_n 0, 1) := by decide +kernel
theorem zd_M_doTransfer_113 : decode zb_M_doTransfer 113 = .ok (.lload_n 3, 1) := by decide +kernel
theorem zd_M_doTransfer_114 : decode zb_M_doTransfer 114 = .ok (.lconst 0, 1) := by decide +kernel
theorem zd_M_doTransfer_115 : decode zb_M_doTransfer 115 = .ok (.lcmp, 1) := by decide +kernel
theorem zd_M_doTransfer_116 : decode zb_M_doTransfer 116 = .ok (.ifCond .ne 7, 3) := by decide +kernel
theorem zd_M_doTransfer_119 : decode zb_M_doTransfer 119 = .ok (.iconst 1, 1) := by decide +kernel
theorem zd_M_doTransfer_120 : decode zb_M_doTransfer 120 = .ok (.goto 4, 3) := by decide +kernel
theorem zd_M_doTransfer_123 : decode zb_M_doTransfer 123 = .ok (.iconst 0, 1) := by decide +kernel
theorem zd_M_doTransfer_124 : decode zb_M_doTransfer 124 = .ok (.putfield 244, 3) := by decide +kernel
theorem zd_M_doTransfer_127 : decode zb_M_doTransfer 127 = .ok (.goto 87, 3) := by decide +kernel
theorem zd_M_doTransfer_130 : decode zb_M_doTransfer 130 = .ok (.aload_n 0, 1) := by decide +kernel
theorem zd_M_doTransfer_131 : decode zb_M_doTransfer 131 = .ok (.lload 5, 2) := by decide +kernel
theorem zd_M_doTransfer_133 : decode zb_M_doTransfer 133 = .ok (.lconst 0, 1) := by decide +kernel
theorem zd_M_doTransfer_134 : decode zb_M_doTransfer 134 = .ok (.lcmp, 1) := by decide +kernel
theorem zd_M_doTransfer_135 : decode zb_M_doTransfer 135 = .ok (.ifCond .eq 15, 3) := by decide +kernel
theorem zd_M_doTransfer_138 : decode zb_M_doTransfer 138 = .ok (.bipush 8, 2) := by decide +kernel
theorem zd_M_doTransfer_140 : decode zb_M_doTransfer 140 = .ok (.lload_n 3, 1) := by decide +kernel
theorem zd_M_doTransfer_141 : decode zb_M_doTransfer 141 = .ok (.ldc2_w 141, 3) := by decide +kernel
theorem zd_M_doTransfer_144 : decode zb_M_doTransfer 144 = .ok (.land, 1) := by decide +kernel
theorem zd_M_doTransfer_145 : decode zb_M_doTransfer 145 = .ok (.l2i, 1) := by decide +kernel
theorem zd_M_doTransfer_146 : decode zb_M_doTransfer 146 = .ok (.iadd, 1) := by decide +kernel
theorem zd_M_doTransfer_147 : decode zb_M_doTransfer 147 = .ok (.goto 4, 3) := by decide +kernel
theorem zd_M_doTransfer_150 : decode zb_M_doTransfer 150 = .ok (.iconst 0, 1) := by decide +kernel
theorem zd_M_doTransfer_151 : decode zb_M_doTransfer 151 = .ok (.putfield 222, 3) := by decide +kernel
theorem zd_M_doTransfer_154 : decode zb_M_doTransfer 154 = .ok (.goto 60, 3) := by decide +kernel
theorem zd_M_doTransfer_157 : decode zb_M_doTransfer 157 = .ok (.aload_n 0, 1) := by decide +kernel
theorem zd_M_doTransfer_158 : decode zb_M_doTransfer 158 = .ok (.iload_n 1, 1) := by decide +kernel
theorem zd_M_doTransfer_159 : decode zb_M_doTransfer 159 = .ok (.aload_n 0, 1) := by decide +kernel
theorem zd_M_doTransfer_160 : decode zb_M_doTransfer 160 = .ok (.getfield 65, 3) := by decide +kernel
theorem zd_M_doTransfer_163 : decode zb_M_doTransfer 163 = .ok (.iload_n 2, 1) := by decide +kernel
theorem zd_M_doTransfer_164 : decode zb_M_doTransfer 164 = .ok (.iaload, 1) := by decide +kernel
theorem zd_M_doTransfer_165 : decode zb_M_doTransfer 165 = .ok (.invokevirtual 247, 3) := by decide +kernel
theorem zd_M_doTransfer_168 : decode zb_M_doTransfer 168 = .ok (.goto 46, 3) := by decide +kernel
theorem zd_M_doTransfer_171 : decode zb_M_doTransfer 171 = .ok (.aload_n 0, 1) := by decide +kernel
theorem zd_M_doTransfer_172 : decode zb_M_doTransfer 172 = .ok (.aload_n 0, 1) := by decide +kernel
theorem zd_M_doTransfer_173 : decode zb_M_doTransfer 173 = .ok (.getfield 156, 3) := by decide +kernel
theorem zd_M_doTransfer_176 : decode zb_M_doTransfer 176 = .ok (.ifCond .ne 7, 3) := by decide +kernel
theorem zd_M_doTransfer_179 : decode zb_M_doTransfer 179 = .ok (.iconst 5, 1) := by decide +kernel
theorem zd_M_doTransfer_180 : decode zb_M_doTransfer 180 = .ok (.goto 4, 3) := by decide +kernel
theorem zd_M_doTransfer_183 : decode zb_M_doTransfer 183 = .ok (.iconst 0, 1) := by decide +kernel
theorem zd_M_doTransfer_184 : decode zb_M_doTransfer 184 = .ok (.putfield 222, 3) := by decide +kernel
theorem zd_M_doTransfer_187 : decode zb_M_doTransfer 187 = .ok (.goto 27, 3) := by decide +kernel
theorem zd_M_doTransfer_190 : decode zb_M_doTransfer 190 = .ok (.aload_n 0, 1) := by decide +kernel
theorem zd_M_doTransfer_191 : decode zb_M_doTransfer 191 = .ok (.iconst 1, 1) := by decide +kernel
theorem zd_M_doTransfer_192 : decode zb_M_doTransfer 192 = .ok (.putfield 251, 3) := by decide +kernel
theorem zd_M_doTransfer_195 : decode zb_M_doTransfer 195 = .ok (.goto 19, 3) := by decide +kernel
theorem zd_M_doTransfer_198 : decode zb_M_doTransfer 198 = .ok (.aload_n 0, 1) := by decide +kernel
theorem zd_M_doTransfer_199 : decode zb_M_doTransfer 199 = .ok (.invokevirtual 254, 3) := by decide +kernel
theorem zd_M_doTransfer_202 : decode zb_M_doTransfer 202 = .ok (.goto 12, 3) := by decide +kernel
theorem zd_M_doTransfer_205 : decode zb_M_doTransfer 205 = .ok (.aload_n 0, 1) := by decide +kernel
theorem zd_M_doTransfer_206 : decode zb_M_doTransfer 206 = .ok (.iload_n 1, 1) := by decide +kernel
theorem zd_M_doTransfer_207 : decode zb_M_doTransfer 207 = .ok (.iload_n 2, 1) := by decide +kernel
theorem zd_M_doTransfer_208 : decode zb_M_doTransfer 208 = .ok (.lload_n 3, 1) := by decide +kernel
theorem zd_M_doTransfer_209 : decode zb_M_doTransfer 209 = .ok (.lload 5, 2) := by decide +kernel
theorem zd_M_doTransfer_211 : decode zb_M_doTransfer 211 = .ok (.invokevirtual 257, 3) := by decide +kernel
theorem zd_M_doTransfer_214 : decode zb_M_doTransfer 214 = .ok (.return_, 1) := by decide +kernel
theorem zd_M_save_0 : decode zb_M_save 0 = .ok (.iconst 0, 1) := by decide +kernel
theorem zd_M_save_1 : decode zb_M_save 1 = .ok (.istore_n 1, 1) := by decide +kernel
theorem zd_M_save_2 : decode zb_M_save 2 = .ok (.iload_n 1, 1) := by decide +kernel
theorem zd_M_save_3 : decode zb_M_save 3 = .ok (.aload_n 0, 1) := by decide +kernel
theorem zd_M_save_4 : decode zb_M_save 4 = .ok (.getfield 7, 3) := by decide +kernel
theorem zd_M_save_7 : decode zb_M_save 7 = .ok (.if_icmp .ge 33, 3) := by decide +kernel
theorem zd_M_save_10 : decode zb_M_save 10 = .ok (.aload_n 0, 1) := by decide +kernel
theorem zd_M_save_11 : decode zb_M_save 11 = .ok (.getfield 24, 3) := by decide +kernel
theorem zd_M_save_14 : decode zb_M_save 14 = .ok (.iload_n 1, 1) := by decide +kernel
theorem zd_M_save_15 : decode zb_M_save 15 = .ok (.aload_n 0, 1) := by decide +kernel
theorem zd_M_save_16 : decode zb_M_save 16 = .ok (.getfield 17, 3) := by decide +kernel
theorem zd_M_save_19 : decode zb_M_save 19 = .ok (.iload_n 1, 1) := by decide +kernel
theorem zd_M_save_20 : decode zb_M_save 20 = .ok (.laload, 1) := by decide +kernel
theorem zd_M_save_21 : decode zb_M_save 21 = .ok (.lastore, 1) := by decide +kernel
theorem zd_M_save_22 : decode zb_M_save 22 = .ok (.aload_n 0, 1) := by decide +kernel
theorem zd_M_save_23 : decode zb_M_save 23 = .ok (.getfield 34, 3) := by decide +kernel
theorem zd_M_save_26 : decode zb_M_save 26 = .ok (.iload_n 1, 1) := by decide +kernel
theorem zd_M_save_27 : decode zb_M_save 27 = .ok (.aload_n 0, 1) := by decide +kernel
theorem zd_M_save_28 : decode zb_M_save 28 = .ok (.getfield 27, 3) := by decide +kernel
theorem zd_M_save_31 : decode zb_M_save 31 = .ok (.iload_n 1, 1) := by decide +kernel
theorem zd_M_save_32 : decode zb_M_save 32 = .ok (.baload, 1) := by decide +kernel
theorem zd_M_save_33 : decode zb_M_save 33 = .ok (.bastore, 1) := by decide +kernel
theorem zd_M_save_34 : decode zb_M_save 34 = .ok (.iinc 1 1, 3) := by decide +kernel
theorem zd_M_save_37 : decode zb_M_save 37 = .ok (.goto (-35), 3) := by decide +kernel
theorem zd_M_save_40 : decode zb_M_save 40 = .ok (.iconst 0, 1) := by decide +kernel
theorem zd_M_save_41 : decode zb_M_save 41 = .ok (.istore_n 1, 1) := by decide +kernel
theorem zd_M_save_42 : decode zb_M_save 42 = .ok (.iload_n 1, 1) := by decide +kernel
theorem zd_M_save_43 : decode zb_M_save 43 = .ok (.sipush 4096, 3) := by decide +kernel
theorem zd_M_save_46 : decode zb_M_save 46 = .ok (.if_icmp .ge 21, 3) := by decide +kernel
theorem zd_M_save_49 : decode zb_M_save 49 = .ok (.aload_n 0, 1) := by decide +kernel
theorem zd_M_save_50 : decode zb_M_save 50 = .ok (.getfield 41, 3) := by decide +kernel
theorem zd_M_save_53 : decode zb_M_save 53 = .ok (.iload_n 1, 1) := by decide +kernel
theorem zd_M_save_54 : decode zb_M_save 54 = .ok (.aload_n 0, 1) := by decide +kernel
theorem zd_M_save_55 : decode zb_M_save 55 = .ok (.getfield 37, 3) := by decide +kernel
theorem zd_M_save_58 : decode zb_M_save 58 = .ok (.iload_n 1, 1) := by decide +kernel
theorem zd_M_save_59 : decode zb_M_save 59 = .ok (.baload, 1) := by decide +kernel
theorem zd_M_save_60 : decode zb_M_save 60 = .ok (.bastore, 1) := by decide +kernel
theorem zd_M_save_61 : decode zb_M_save 61 = .ok (.iinc 1 1, 3) := by decide +kernel
theorem zd_M_save_64 : decode zb_M_save 64 = .ok (.goto (-22), 3) := by decide +kernel
theorem zd_M_save_67 : decode zb_M_save 67 = .ok (.aload_n 0, 1) := by decide +kernel
theorem zd_M_save_68 : decode zb_M_save 68 = .ok (.aload_n 0, 1) := by decide +kernel
theorem zd_M_save_69 : decode zb_M_save 69 = .ok (.getfield 156, 3) := by decide +kernel
theorem zd_M_save_72 : decode zb_M_save 72 = .ok (.putfield 261, 3) := by decide +kernel
theorem zd_M_save_75 : decode zb_M_save 75 = .ok (.aload_n 0, 1) := by decide +kernel
theorem zd_M_save_76 : decode zb_M_save 76 = .ok (.aload_n 0, 1) := by decide +kernel
theorem zd_M_save_77 : decode zb_M_save 77 = .ok (.getfield 150, 3) := by decide +kernel
theorem zd_M_save_80 : decode zb_M_save 80 = .ok (.putfield 264, 3) := by decide +kernel
theorem zd_M_save_83 : decode zb_M_save 83 = .ok (.return_, 1) := by decide +kernel
theorem zd_M_restore_0 : decode zb_M_restore 0 = .ok (.iconst 0, 1) := by decide +kernel
theorem zd_M_restore_1 : decode zb_M_restore 1 = .ok (.istore_n 1, 1) := by decide +kernel
theorem zd_M_restore_2 : decode zb_M_restore 2 = .ok (.iload_n 1, 1) := by decide +kernel
theorem zd_M_restore_3 : decode zb_M_restore 3 = .ok (.aload_n 0, 1) := by decide +kernel
theorem zd_M_restore_4 : decode zb_M_restore 4 = .ok (.getfield 7, 3) := by decide +kernel
theorem zd_M_restore_7 : decode zb_M_restore 7 = .ok (.if_icmp .ge 33, 3) := by decide +kernel
theorem zd_M_restore_10 : decode zb_M_restore 10 = .ok (.aload_n 0, 1) := by decide +kernel
theorem zd_M_restore_11 : decode zb_M_restore 11 = .ok (.getfield 17, 3) := by decide +kernel
theorem zd_M_restore_14 : decode zb_M_restore 14 = .ok (.iload_n 1, 1) := by decide +kernel
theorem zd_M_restore_15 : decode zb_M_restore 15 = .ok (.aload_n 0, 1) := by decide +kernel
theorem zd_M_restore_16 : decode zb_M_restore 16 = .ok (.getfield 24, 3) := by decide +kernel
theorem zd_M_restore_19 : decode zb_M_restore 19 = .ok (.iload_n 1, 1) := by decide +kernel
theorem zd_M_restore_20 : decode zb_M_restore 20 = .ok (.laload, 1) := by decide +kernel
theorem zd_M_restore_21 : decode zb_M_restore 21 = .ok (.lastore, 1) := by decide +kernel
theorem zd_M_restore_22 : decode zb_M_restore 22 = .ok (.aload_n 0, 1) := by decide +kernel
theorem zd_M_restore_23 : decode zb_M_restore 23 = .ok (.getfield 27, 3) := by decide +kernel
theorem zd_M_restore_26 : decode zb_M_restore 26 = .ok (.iload_n 1, 1) := by decide +kernel
theorem zd_M_restore_27 : decode zb_M_restore 27 = .ok (.aload_n 0, 1) := by decide +kernel
theorem zd_M_restore_28 : decode zb_M_restore 28 = .ok (.getfield 34, 3) := by decide +kernel
theorem zd_M_restore_31 : decode zb_M_restore 31 = .ok (.iload_n 1, 1) := by decide +kernel
theorem zd_M_restore_32 : decode zb_M_restore 32 = .ok (.baload, 1) := by decide +kernel
theorem zd_M_restore_33 : decode zb_M_restore 33 = .ok (.bastore, 1) := by decide +kernel
theorem zd_M_restore_34 : decode zb_M_restore 34 = .ok (.iinc 1 1, 3) := by decide +kernel
theorem zd_M_restore_37 : decode zb_M_restore 37 = .ok (.goto (-35), 3) := by decide +kernel
theorem zd_M_restore_40 : decode zb_M_restore 40 = .ok (.iconst 0, 1) := by decide +kernel
theorem zd_M_restore_41 : decode zb_M_restore 41 = .ok (.istore_n 1, 1) := by decide +kernel
theorem zd_M_restore_42 : decode zb_M_restore 42 = .ok (.iload_n 1, 1) := by decide +kernel
theorem zd_M_restore_43 : decode zb_M_restore 43 = .ok (.sipush 4096, 3) := by decide +kernel
theorem zd_M_restore_46 : decode zb_M_restore 46 = .ok (.if_icmp .ge 21, 3) := by decide +kernel
theorem zd_M_restore_49 : decode zb_M_restore 49 = .ok (.aload_n 0, 1) := by decide +kernel
theorem zd_M_restore_50 : decode zb_M_restore 50 = .ok (.getfield 37, 3) := by decide +kernel
theorem zd_M_restore_53 : decode zb_M_restore 53 = .ok (.iload_n 1, 1) := by decide +kernel
theorem zd_M_restore_54 : decode zb_M_restore 54 = .ok (.aload_n 0, 1) := by decide +kernel
theorem zd_M_restore_55 : decode zb_M_restore 55 = .ok (.getfield 41, 3) := by decide +kernel
theorem zd_M_restore_58 : decode zb_M_restore 58 = .ok (.iload_n 1, 1) := by decide +kernel
theorem zd_M_restore_59 : decode zb_M_restore 59 = .ok (.baload, 1) := by decide +kernel
theorem zd_M_restore_60 : decode zb_M_restore 60 = .ok (.bastore, 1) := by decide +kernel
theorem zd_M_restore_61 : decode zb_M_restore 61 = .ok (.iinc 1 1, 3) := by decide +kernel
theorem zd_M_restore_64 : decode zb_M_restore 64 = .ok (.goto (-22), 3) := by decide +kernel
theorem zd_M_restore_67 : decode zb_M_restore 67 = .ok (.aload_n 0, 1) := by decide +kernel
theorem zd_M_restore_68 : decode zb_M_restore 68 = .ok (.aload_n 0, 1) := by decide +kernel
theorem zd_M_restore_69 : decode zb_M_restore 69 = .ok (.getfield 261, 3) := by decide +kernel
theorem zd_M_restore_72 : decode zb_M_restore 72 = .ok (.putfield 156, 3) := by decide +kernel
theorem zd_M_restore_75 : decode zb_M_restore 75 = .ok (.aload_n 0, 1) := by decide +kernel
theorem zd_M_restore_76 : decode zb_M_restore 76 = .ok (.aload_n 0, 1) := by decide +kernel
theorem zd_M_restore_77 : decode zb_M_restore 77 = .ok (.getfield 264, 3) := by decide +kernel
theorem zd_M_restore_80 : decode zb_M_restore 80 = .ok (.putfield 150, 3) := by decide +kernel
theorem zd_M_restore_83 : decode zb_M_restore 83 = .ok (.aload_n 0, 1) := by decide +kernel
theorem zd_M_restore_84 : decode zb_M_restore 84 = .ok (.iconst 0, 1) := by decide +kernel
theorem zd_M_restore_85 : decode zb_M_restore 85 = .ok (.putfield 251, 3) := by decide +kernel
theorem zd_M_restore_88 : decode zb_M_restore 88 = .ok (.return_, 1) := by decide +kernel
theorem zd_M_find_0 : decode zb_M_find 0 = .ok (.iconst 0, 1) := by decide +kernel
theorem zd_M_find_1 : decode zb_M_find 1 = .ok (.istore_n 1, 1) := by decide +kernel
theorem zd_M_find_2 : decode zb_M_find 2 = .ok (.iload_n 1, 1) := by decide +kernel
theorem zd_M_find_3 : decode zb_M_find 3 = .ok (.aload_n 0, 1) := by decide +kernel
theorem zd_M_find_4 : decode zb_M_find 4 = .ok (.getfield 143, 3) := by decide +kernel
theorem zd_M_find_7 : decode zb_M_find 7 = .ok (.if_icmp .ge 31, 3) := by decide +kernel
theorem zd_M_find_10 : decode zb_M_find 10 = .ok (.aload_n 0, 1) := by decide +kernel
theorem zd_M_find_11 : decode zb_M_find 11 = .ok (.getfield 179, 3) := by decide +kernel
theorem zd_M_find_14 : decode zb_M_find 14 = .ok (.aload_n 0, 1) := by decide +kernel
theorem zd_M_find_15 : decode zb_M_find 15 = .ok (.getfield 68, 3) := by decide +kernel
theorem zd_M_find_18 : decode zb_M_find 18 = .ok (.iload_n 1, 1) := by decide +kernel
theorem zd_M_find_19 : decode zb_M_find 19 = .ok (.iaload, 1) := by decide +kernel
theorem zd_M_find_20 : decode zb_M_find 20 = .ok (.iand, 1) := by decide +kernel
theorem zd_M_find_21 : decode zb_M_find 21 = .ok (.aload_n 0, 1) := by decide +kernel
theorem zd_M_find_22 : decode zb_M_find 22 = .ok (.getfield 71, 3) := by decide +kernel
theorem zd_M_find_25 : decode zb_M_find 25 = .ok (.iload_n 1, 1) := by decide +kernel
theorem zd_M_find_26 : decode zb_M_find 26 = .ok (.iaload, 1) := by decide +kernel
theorem zd_M_find_27 : decode zb_M_find 27 = .ok (.if_icmp .ne 5, 3) := by decide +kernel
theorem zd_M_find_30 : decode zb_M_find 30 = .ok (.iload_n 1, 1) := by decide +kernel
theorem zd_M_find_31 : decode zb_M_find 31 = .ok (.ireturn, 1) := by decide +kernel
theorem zd_M_find_32 : decode zb_M_find 32 = .ok (.iinc 1 1, 3) := by decide +kernel
theorem zd_M_find_35 : decode zb_M_find 35 = .ok (.goto (-33), 3) := by decide +kernel
theorem zd_M_find_38 : decode zb_M_find 38 = .ok (.iconst (-1), 1) := by decide +kernel
theorem zd_M_find_39 : decode zb_M_find 39 = .ok (.ireturn, 1) := by decide +kernel
theorem zd_M_doAll_0 : decode zb_M_doAll 0 = .ok (.aload_n 0, 1) := by decide +kernel
theorem zd_M_doAll_1 : decode zb_M_doAll 1 = .ok (.iconst 0, 1) := by decide +kernel
theorem zd_M_doAll_2 : decode zb_M_doAll 2 = .ok (.putfield 187, 3) := by decide +kernel
theorem zd_M_doAll_5 : decode zb_M_doAll 5 = .ok (.aload_n 0, 1) := by decide +kernel
theorem zd_M_doAll_6 : decode zb_M_doAll 6 = .ok (.iconst 0, 1) := by decide +kernel
theorem zd_M_doAll_7 : decode zb_M_doAll 7 = .ok (.putfield 244, 3) := by decide +kernel
theorem zd_M_doAll_10 : decode zb_M_doAll 10 = .ok (.aload_n 0, 1) := by decide +kernel
theorem zd_M_doAll_11 : decode zb_M_doAll 11 = .ok (.iconst 0, 1) := by decide +kernel
theorem zd_M_doAll_12 : decode zb_M_doAll 12 = .ok (.putfield 251, 3) := by decide +kernel
theorem zd_M_doAll_15 : decode zb_M_doAll 15 = .ok (.aload_n 0, 1) := by decide +kernel
theorem zd_M_doAll_16 : decode zb_M_doAll 16 = .ok (.iconst 0, 1) := by decide +kernel
theorem zd_M_doAll_17 : decode zb_M_doAll 17 = .ok (.putfield 184, 3) := by decide +kernel
theorem zd_M_doAll_20 : decode zb_M_doAll 20 = .ok (.iconst 0, 1) := by decide +kernel
theorem zd_M_doAll_21 : decode zb_M_doAll 21 = .ok (.istore_n 2, 1) := by decide +kernel
theorem zd_M_doAll_22 : decode zb_M_doAll 22 = .ok (.iload_n 2, 1) := by decide +kernel
theorem zd_M_doAll_23 : decode zb_M_doAll 23 = .ok (.aload_n 0, 1) := by decide +kernel
theorem zd_M_doAll_24 : decode zb_M_doAll 24 = .ok (.getfield 7, 3) := by decide +kernel
theorem zd_M_doAll_27 : decode zb_M_doAll 27 = .ok (.if_icmp .ge 33, 3) := by decide +kernel
theorem zd_M_doAll_30 : decode zb_M_doAll 30 = .ok (.aload_n 0, 1) := by decide +kernel
theorem zd_M_doAll_31 : decode zb_M_doAll 31 = .ok (.getfield 21, 3) := by decide +kernel
theorem zd_M_doAll_34 : decode zb_M_doAll 34 = .ok (.iload_n 2, 1) := by decide +kernel
theorem zd_M_doAll_35 : decode zb_M_doAll 35 = .ok (.aload_n 0, 1) := by decide +kernel
theorem zd_M_doAll_36 : decode zb_M_doAll 36 = .ok (.getfield 17, 3) := by decide +kernel
theorem zd_M_doAll_39 : decode zb_M_doAll 39 = .ok (.iload_n 2, 1) := by decide +kernel
theorem zd_M_doAll_40 : decode zb_M_doAll 40 = .ok (.laload, 1) := by decide +kernel
theorem zd_M_doAll_41 : decode zb_M_doAll 41 = .ok (.lastore, 1) := by decide +kernel
theorem zd_M_doAll_42 : decode zb_M_doAll 42 = .ok (.aload_n 0, 1) := by decide +kernel
theorem zd_M_doAll_43 : decode zb_M_doAll 43 = .ok (.getfield 31, 3) := by decide +kernel
theorem zd_M_doAll_46 : decode zb_M_doAll 46 = .ok (.iload_n 2, 1) := by decide +kernel
theorem zd_M_doAll_47 : decode zb_M_doAll 47 = .ok (.aload_n 0, 1) := by decide +kernel
theorem zd_M_doAll_48 : decode zb_M_doAll 48 = .ok (.getfield 27, 3) := by decide +kernel
theorem zd_M_doAll_51 : decode zb_M_doAll 51 = .ok (.iload_n 2, 1) := by decide +kernel
theorem zd_M_doAll_52 : decode zb_M_doAll 52 = .ok (.baload, 1) := by decide +kernel
theorem zd_M_doAll_53 : decode zb_M_doAll 53 = .ok (.bastore, 1) := by decide +kernel
theorem zd_M_doAll_54 : decode zb_M_doAll 54 = .ok (.iinc 2 1, 3) := by decide +kernel
theorem zd_M_doAll_57 : decode zb_M_doAll 57 = .ok (.goto (-35), 3) := by decide +kernel
theorem zd_M_doAll_60 : decode zb_M_doAll 60 = .ok (.aload_n 0, 1) := by decide +kernel
theorem zd_M_doAll_61 : decode zb_M_doAll 61 = .ok (.getfield 77, 3) := by decide +kernel
theorem zd_M_doAll_64 : decode zb_M_doAll 64 = .ok (.iload_n 1, 1) := by decide +kernel
theorem zd_M_doAll_65 : decode zb_M_doAll 65 = .ok (.iaload, 1) := by decide +kernel
theorem zd_M_doAll_66 : decode zb_M_doAll 66 = .ok (.istore_n 2, 1) := by decide +kernel
theorem zd_M_doAll_67 : decode zb_M_doAll 67 = .ok (.iload_n 2, 1) := by decide +kernel
theorem zd_M_doAll_68 : decode zb_M_doAll 68 = .ok (.aload_n 0, 1) := by decide +kernel
theorem zd_M_doAll_69 : decode zb_M_doAll 69 = .ok (.getfield 77, 3) := by decide +kernel
theorem zd_M_doAll_72 : decode zb_M_doAll 72 = .ok (.iload_n 1, 1) := by decide +kernel
theorem zd_M_doAll_73 : decode zb_M_doAll 73 = .ok (.iconst 1, 1) := by decide +kernel
theorem zd_M_doAll_74 : decode zb_M_doAll 74 = .ok (.iadd, 1) := by decide +kernel
theorem zd_M_doAll_75 : decode zb_M_doAll 75 = .ok (.iaload, 1) := by decide +kernel
theorem zd_M_doAll_76 : decode zb_M_doAll 76 = .ok (.if_icmp .ge 29, 3) := by decide +kernel
theorem zd_M_doAll_79 : decode zb_M_doAll 79 = .ok (.aload_n 0, 1) := by decide +kernel
theorem zd_M_doAll_80 : decode zb_M_doAll 80 = .ok (.getfield 222, 3) := by decide +kernel
theorem zd_M_doAll_83 : decode zb_M_doAll 83 = .ok (.ifCond .ne 22, 3) := by decide +kernel
theorem zd_M_doAll_86 : decode zb_M_doAll 86 = .ok (.aload_n 0, 1) := by decide +kernel
theorem zd_M_doAll_87 : decode zb_M_doAll 87 = .ok (.getfield 244, 3) := by decide +kernel
theorem zd_M_doAll_90 : decode zb_M_doAll 90 = .ok (.ifCond .ne 15, 3) := by decide +kernel
theorem zd_M_doAll_93 : decode zb_M_doAll 93 = .ok (.aload_n 0, 1) := by decide +kernel
theorem zd_M_doAll_94 : decode zb_M_doAll 94 = .ok (.iload_n 1, 1) := by decide +kernel
theorem zd_M_doAll_95 : decode zb_M_doAll 95 = .ok (.iload_n 2, 1) := by decide +kernel
theorem zd_M_doAll_96 : decode zb_M_doAll 96 = .ok (.invokevirtual 267, 3) := by decide +kernel
theorem zd_M_doAll_99 : decode zb_M_doAll 99 = .ok (.iinc 2 1, 3) := by decide +kernel
theorem zd_M_doAll_102 : decode zb_M_doAll 102 = .ok (.goto (-35), 3) := by decide +kernel
theorem zd_M_doAll_105 : decode zb_M_doAll 105 = .ok (.aload_n 0, 1) := by decide +kernel
theorem zd_M_doAll_106 : decode zb_M_doAll 106 = .ok (.getfield 222, 3) := by decide +kernel
theorem zd_M_doAll_109 : decode zb_M_doAll 109 = .ok (.ifCond .ne 7, 3) := by decide +kernel
theorem zd_M_doAll_112 : decode zb_M_doAll 112 = .ok (.aload_n 0, 1) := by decide +kernel
theorem zd_M_doAll_113 : decode zb_M_doAll 113 = .ok (.invokevirtual 270, 3) := by decide +kernel
theorem zd_M_doAll_116 : decode zb_M_doAll 116 = .ok (.return_, 1) := by decide +kernel
theorem zd_M_comePlace_0 : decode zb_M_comePlace 0 = .ok (.aload_n 0, 1) := by decide +kernel
theorem zd_M_comePlace_1 : decode zb_M_comePlace 1 = .ok (.getfield 184, 3) := by decide +kernel
theorem zd_M_comePlace_4 : decode zb_M_comePlace 4 = .ok (.ifCond .eq 18, 3) := by decide +kernel
theorem zd_M_comePlace_7 : decode zb_M_comePlace 7 = .ok (.aload_n 0, 1) := by decide +kernel
theorem zd_M_comePlace_8 : decode zb_M_comePlace 8 = .ok (.getfield 74, 3) := by decide +kernel
theorem zd_M_comePlace_11 : decode zb_M_comePlace 11 = .ok (.iload_n 1, 1) := by decide +kernel
theorem zd_M_comePlace_12 : decode zb_M_comePlace 12 = .ok (.iaload, 1) := by decide +kernel
theorem zd_M_comePlace_13 : decode zb_M_comePlace 13 = .ok (.iconst 4, 1) := by decide +kernel
theorem zd_M_comePlace_14 : decode zb_M_comePlace 14 = .ok (.iand, 1) := by decide +kernel
theorem zd_M_comePlace_15 : decode zb_M_comePlace 15 = .ok (.ifCond .le 7, 3) := by decide +kernel
theorem zd_M_comePlace_18 : decode zb_M_comePlace 18 = .ok (.iconst 1, 1) := by decide +kernel
theorem zd_M_comePlace_19 : decode zb_M_comePlace 19 = .ok (.goto 4, 3) := by decide +kernel
theorem zd_M_comePlace_22 : decode zb_M_comePlace 22 = .ok (.iconst 0, 1) := by decide +kernel
theorem zd_M_comePlace_23 : decode zb_M_comePlace 23 = .ok (.istore_n 2, 1) := by decide +kernel
theorem zd_M_comePlace_24 : decode zb_M_comePlace 24 = .ok (.aload_n 0, 1) := by decide +kernel
theorem zd_M_comePlace_25 : decode zb_M_comePlace 25 = .ok (.getfield 17, 3) := by decide +kernel
theorem zd_M_comePlace_28 : decode zb_M_comePlace 28 = .ok (.iconst 0, 1) := by decide +kernel
theorem zd_M_comePlace_29 : decode zb_M_comePlace 29 = .ok (.laload, 1) := by decide +kernel
theorem zd_M_comePlace_30 : decode zb_M_comePlace 30 = .ok (.lstore_n 3, 1) := by decide +kernel
theorem zd_M_comePlace_31 : decode zb_M_comePlace 31 = .ok (.iload_n 2, 1) := by decide +kernel
theorem zd_M_comePlace_32 : decode zb_M_comePlace 32 = .ok (.ifCond .eq 23, 3) := by decide +kernel
theorem zd_M_comePlace_35 : decode zb_M_comePlace 35 = .ok (.aload_n 0, 1) := by decide +kernel
theorem zd_M_comePlace_36 : decode zb_M_comePlace 36 = .ok (.getfield 17, 3) := by decide +kernel
theorem zd_M_comePlace_39 : decode zb_M_comePlace 39 = .ok (.iconst 0, 1) := by decide +kernel
theorem zd_M_comePlace_40 : decode zb_M_comePlace 40 = .ok (.aload_n 0, 1) := by decide +kernel
theorem zd_M_comePlace_41 : decode zb_M_comePlace 41 = .ok (.getfield 162, 3) := by decide +kernel
theorem zd_M_comePlace_44 : decode zb_M_comePlace 44 = .ok (.iconst 2, 1) := by decide +kernel
theorem zd_M_comePlace_45 : decode zb_M_comePlace 45 = .ok (.iadd, 1) := by decide +kernel
theorem zd_M_comePlace_46 : decode zb_M_comePlace 46 = .ok (.ldc_w 273, 3) := by decide +kernel
theorem zd_M_comePlace_49 : decode zb_M_comePlace 49 = .ok (.iand, 1) := by decide +kernel
theorem zd_M_comePlace_50 : decode zb_M_comePlace 50 = .ok (.i2l, 1) := by decide +kernel
theorem zd_M_comePlace_51 : decode zb_M_comePlace 51 = .ok (.lastore, 1) := by decide +kernel
theorem zd_M_comePlace_52 : decode zb_M_comePlace 52 = .ok (.goto 27, 3) := by decide +kernel
theorem zd_M_comePlace_55 : decode zb_M_comePlace 55 = .ok (.aload_n 0, 1) := by decide +kernel
theorem zd_M_comePlace_56 : decode zb_M_comePlace 56 = .ok (.getfield 168, 3) := by decide +kernel
theorem zd_M_comePlace_59 : decode zb_M_comePlace 59 = .ok (.ifCond .eq 20, 3) := by decide +kernel
theorem zd_M_comePlace_62 : decode zb_M_comePlace 62 = .ok (.aload_n 0, 1) := by decide +kernel
theorem zd_M_comePlace_63 : decode zb_M_comePlace 63 = .ok (.getfield 184, 3) := by decide +kernel
theorem zd_M_comePlace_66 : decode zb_M_comePlace 66 = .ok (.ifCond .ne 13, 3) := by decide +kernel
theorem zd_M_comePlace_69 : decode zb_M_comePlace 69 = .ok (.aload_n 0, 1) := by decide +kernel
theorem zd_M_comePlace_70 : decode zb_M_comePlace 70 = .ok (.getfield 17, 3) := by decide +kernel
theorem zd_M_comePlace_73 : decode zb_M_comePlace 73 = .ok (.iconst 0, 1) := by decide +kernel
theorem zd_M_comePlace_74 : decode zb_M_comePlace 74 = .ok (.aload_n 0, 1) := by decide +kernel
theorem zd_M_comePlace_75 : decode zb_M_comePlace 75 = .ok (.getfield 274, 3) := by decide +kernel
theorem zd_M_comePlace_78 : decode zb_M_comePlace 78 = .ok (.lastore, 1) := by decide +kernel
theorem zd_M_comePlace_79 : decode zb_M_comePlace 79 = .ok (.aload_n 0, 1) := by decide +kernel
theorem zd_M_comePlace_80 : decode zb_M_comePlace 80 = .ok (.iload_n 2, 1) := by decide +kernel
theorem zd_M_comePlace_81 : decode zb_M_comePlace 81 = .ok (.putfield 168, 3) := by decide +kernel
theorem zd_M_comePlace_84 : decode zb_M_comePlace 84 = .ok (.aload_n 0, 1) := by decide +kernel
theorem zd_M_comePlace_85 : decode zb_M_comePlace 85 = .ok (.lload_n 3, 1) := by decide +kernel
theorem zd_M_comePlace_86 : decode zb_M_comePlace 86 = .ok (.putfield 274, 3) := by decide +kernel
theorem zd_M_comePlace_89 : decode zb_M_comePlace 89 = .ok (.return_, 1) := by decide +kernel
theorem zd_M_doInstruction_0 : decode zb_M_doInstruction 0 = .ok (.aload_n 0, 1) := by decide +kernel
theorem zd_M_doInstruction_1 : decode zb_M_doInstruction 1 = .ok (.iconst 0, 1) := by decide +kernel
theorem zd_M_doInstruction_2 : decode zb_M_doInstruction 2 = .ok (.putfield 222, 3) := by decide +kernel
theorem zd_M_doInstruction_5 : decode zb_M_doInstruction 5 = .ok (.aload_n 0, 1) := by decide +kernel
theorem zd_M_doInstruction_6 : decode zb_M_doInstruction 6 = .ok (.iconst 0, 1) := by decide +kernel
theorem zd_M_doInstruction_7 : decode zb_M_doInstruction 7 = .ok (.putfield 251, 3) := by decide +kernel
theorem zd_M_doInstruction_10 : decode zb_M_doInstruction 10 = .ok (.aload_n 0, 1) := by decide +kernel
theorem zd_M_doInstruction_11 : decode zb_M_doInstruction 11 = .ok (.aload_n 0, 1) := by decide +kernel
theorem zd_M_doInstruction_12 : decode zb_M_doInstruction 12 = .ok (.getfield 17, 3) := by decide +kernel
theorem zd_M_doInstruction_15 : decode zb_M_doInstruction 15 = .ok (.iconst 0, 1) := by decide +kernel
theorem zd_M_doInstruction_16 : decode zb_M_doInstruction 16 = .ok (.laload, 1) := by decide +kernel
theorem zd_M_doInstruction_17 : decode zb_M_doInstruction 17 = .ok (.l2i, 1) := by decide +kernel
theorem zd_M_doInstruction_18 : decode zb_M_doInstruction 18 = .ok (.putfield 162, 3) := by decide +kernel
theorem zd_M_doInstruction_21 : decode zb_M_doInstruction 21 = .ok (.aload_n 0, 1) := by decide +kernel
theorem zd_M_doInstruction_22 : decode zb_M_doInstruction 22 = .ok (.getfield 162, 3) := by decide +kernel
theorem zd_M_doInstruction_25 : decode zb_M_doInstruction 25 = .ok (.iconst 1, 1) := by decide +kernel
theorem zd_M_doInstruction_26 : decode zb_M_doInstruction 26 = .ok (.iand, 1) := by decide +kernel
theorem zd_M_doInstruction_27 : decode zb_M_doInstruction 27 = .ok (.iconst 1, 1) := by decide +kernel
theorem zd_M_doInstruction_28 : decode zb_M_doInstruction 28 = .ok (.if_icmp .eq 13, 3) := by decide +kernel
theorem zd_M_doInstruction_31 : decode zb_M_doInstruction 31 = .ok (.aload_n 0, 1) := by decide +kernel
theorem zd_M_doInstruction_32 : decode zb_M_doInstruction 32 = .ok (.getfield 162, 3) := by decide +kernel
theorem zd_M_doInstruction_35 : decode zb_M_doInstruction 35 = .ok (.sipush 4094, 3) := by decide +kernel
theorem zd_M_doInstruction_38 : decode zb_M_doInstruction 38 = .ok (.if_icmp .le 9, 3) := by decide +kernel
theorem zd_M_doInstruction_41 : decode zb_M_doInstruction 41 = .ok (.aload_n 0, 1) := by decide +kernel
theorem zd_M_doInstruction_42 : decode zb_M_doInstruction 42 = .ok (.iconst 2, 1) := by decide +kernel
theorem zd_M_doInstruction_43 : decode zb_M_doInstruction 43 = .ok (.invokevirtual 278, 3) := by decide +kernel
theorem zd_M_doInstruction_46 : decode zb_M_doInstruction 46 = .ok (.return_, 1) := by decide +kernel
theorem zd_M_doInstruction_47 : decode zb_M_doInstruction 47 = .ok (.aload_n 0, 1) := by decide +kernel
theorem zd_M_doInstruction_48 : decode zb_M_doInstruction 48 = .ok (.aload_n 0, 1) := by decide +kernel
theorem zd_M_doInstruction_49 : decode zb_M_doInstruction 49 = .ok (.getfield 37, 3) := by decide +kernel
theorem zd_M_doInstruction_52 : decode zb_M_doInstruction 52 = .ok (.aload_n 0, 1) := by decide +kernel
theorem zd_M_doInstruction_53 : decode zb_M_doInstruction 53 = .ok (.getfield 162, 3) := by decide +kernel
theorem zd_M_doInstruction_56 : decode zb_M_doInstruction 56 = .ok (.baload, 1) := by decide +kernel
theorem zd_M_doInstruction_57 : decode zb_M_doInstruction 57 = .ok (.sipush 255, 3) := by decide +kernel
theorem zd_M_doInstruction_60 : decode zb_M_doInstruction 60 = .ok (.iand, 1) := by decide +kernel
theorem zd_M_doInstruction_61 : decode zb_M_doInstruction 61 = .ok (.aload_n 0, 1) := by decide +kernel
theorem zd_M_doInstruction_62 : decode zb_M_doInstruction 62 = .ok (.getfield 37, 3) := by decide +kernel
theorem zd_M_doInstruction_65 : decode zb_M_doInstruction 65 = .ok (.aload_n 0, 1) := by decide +kernel
theorem zd_M_doInstruction_66 : decode zb_M_doInstruction 66 = .ok (.getfield 162, 3) := by decide +kernel
theorem zd_M_doInstruction_69 : decode zb_M_doInstruction 69 = .ok (.iconst 1, 1) := by decide +kernel
theorem zd_M_doInstruction_70 : decode zb_M_doInstruction 70 = .ok (.iadd, 1) := by decide +kernel
theorem zd_M_doInstruction_71 : decode zb_M_doInstruction 71 = .ok (.baload, 1) := by decide +kernel
theorem zd_M_doInstruction_72 : decode zb_M_doInstruction 72 = .ok (.sipush 255, 3) := by decide +kernel
theorem zd_M_doInstruction_75 : decode zb_M_doInstruction 75 = .ok (.iand, 1) := by decide +kernel
theorem zd_M_doInstruction_76 : decode zb_M_doInstruction 76 = .ok (.bipush 8, 2) := by decide +kernel
theorem zd_M_doInstruction_78 : decode zb_M_doInstruction 78 = .ok (.ishl, 1) := by decide +kernel
theorem zd_M_doInstruction_79 : decode zb_M_doInstruction 79 = .ok (.ior, 1) := by decide +kernel
theorem zd_M_doInstruction_80 : decode zb_M_doInstruction 80 = .ok (.putfield 179, 3) := by decide +kernel
theorem zd_M_doInstruction_83 : decode zb_M_doInstruction 83 = .ok (.aload_n 0, 1) := by decide +kernel
theorem zd_M_doInstruction_84 : decode zb_M_doInstruction 84 = .ok (.invokevirtual 282, 3) := by decide +kernel
theorem zd_M_doInstruction_87 : decode zb_M_doInstruction 87 = .ok (.istore_n 1, 1) := by decide +kernel
theorem zd_M_doInstruction_88 : decode zb_M_doInstruction 88 = .ok (.iload_n 1, 1) := by decide +kernel
theorem zd_M_doInstruction_89 : decode zb_M_doInstruction 89 = .ok (.iconst (-1), 1) := by decide +kernel
theorem zd_M_doInstruction_90 : decode zb_M_doInstruction 90 = .ok (.if_icmp .ne 9, 3) := by decide +kernel
theorem zd_M_doInstruction_93 : decode zb_M_doInstruction 93 = .ok (.aload_n 0, 1) := by decide +kernel
theorem zd_M_doInstruction_94 : decode zb_M_doInstruction 94 = .ok (.iconst 1, 1) := by decide +kernel
theorem zd_M_doInstruction_95 : decode zb_M_doInstruction 95 = .ok (.invokevirtual 278, 3) := by decide +kernel
theorem zd_M_doInstruction_98 : decode zb_M_doInstruction 98 = .ok (.return_, 1) := by decide +kernel
theorem zd_M_doInstruction_99 : decode zb_M_doInstruction 99 = .ok (.aload_n 0, 1) := by decide +kernel
theorem zd_M_doInstruction_100 : decode zb_M_doInstruction 100 = .ok (.getfield 74, 3) := by decide +kernel
theorem zd_M_doInstruction_103 : decode zb_M_doInstruction 103 = .ok (.iload_n 1, 1) := by decide +kernel
theorem zd_M_doInstruction_104 : decode zb_M_doInstruction 104 = .ok (.iaload, 1) := by decide +kernel
theorem zd_M_doInstruction_105 : decode zb_M_doInstruction 105 = .ok (.iconst 2, 1) := by decide +kernel
theorem zd_M_doInstruction_106 : decode zb_M_doInstruction 106 = .ok (.iand, 1) := by decide +kernel
theorem zd_M_doInstruction_107 : decode zb_M_doInstruction 107 = .ok (.ifCond .le 7, 3) := by decide +kernel
theorem zd_M_doInstruction_110 : decode zb_M_doInstruction 110 = .ok (.iconst 1, 1) := by decide +kernel
theorem zd_M_doInstruction_111 : decode zb_M_doInstruction 111 = .ok (.goto 4, 3) := by decide +kernel
theorem zd_M_doInstruction_114 : decode zb_M_doInstruction 114 = .ok (.iconst 0, 1) := by decide +kernel
theorem zd_M_doInstruction_115 : decode zb_M_doInstruction 115 = .ok (.istore_n 2, 1) := by decide +kernel
theorem zd_M_doInstruction_116 : decode zb_M_doInstruction 116 = .ok (.iload_n 2, 1) := by decide +kernel
theorem zd_M_doInstruction_117 : decode zb_M_doInstruction 117 = .ok (.ifCond .eq 7, 3) := by decide +kernel
theorem zd_M_doInstruction_120 : decode zb_M_doInstruction 120 = .ok (.aload_n 0, 1) := by decide +kernel
theorem zd_M_doInstruction_121 : decode zb_M_doInstruction 121 = .ok (.invokevirtual 286, 3) := by decide +kernel
theorem zd_M_doInstruction_124 : decode zb_M_doInstruction 124 = .ok (.aload_n 0, 1) := by decide +kernel
theorem zd_M_doInstruction_125 : decode zb_M_doInstruction 125 = .ok (.getfield 17, 3) := by decide +kernel
theorem zd_M_doInstruction_128 : decode zb_M_doInstruction 128 = .ok (.iconst 0, 1) := by decide +kernel
theorem zd_M_doInstruction_129 : decode zb_M_doInstruction 129 = .ok (.aload_n 0, 1) := by decide +kernel
theorem zd_M_doInstruction_130 : decode zb_M_doInstruction 130 = .ok (.getfield 162, 3) := by decide +kernel
theorem zd_M_doInstruction_133 : decode zb_M_doInstruction 133 = .ok (.iconst 2, 1) := by decide +kernel
theorem zd_M_doInstruction_134 : decode zb_M_doInstruction 134 = .ok (.iadd, 1) := by decide +kernel
theorem zd_M_doInstruction_135 : decode zb_M_doInstruction 135 = .ok (.ldc_w 273, 3) := by decide +kernel
theorem zd_M_doInstruction_138 : decode zb_M_doInstruction 138 = .ok (.iand, 1) := by decide +kernel
theorem zd_M_doInstruction_139 : decode zb_M_doInstruction 139 = .ok (.i2l, 1) := by decide +kernel
theorem zd_M_doInstruction_140 : decode zb_M_doInstruction 140 = .ok (.lastore, 1) := by decide +kernel
theorem zd_M_doInstruction_141 : decode zb_M_doInstruction 141 = .ok (.aload_n 0, 1) := by decide +kernel
theorem zd_M_doInstruction_142 : decode zb_M_doInstruction 142 = .ok (.iload_n 1, 1) := by decide +kernel
theorem zd_M_doInstruction_143 : decode zb_M_doInstruction 143 = .ok (.invokevirtual 289, 3) := by decide +kernel
theorem zd_M_doInstruction_146 : decode zb_M_doInstruction 146 = .ok (.aload_n 0, 1) := by decide +kernel
theorem zd_M_doInstruction_147 : decode zb_M_doInstruction 147 = .ok (.getfield 222, 3) := by decide +kernel
theorem zd_M_doInstruction_150 : decode zb_M_doInstruction 150 = .ok (.ifCond .le 22, 3) := by decide +kernel
theorem zd_M_doInstruction_153 : decode zb_M_doInstruction 153 = .ok (.iload_n 2, 1) := by decide +kernel
theorem zd_M_doInstruction_154 : decode zb_M_doInstruction 154 = .ok (.ifCond .eq 7, 3) := by decide +kernel
theorem zd_M_doInstruction_157 : decode zb_M_doInstruction 157 = .ok (.aload_n 0, 1) := by decide +kernel
theorem zd_M_doInstruction_158 : decode zb_M_doInstruction 158 = .ok (.invokevirtual 292, 3) := by decide +kernel
theorem zd_M_doInstruction_161 : decode zb_M_doInstruction 161 = .ok (.aload_n 0, 1) := by decide +kernel
theorem zd_M_doInstruction_162 : decode zb_M_doInstruction 162 = .ok (.aload_n 0, 1) := by decide +kernel
theorem zd_M_doInstruction_163 : decode zb_M_doInstruction 163 = .ok (.getfield 222, 3) := by decide +kernel
theorem zd_M_doInstruction_166 : decode zb_M_doInstruction 166 = .ok (.invokevirtual 278, 3) := by decide +kernel
theorem zd_M_doInstruction_169 : decode zb_M_doInstruction 169 = .ok (.goto 18, 3) := by decide +kernel
theorem zd_M_doInstruction_172 : decode zb_M_doInstruction 172 = .ok (.aload_n 0, 1) := by decide +kernel
theorem zd_M_doInstruction_173 : decode zb_M_doInstruction 173 = .ok (.iload_n 1, 1) := by decide +kernel
theorem zd_M_doInstruction_174 : decode zb_M_doInstruction 174 = .ok (.invokevirtual 295, 3) := by decide +kernel
theorem zd_M_doInstruction_177 : decode zb_M_doInstruction 177 = .ok (.aload_n 0, 1) := by decide +kernel
theorem zd_M_doInstruction_178 : decode zb_M_doInstruction 178 = .ok (.getfield 104, 3) := by decide +kernel
theorem zd_M_doInstruction_181 : decode zb_M_doInstruction 181 = .ok (.iconst 1, 1) := by decide +kernel
theorem zd_M_doInstruction_182 : decode zb_M_doInstruction 182 = .ok (.dup2, 1) := by decide +kernel
theorem zd_M_doInstruction_183 : decode zb_M_doInstruction 183 = .ok (.iaload, 1) := by decide +kernel
theorem zd_M_doInstruction_184 : decode zb_M_doInstruction 184 = .ok (.iconst 1, 1) := by decide +kernel
theorem zd_M_doInstruction_185 : decode zb_M_doInstruction 185 = .ok (.iadd, 1) := by decide +kernel
theorem zd_M_doInstruction_186 : decode zb_M_doInstruction 186 = .ok (.iastore, 1) := by decide +kernel
theorem zd_M_doInstruction_187 : decode zb_M_doInstruction 187 = .ok (.aload_n 0, 1) := by decide +kernel
theorem zd_M_doInstruction_188 : decode zb_M_doInstruction 188 = .ok (.aload_n 0, 1) := by decide +kernel
theorem zd_M_doInstruction_189 : decode zb_M_doInstruction 189 = .ok (.getfield 153, 3) := by decide +kernel
theorem zd_M_doInstruction_192 : decode zb_M_doInstruction 192 = .ok (.ifCond .ne 14, 3) := by decide +kernel
theorem zd_M_doInstruction_195 : decode zb_M_doInstruction 195 = .ok (.aload_n 0, 1) := by decide +kernel
theorem zd_M_doInstruction_196 : decode zb_M_doInstruction 196 = .ok (.getfield 251, 3) := by decide +kernel
theorem zd_M_doInstruction_199 : decode zb_M_doInstruction 199 = .ok (.ifCond .eq 7, 3) := by decide +kernel
theorem zd_M_doInstruction_202 : decode zb_M_doInstruction 202 = .ok (.iconst 1, 1) := by decide +kernel
theorem zd_M_doInstruction_203 : decode zb_M_doInstruction 203 = .ok (.goto 7, 3) := by decide +kernel
theorem zd_M_doInstruction_206 : decode zb_M_doInstruction 206 = .ok (.aload_n 0, 1) := by decide +kernel
theorem zd_M_doInstruction_207 : decode zb_M_doInstruction 207 = .ok (.getfield 153, 3) := by decide +kernel
theorem zd_M_doInstruction_210 : decode zb_M_doInstruction 210 = .ok (.putfield 153, 3) := by decide +kernel
theorem zd_M_doInstruction_213 : decode zb_M_doInstruction 213 = .ok (.return_, 1) := by decide +kernel
theorem zd_M_stepOnce_0 : decode zb_M_stepOnce 0 = .ok (.aload_n 0, 1) := by decide +kernel
theorem zd_M_stepOnce_1 : decode zb_M_stepOnce 1 = .ok (.getfield 104, 3) := by decide +kernel
theorem zd_M_stepOnce_4 : decode zb_M_stepOnce 4 = .ok (.iconst 0, 1) := by decide +kernel
theorem zd_M_stepOnce_5 : decode zb_M_stepOnce 5 = .ok (.dup2, 1) := by decide +kernel
theorem zd_M_stepOnce_6 : decode zb_M_stepOnce 6 = .ok (.iaload, 1) := by decide +kernel
theorem zd_M_stepOnce_7 : decode zb_M_stepOnce 7 = .ok (.iconst 1, 1) := by decide +kernel
theorem zd_M_stepOnce_8 : decode zb_M_stepOnce 8 = .ok (.iadd, 1) := by decide +kernel
theorem zd_M_stepOnce_9 : decode zb_M_stepOnce 9 = .ok (.iastore, 1) := by decide +kernel
theorem zd_M_stepOnce_10 : decode zb_M_stepOnce 10 = .ok (.aload_n 0, 1) := by decide +kernel
theorem zd_M_stepOnce_11 : decode zb_M_stepOnce 11 = .ok (.invokevirtual 298, 3) := by decide +kernel
theorem zd_M_stepOnce_14 : decode zb_M_stepOnce 14 = .ok (.istore_n 1, 1) := by decide +kernel
theorem zd_M_stepOnce_15 : decode zb_M_stepOnce 15 = .ok (.iload_n 1, 1) := by decide +kernel
theorem zd_M_stepOnce_16 : decode zb_M_stepOnce 16 = .ok (.iconst (-1), 1) := by decide +kernel
theorem zd_M_stepOnce_17 : decode zb_M_stepOnce 17 = .ok (.if_icmp .ne 8, 3) := by decide +kernel
theorem zd_M_stepOnce_20 : decode zb_M_stepOnce 20 = .ok (.aload_n 0, 1) := by decide +kernel
theorem zd_M_stepOnce_21 : decode zb_M_stepOnce 21 = .ok (.invokevirtual 301, 3) := by decide +kernel
theorem zd_M_stepOnce_24 : decode zb_M_stepOnce 24 = .ok (.return_, 1) := by decide +kernel
theorem zd_M_stepOnce_25 : decode zb_M_stepOnce 25 = .ok (.aload_n 0, 1) := by decide +kernel
theorem zd_M_stepOnce_26 : decode zb_M_stepOnce 26 = .ok (.iconst 0, 1) := by decide +kernel
theorem zd_M_stepOnce_27 : decode zb_M_stepOnce 27 = .ok (.putfield 168, 3) := by decide +kernel
theorem zd_M_stepOnce_30 : decode zb_M_stepOnce 30 = .ok (.aload_n 0, 1) := by decide +kernel
theorem zd_M_stepOnce_31 : decode zb_M_stepOnce 31 = .ok (.aload_n 0, 1) := by decide +kernel
theorem zd_M_stepOnce_32 : decode zb_M_stepOnce 32 = .ok (.getfield 17, 3) := by decide +kernel
theorem zd_M_stepOnce_35 : decode zb_M_stepOnce 35 = .ok (.iconst 0, 1) := by decide +kernel
theorem zd_M_stepOnce_36 : decode zb_M_stepOnce 36 = .ok (.laload, 1) := by decide +kernel
theorem zd_M_stepOnce_37 : decode zb_M_stepOnce 37 = .ok (.l2i, 1) := by decide +kernel
theorem zd_M_stepOnce_38 : decode zb_M_stepOnce 38 = .ok (.aload_n 0, 1) := by decide +kernel
theorem zd_M_stepOnce_39 : decode zb_M_stepOnce 39 = .ok (.getfield 83, 3) := by decide +kernel
theorem zd_M_stepOnce_42 : decode zb_M_stepOnce 42 = .ok (.iload_n 1, 1) := by decide +kernel
theorem zd_M_stepOnce_43 : decode zb_M_stepOnce 43 = .ok (.iaload, 1) := by decide +kernel
theorem zd_M_stepOnce_44 : decode zb_M_stepOnce 44 = .ok (.bipush 64, 2) := by decide +kernel
theorem zd_M_stepOnce_46 : decode zb_M_stepOnce 46 = .ok (.iconst 4, 1) := by decide +kernel
theorem zd_M_stepOnce_47 : decode zb_M_stepOnce 47 = .ok (.iload_n 1, 1) := by decide +kernel
theorem zd_M_stepOnce_48 : decode zb_M_stepOnce 48 = .ok (.imul, 1) := by decide +kernel
theorem zd_M_stepOnce_49 : decode zb_M_stepOnce 49 = .ok (.iadd, 1) := by decide +kernel
theorem zd_M_stepOnce_50 : decode zb_M_stepOnce 50 = .ok (.invokevirtual 172, 3) := by decide +kernel
theorem zd_M_stepOnce_53 : decode zb_M_stepOnce 53 = .ok (.ifCond .eq 13, 3) := by decide +kernel
theorem zd_M_stepOnce_56 : decode zb_M_stepOnce 56 = .ok (.aload_n 0, 1) := by decide +kernel
theorem zd_M_stepOnce_57 : decode zb_M_stepOnce 57 = .ok (.getfield 104, 3) := by decide +kernel
theorem zd_M_stepOnce_60 : decode zb_M_stepOnce 60 = .ok (.iconst 3, 1) := by decide +kernel
theorem zd_M_stepOnce_61 : decode zb_M_stepOnce 61 = .ok (.dup2, 1) := by decide +kernel
theorem zd_M_stepOnce_62 : decode zb_M_stepOnce 62 = .ok (.iaload, 1) := by decide +kernel
theorem zd_M_stepOnce_63 : decode zb_M_stepOnce 63 = .ok (.iconst 1, 1) := by decide +kernel
theorem zd_M_stepOnce_64 : decode zb_M_stepOnce 64 = .ok (.iadd, 1) := by decide +kernel
theorem zd_M_stepOnce_65 : decode zb_M_stepOnce 65 = .ok (.iastore, 1) := by decide +kernel
theorem zd_M_stepOnce_66 : decode zb_M_stepOnce 66 = .ok (.return_, 1) := by decide +kernel
theorem zd_M_step_0 : decode zb_M_step 0 = .ok (.aload_n 0, 1) := by decide +kernel
theorem zd_M_step_1 : decode zb_M_step 1 = .ok (.iload_n 1, 1) := by decide +kernel
theorem zd_M_step_2 : decode zb_M_step 2 = .ok (.i2l, 1) := by decide +kernel
theorem zd_M_step_3 : decode zb_M_step 3 = .ok (.lconst 1, 1) := by decide +kernel
theorem zd_M_step_4 : decode zb_M_step 4 = .ok (.ldc2_w 304, 3) := by decide +kernel
theorem zd_M_step_7 : decode zb_M_step 7 = .ok (.invokestatic 112, 3) := by decide +kernel
theorem zd_M_step_10 : decode zb_M_step 10 = .ok (.aload_n 0, 1) := by decide +kernel
theorem zd_M_step_11 : decode zb_M_step 11 = .ok (.getfield 153, 3) := by decide +kernel
theorem zd_M_step_14 : decode zb_M_step 14 = .ok (.ifCond .ne 7, 3) := by decide +kernel
theorem zd_M_step_17 : decode zb_M_step 17 = .ok (.iconst 1, 1) := by decide +kernel
theorem zd_M_step_18 : decode zb_M_step 18 = .ok (.goto 4, 3) := by decide +kernel
theorem zd_M_step_21 : decode zb_M_step 21 = .ok (.iconst 0, 1) := by decide +kernel
theorem zd_M_step_22 : decode zb_M_step 22 = .ok (.invokevirtual 116, 3) := by decide +kernel
theorem zd_M_step_25 : decode zb_M_step 25 = .ok (.ifCond .ne 5, 3) := by decide +kernel
theorem zd_M_step_28 : decode zb_M_step 28 = .ok (.iconst 0, 1) := by decide +kernel
theorem zd_M_step_29 : decode zb_M_step 29 = .ok (.ireturn, 1) := by decide +kernel
theorem zd_M_step_30 : decode zb_M_step 30 = .ok (.iconst 0, 1) := by decide +kernel
theorem zd_M_step_31 : decode zb_M_step 31 = .ok (.istore_n 2, 1) := by decide +kernel
theorem zd_M_step_32 : decode zb_M_step 32 = .ok (.iload_n 2, 1) := by decide +kernel
theorem zd_M_step_33 : decode zb_M_step 33 = .ok (.iload_n 1, 1) := by decide +kernel
theorem zd_M_step_34 : decode zb_M_step 34 = .ok (.if_icmp .ge 20, 3) := by decide +kernel
theorem zd_M_step_37 : decode zb_M_step 37 = .ok (.aload_n 0, 1) := by decide +kernel
theorem zd_M_step_38 : decode zb_M_step 38 = .ok (.getfield 153, 3) := by decide +kernel
theorem zd_M_step_41 : decode zb_M_step 41 = .ok (.ifCond .ne 13, 3) := by decide +kernel
theorem zd_M_step_44 : decode zb_M_step 44 = .ok (.aload_n 0, 1) := by decide +kernel
theorem zd_M_step_45 : decode zb_M_step 45 = .ok (.invokevirtual 306, 3) := by decide +kernel
theorem zd_M_step_48 : decode zb_M_step 48 = .ok (.iinc 2 1, 3) := by decide +kernel
theorem zd_M_step_51 : decode zb_M_step 51 = .ok (.goto (-19), 3) := by decide +kernel
theorem zd_M_step_54 : decode zb_M_step 54 = .ok (.iload_n 2, 1) := by decide +kernel
theorem zd_M_step_55 : decode zb_M_step 55 = .ok (.ireturn, 1) := by decide +kernel
theorem zd_M_isRegister_0 : decode zb_M_isRegister 0 = .ok (.aload_n 0, 1) := by decide +kernel
theorem zd_M_isRegister_1 : decode zb_M_isRegister 1 = .ok (.iload_n 1, 1) := by decide +kernel
theorem zd_M_isRegister_2 : decode zb_M_isRegister 2 = .ok (.i2l, 1) := by decide +kernel
theorem zd_M_isRegister_3 : decode zb_M_isRegister 3 = .ok (.lconst 0, 1) := by decide +kernel
theorem zd_M_isRegister_4 : decode zb_M_isRegister 4 = .ok (.aload_n 0, 1) := by decide +kernel
theorem zd_M_isRegister_5 : decode zb_M_isRegister 5 = .ok (.getfield 7, 3) := by decide +kernel
theorem zd_M_isRegister_8 : decode zb_M_isRegister 8 = .ok (.iconst 1, 1) := by decide +kernel
theorem zd_M_isRegister_9 : decode zb_M_isRegister 9 = .ok (.isub, 1) := by decide +kernel
theorem zd_M_isRegister_10 : decode zb_M_isRegister 10 = .ok (.i2l, 1) := by decide +kernel
theorem zd_M_isRegister_11 : decode zb_M_isRegister 11 = .ok (.invokestatic 112, 3) := by decide +kernel
theorem zd_M_isRegister_14 : decode zb_M_isRegister 14 = .ok (.iconst 1, 1) := by decide +kernel
theorem zd_M_isRegister_15 : decode zb_M_isRegister 15 = .ok (.invokevirtual 116, 3) := by decide +kernel
theorem zd_M_isRegister_18 : decode zb_M_isRegister 18 = .ok (.ireturn, 1) := by decide +kernel
theorem zd_M_set_0 : decode zb_M_set 0 = .ok (.aload_n 0, 1) := by decide +kernel
theorem zd_M_set_1 : decode zb_M_set 1 = .ok (.iload_n 1, 1) := by decide +kernel
theorem zd_M_set_2 : decode zb_M_set 2 = .ok (.invokevirtual 309, 3) := by decide +kernel
theorem zd_M_set_5 : decode zb_M_set 5 = .ok (.ifCond .ne 5, 3) := by decide +kernel
theorem zd_M_set_8 : decode zb_M_set 8 = .ok (.lconst 0, 1) := by decide +kernel
theorem zd_M_set_9 : decode zb_M_set 9 = .ok (.lreturn, 1) := by decide +kernel
theorem zd_M_set_10 : decode zb_M_set 10 = .ok (.aload_n 0, 1) := by decide +kernel
theorem zd_M_set_11 : decode zb_M_set 11 = .ok (.getfield 17, 3) := by decide +kernel
theorem zd_M_set_14 : decode zb_M_set 14 = .ok (.iload_n 1, 1) := by decide +kernel
theorem zd_M_set_15 : decode zb_M_set 15 = .ok (.laload, 1) := by decide +kernel
theorem zd_M_set_16 : decode zb_M_set 16 = .ok (.lstore 4, 2) := by decide +kernel
theorem zd_M_set_18 : decode zb_M_set 18 = .ok (.aload_n 0, 1) := by decide +kernel
theorem zd_M_set_19 : decode zb_M_set 19 = .ok (.getfield 17, 3) := by decide +kernel
theorem zd_M_set_22 : decode zb_M_set 22 = .ok (.iload_n 1, 1) := by decide +kernel
theorem zd_M_set_23 : decode zb_M_set 23 = .ok (.aload_n 0, 1) := by decide +kernel
theorem zd_M_set_24 : decode zb_M_set 24 = .ok (.iload_n 1, 1) := by decide +kernel
theorem zd_M_set_25 : decode zb_M_set 25 = .ok (.lload_n 2, 1) := by decide +kernel
theorem zd_M_set_26 : decode zb_M_set 26 = .ok (.invokevirtual 190, 3) := by decide +kernel
theorem zd_M_set_29 : decode zb_M_set 29 = .ok (.lastore, 1) := by decide +kernel
theorem zd_M_set_30 : decode zb_M_set 30 = .ok (.aload_n 0, 1) := by decide +kernel
theorem zd_M_set_31 : decode zb_M_set 31 = .ok (.getfield 27, 3) := by decide +kernel
theorem zd_M_set_34 : decode zb_M_set 34 = .ok (.iload_n 1, 1) := by decide +kernel
theorem zd_M_set_35 : decode zb_M_set 35 = .ok (.iconst 0, 1) := by decide +kernel
theorem zd_M_set_36 : decode zb_M_set 36 = .ok (.bastore, 1) := by decide +kernel
theorem zd_M_set_37 : decode zb_M_set 37 = .ok (.aload_n 0, 1) := by decide +kernel
theorem zd_M_set_38 : decode zb_M_set 38 = .ok (.aload_n 0, 1) := by decide +kernel
theorem zd_M_set_39 : decode zb_M_set 39 = .ok (.getfield 168, 3) := by decide +kernel
theorem zd_M_set_42 : decode zb_M_set 42 = .ok (.ifCond .eq 11, 3) := by decide +kernel
theorem zd_M_set_45 : decode zb_M_set 45 = .ok (.iload_n 1, 1) := by decide +kernel
theorem zd_M_set_46 : decode zb_M_set 46 = .ok (.ifCond .le 7, 3) := by decide +kernel
theorem zd_M_set_49 : decode zb_M_set 49 = .ok (.iconst 1, 1) := by decide +kernel
theorem zd_M_set_50 : decode zb_M_set 50 = .ok (.goto 4, 3) := by decide +kernel
theorem zd_M_set_53 : decode zb_M_set 53 = .ok (.iconst 0, 1) := by decide +kernel
theorem zd_M_set_54 : decode zb_M_set 54 = .ok (.putfield 168, 3) := by decide +kernel
theorem zd_M_set_57 : decode zb_M_set 57 = .ok (.lload 4, 2) := by decide +kernel
theorem zd_M_set_59 : decode zb_M_set 59 = .ok (.lreturn, 1) := by decide +kernel
theorem zd_M_get_0 : decode zb_M_get 0 = .ok (.aload_n 0, 1) := by decide +kernel
theorem zd_M_get_1 : decode zb_M_get 1 = .ok (.iload_n 1, 1) := by decide +kernel
theorem zd_M_get_2 : decode zb_M_get 2 = .ok (.invokevirtual 309, 3) := by decide +kernel
theorem zd_M_get_5 : decode zb_M_get 5 = .ok (.ifCond .eq 12, 3) := by decide +kernel
theorem zd_M_get_8 : decode zb_M_get 8 = .ok (.aload_n 0, 1) := by decide +kernel
theorem zd_M_get_9 : decode zb_M_get 9 = .ok (.getfield 17, 3) := by decide +kernel
theorem zd_M_get_12 : decode zb_M_get 12 = .ok (.iload_n 1, 1) := by decide +kernel
theorem zd_M_get_13 : decode zb_M_get 13 = .ok (.laload, 1) := by decide +kernel
theorem zd_M_get_14 : decode zb_M_get 14 = .ok (.goto 4, 3) := by decide +kernel
theorem zd_M_get_17 : decode zb_M_get 17 = .ok (.lconst 0, 1) := by decide +kernel
theorem zd_M_get_18 : decode zb_M_get 18 = .ok (.lreturn, 1) := by decide +kernel
theorem zd_M_mark_0 : decode zb_M_mark 0 = .ok (.aload_n 0, 1) := by decide +kernel
theorem zd_M_mark_1 : decode zb_M_mark 1 = .ok (.iload_n 1, 1) := by decide +kernel
theorem zd_M_mark_2 : decode zb_M_mark 2 = .ok (.invokevirtual 309, 3) := by decide +kernel
theorem zd_M_mark_5 : decode zb_M_mark 5 = .ok (.ifCond .eq 16, 3) := by decide +kernel
theorem zd_M_mark_8 : decode zb_M_mark 8 = .ok (.aload_n 0, 1) := by decide +kernel
theorem zd_M_mark_9 : decode zb_M_mark 9 = .ok (.getfield 27, 3) := by decide +kernel
theorem zd_M_mark_12 : decode zb_M_mark 12 = .ok (.iload_n 1, 1) := by decide +kernel
theorem zd_M_mark_13 : decode zb_M_mark 13 = .ok (.baload, 1) := by decide +kernel
theorem zd_M_mark_14 : decode zb_M_mark 14 = .ok (.ifCond .eq 7, 3) := by decide +kernel
theorem zd_M_mark_17 : decode zb_M_mark 17 = .ok (.iconst 1, 1) := by decide +kernel
theorem zd_M_mark_18 : decode zb_M_mark 18 = .ok (.goto 4, 3) := by decide +kernel
theorem zd_M_mark_21 : decode zb_M_mark 21 = .ok (.iconst 0, 1) := by decide +kernel
theorem zd_M_mark_22 : decode zb_M_mark 22 = .ok (.ireturn, 1) := by decide +kernel
theorem zd_M_line_0 : decode zb_M_line 0 = .ok (.aload_n 0, 1) := by decide +kernel
theorem zd_M_line_1 : decode zb_M_line 1 = .ok (.iload_n 1, 1) := by decide +kernel
theorem zd_M_line_2 : decode zb_M_line 2 = .ok (.i2l, 1) := by decide +kernel
theorem zd_M_line_3 : decode zb_M_line 3 = .ok (.lconst 0, 1) := by decide +kernel
theorem zd_M_line_4 : decode zb_M_line 4 = .ok (.ldc2_w 141, 3) := by decide +kernel
theorem zd_M_line_7 : decode zb_M_line 7 = .ok (.invokestatic 112, 3) := by decide +kernel
theorem zd_M_line_10 : decode zb_M_line 10 = .ok (.iconst 1, 1) := by decide +kernel
theorem zd_M_line_11 : decode zb_M_line 11 = .ok (.invokevirtual 116, 3) := by decide +kernel
theorem zd_M_line_14 : decode zb_M_line 14 = .ok (.ifCond .ne 5, 3) := by decide +kernel
theorem zd_M_line_17 : decode zb_M_line 17 = .ok (.iconst 0, 1) := by decide +kernel
theorem zd_M_line_18 : decode zb_M_line 18 = .ok (.ireturn, 1) := by decide +kernel
theorem zd_M_line_19 : decode zb_M_line 19 = .ok (.aload_n 0, 1) := by decide +kernel
theorem zd_M_line_20 : decode zb_M_line 20 = .ok (.getfield 80, 3) := by decide +kernel
theorem zd_M_line_23 : decode zb_M_line 23 = .ok (.iload_n 1, 1) := by decide +kernel
theorem zd_M_line_24 : decode zb_M_line 24 = .ok (.baload, 1) := by decide +kernel
theorem zd_M_line_25 : decode zb_M_line 25 = .ok (.istore_n 3, 1) := by decide +kernel
theorem zd_M_line_26 : decode zb_M_line 26 = .ok (.aload_n 0, 1) := by decide +kernel
theorem zd_M_line_27 : decode zb_M_line 27 = .ok (.getfield 80, 3) := by decide +kernel
theorem zd_M_line_30 : decode zb_M_line 30 = .ok (.iload_n 1, 1) := by decide +kernel
theorem zd_M_line_31 : decode zb_M_line 31 = .ok (.iload_n 2, 1) := by decide +kernel
theorem zd_M_line_32 : decode zb_M_line 32 = .ok (.bastore, 1) := by decide +kernel
theorem zd_M_line_33 : decode zb_M_line 33 = .ok (.iload_n 3, 1) := by decide +kernel
theorem zd_M_line_34 : decode zb_M_line 34 = .ok (.ireturn, 1) := by decide +kernel
theorem zd_M_enable_0 : decode zb_M_enable 0 = .ok (.aload_n 0, 1) := by decide +kernel
theorem zd_M_enable_1 : decode zb_M_enable 1 = .ok (.iload_n 1, 1) := by decide +kernel
theorem zd_M_enable_2 : decode zb_M_enable 2 = .ok (.i2l, 1) := by decide +kernel
theorem zd_M_enable_3 : decode zb_M_enable 3 = .ok (.lconst 0, 1) := by decide +kernel
theorem zd_M_enable_4 : decode zb_M_enable 4 = .ok (.ldc2_w 141, 3) := by decide +kernel
theorem zd_M_enable_7 : decode zb_M_enable 7 = .ok (.invokestatic 112, 3) := by decide +kernel
theorem zd_M_enable_10 : decode zb_M_enable 10 = .ok (.iload_n 2, 1) := by decide +kernel
theorem zd_M_enable_11 : decode zb_M_enable 11 = .ok (.i2l, 1) := by decide +kernel
theorem zd_M_enable_12 : decode zb_M_enable 12 = .ok (.lconst 0, 1) := by decide +kernel
theorem zd_M_enable_13 : decode zb_M_enable 13 = .ok (.ldc2_w 312, 3) := by decide +kernel
theorem zd_M_enable_16 : decode zb_M_enable 16 = .ok (.invokestatic 112, 3) := by decide +kernel
theorem zd_M_enable_19 : decode zb_M_enable 19 = .ok (.invokevirtual 116, 3) := by decide +kernel
theorem zd_M_enable_22 : decode zb_M_enable 22 = .ok (.ifCond .ne 5, 3) := by decide +kernel
theorem zd_M_enable_25 : decode zb_M_enable 25 = .ok (.iconst 0, 1) := by decide +kernel
theorem zd_M_enable_26 : decode zb_M_enable 26 = .ok (.ireturn, 1) := by decide +kernel
theorem zd_M_enable_27 : decode zb_M_enable 27 = .ok (.aload_n 0, 1) := by decide +kernel
theorem zd_M_enable_28 : decode zb_M_enable 28 = .ok (.getfield 83, 3) := by decide +kernel
theorem zd_M_enable_31 : decode zb_M_enable 31 = .ok (.iload_n 1, 1) := by decide +kernel
theorem zd_M_enable_32 : decode zb_M_enable 32 = .ok (.iaload, 1) := by decide +kernel
theorem zd_M_enable_33 : decode zb_M_enable 33 = .ok (.istore_n 3, 1) := by decide +kernel
theorem zd_M_enable_34 : decode zb_M_enable 34 = .ok (.aload_n 0, 1) := by decide +kernel
theorem zd_M_enable_35 : decode zb_M_enable 35 = .ok (.getfield 83, 3) := by decide +kernel
theorem zd_M_enable_38 : decode zb_M_enable 38 = .ok (.iload_n 1, 1) := by decide +kernel
theorem zd_M_enable_39 : decode zb_M_enable 39 = .ok (.iload_n 2, 1) := by decide +kernel
theorem zd_M_enable_40 : decode zb_M_enable 40 = .ok (.iastore, 1) := by decide +kernel
theorem zd_M_enable_41 : decode zb_M_enable 41 = .ok (.iload_n 3, 1) := by decide +kernel
theorem zd_M_enable_42 : decode zb_M_enable 42 = .ok (.ireturn, 1) := by decide +kernel
theorem zd_M_fault_0 : decode zb_M_fault 0 = .ok (.aload_n 0, 1) := by decide +kernel
theorem zd_M_fault_1 : decode zb_M_fault 1 = .ok (.iload_n 1, 1) := by decide +kernel
theorem zd_M_fault_2 : decode zb_M_fault 2 = .ok (.i2l, 1) := by decide +kernel
theorem zd_M_fault_3 : decode zb_M_fault 3 = .ok (.lconst 0, 1) := by decide +kernel
theorem zd_M_fault_4 : decode zb_M_fault 4 = .ok (.lconst 1, 1) := by decide +kernel
theorem zd_M_fault_5 : decode zb_M_fault 5 = .ok (.invokestatic 112, 3) := by decide +kernel
theorem zd_M_fault_8 : decode zb_M_fault 8 = .ok (.iconst 1, 1) := by decide +kernel
theorem zd_M_fault_9 : decode zb_M_fault 9 = .ok (.invokevirtual 116, 3) := by decide +kernel
theorem zd_M_fault_12 : decode zb_M_fault 12 = .ok (.ifCond .ne 5, 3) := by decide +kernel
theorem zd_M_fault_15 : decode zb_M_fault 15 = .ok (.iconst 0, 1) := by decide +kernel
theorem zd_M_fault_16 : decode zb_M_fault 16 = .ok (.ireturn, 1) := by decide +kernel
theorem zd_M_fault_17 : decode zb_M_fault 17 = .ok (.iload_n 1, 1) := by decide +kernel
theorem zd_M_fault_18 : decode zb_M_fault 18 = .ok (.ifCond .ne 10, 3) := by decide +kernel
theorem zd_M_fault_21 : decode zb_M_fault 21 = .ok (.aload_n 0, 1) := by decide +kernel
theorem zd_M_fault_22 : decode zb_M_fault 22 = .ok (.getfield 159, 3) := by decide +kernel
theorem zd_M_fault_25 : decode zb_M_fault 25 = .ok (.goto 7, 3) := by decide +kernel
theorem zd_M_fault_28 : decode zb_M_fault 28 = .ok (.aload_n 0, 1) := by decide +kernel
theorem zd_M_fault_29 : decode zb_M_fault 29 = .ok (.getfield 165, 3) := by decide +kernel
theorem zd_M_fault_32 : decode zb_M_fault 32 = .ok (.ireturn, 1) := by decide +kernel
theorem zd_M_halted_0 : decode zb_M_halted 0 = .ok (.aload_n 0, 1) := by decide +kernel
theorem zd_M_halted_1 : decode zb_M_halted 1 = .ok (.iconst 0, 1) := by decide +kernel
theorem zd_M_halted_2 : decode zb_M_halted 2 = .ok (.putfield 107, 3) := by decide +kernel
theorem zd_M_halted_5 : decode zb_M_halted 5 = .ok (.aload_n 0, 1) := by decide +kernel
theorem zd_M_halted_6 : decode zb_M_halted 6 = .ok (.getfield 153, 3) := by decide +kernel
theorem zd_M_halted_9 : decode zb_M_halted 9 = .ok (.ireturn, 1) := by decide +kernel
theorem zd_M_counter_0 : decode zb_M_counter 0 = .ok (.aload_n 0, 1) := by decide +kernel
theorem zd_M_counter_1 : decode zb_M_counter 1 = .ok (.iload_n 1, 1) := by decide +kernel
theorem zd_M_counter_2 : decode zb_M_counter 2 = .ok (.i2l, 1) := by decide +kernel
theorem zd_M_counter_3 : decode zb_M_counter 3 = .ok (.lconst 0, 1) := by decide +kernel
theorem zd_M_counter_4 : decode zb_M_counter 4 = .ok (.ldc2_w 314, 3) := by decide +kernel
theorem zd_M_counter_7 : decode zb_M_counter 7 = .ok (.invokestatic 112, 3) := by decide +kernel
theorem zd_M_counter_10 : decode zb_M_counter 10 = .ok (.iconst 1, 1) := by decide +kernel
theorem zd_M_counter_11 : decode zb_M_counter 11 = .ok (.invokevirtual 116, 3) := by decide +kernel
theorem zd_M_counter_14 : decode zb_M_counter 14 = .ok (.ifCond .ne 5, 3) := by decide +kernel
theorem zd_M_counter_17 : decode zb_M_counter 17 = .ok (.iconst 0, 1) := by decide +kernel
theorem zd_M_counter_18 : decode zb_M_counter 18 = .ok (.ireturn, 1) := by decide +kernel
theorem zd_M_counter_19 : decode zb_M_counter 19 = .ok (.iload_n 1, 1) := by decide +kernel
theorem zd_M_counter_20 : decode zb_M_counter 20 = .ok (.bipush 6, 2) := by decide +kernel
theorem zd_M_counter_22 : decode zb_M_counter 22 = .ok (.if_icmp .ne 10, 3) := by decide +kernel
theorem zd_M_counter_25 : decode zb_M_counter 25 = .ok (.aload_n 0, 1) := by decide +kernel
theorem zd_M_counter_26 : decode zb_M_counter 26 = .ok (.getfield 156, 3) := by decide +kernel
theorem zd_M_counter_29 : decode zb_M_counter 29 = .ok (.goto 22, 3) := by decide +kernel
theorem zd_M_counter_32 : decode zb_M_counter 32 = .ok (.iload_n 1, 1) := by decide +kernel
theorem zd_M_counter_33 : decode zb_M_counter 33 = .ok (.bipush 7, 2) := by decide +kernel
theorem zd_M_counter_35 : decode zb_M_counter 35 = .ok (.if_icmp .ne 10, 3) := by decide +kernel
theorem zd_M_counter_38 : decode zb_M_counter 38 = .ok (.aload_n 0, 1) := by decide +kernel
theorem zd_M_counter_39 : decode zb_M_counter 39 = .ok (.getfield 150, 3) := by decide +kernel
theorem zd_M_counter_42 : decode zb_M_counter 42 = .ok (.goto 9, 3) := by decide +kernel
theorem zd_M_counter_45 : decode zb_M_counter 45 = .ok (.aload_n 0, 1) := by decide +kernel
theorem zd_M_counter_46 : decode zb_M_counter 46 = .ok (.getfield 104, 3) := by decide +kernel
theorem zd_M_counter_49 : decode zb_M_counter 49 = .ok (.iload_n 1, 1) := by decide +kernel
theorem zd_M_counter_50 : decode zb_M_counter 50 = .ok (.iaload, 1) := by decide +kernel
theorem zd_M_counter_51 : decode zb_M_counter 51 = .ok (.ireturn, 1) := by decide +kernel

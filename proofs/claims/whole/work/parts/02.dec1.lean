theorem dX6_readPipe_174 : decode cX6_readPipe 174 = .ok (.istore 8, 2) := by decide +kernel
theorem dX6_readPipe_176 : decode cX6_readPipe 176 = .ok (.iload 8, 2) := by decide +kernel
theorem dX6_readPipe_178 : decode cX6_readPipe 178 = .ok (.iconst (-1), 1) := by decide +kernel
theorem dX6_readPipe_179 : decode cX6_readPipe 179 = .ok (.if_icmp .eq 12, 3) := by decide +kernel
theorem dX6_readPipe_182 : decode cX6_readPipe 182 = .ok (.aload_n 0, 1) := by decide +kernel
theorem dX6_readPipe_183 : decode cX6_readPipe 183 = .ok (.bipush 59, 2) := by decide +kernel
theorem dX6_readPipe_185 : decode cX6_readPipe 185 = .ok (.invokevirtual 45, 3) := by decide +kernel
theorem dX6_readPipe_188 : decode cX6_readPipe 188 = .ok (.ifCond .ne 5, 3) := by decide +kernel
theorem dX6_readPipe_191 : decode cX6_readPipe 191 = .ok (.iconst 0, 1) := by decide +kernel
theorem dX6_readPipe_192 : decode cX6_readPipe 192 = .ok (.ireturn, 1) := by decide +kernel
theorem dX6_readPipe_193 : decode cX6_readPipe 193 = .ok (.aload_n 1, 1) := by decide +kernel
theorem dX6_readPipe_194 : decode cX6_readPipe 194 = .ok (.getfield 38, 3) := by decide +kernel
theorem dX6_readPipe_197 : decode cX6_readPipe 197 = .ok (.iconst 5, 1) := by decide +kernel
theorem dX6_readPipe_198 : decode cX6_readPipe 198 = .ok (.iload_n 2, 1) := by decide +kernel
theorem dX6_readPipe_199 : decode cX6_readPipe 199 = .ok (.iadd, 1) := by decide +kernel
theorem dX6_readPipe_200 : decode cX6_readPipe 200 = .ok (.iload_n 3, 1) := by decide +kernel
theorem dX6_readPipe_201 : decode cX6_readPipe 201 = .ok (.iastore, 1) := by decide +kernel
theorem dX6_readPipe_202 : decode cX6_readPipe 202 = .ok (.aload_n 1, 1) := by decide +kernel
theorem dX6_readPipe_203 : decode cX6_readPipe 203 = .ok (.getfield 38, 3) := by decide +kernel
theorem dX6_readPipe_206 : decode cX6_readPipe 206 = .ok (.bipush 12, 2) := by decide +kernel
theorem dX6_readPipe_208 : decode cX6_readPipe 208 = .ok (.iload_n 2, 1) := by decide +kernel
theorem dX6_readPipe_209 : decode cX6_readPipe 209 = .ok (.iadd, 1) := by decide +kernel
theorem dX6_readPipe_210 : decode cX6_readPipe 210 = .ok (.iload 5, 2) := by decide +kernel
theorem dX6_readPipe_212 : decode cX6_readPipe 212 = .ok (.iastore, 1) := by decide +kernel
theorem dX6_readPipe_213 : decode cX6_readPipe 213 = .ok (.aload_n 1, 1) := by decide +kernel
theorem dX6_readPipe_214 : decode cX6_readPipe 214 = .ok (.getfield 38, 3) := by decide +kernel
theorem dX6_readPipe_217 : decode cX6_readPipe 217 = .ok (.bipush 19, 2) := by decide +kernel
theorem dX6_readPipe_219 : decode cX6_readPipe 219 = .ok (.iload_n 2, 1) := by decide +kernel
theorem dX6_readPipe_220 : decode cX6_readPipe 220 = .ok (.iadd, 1) := by decide +kernel
theorem dX6_readPipe_221 : decode cX6_readPipe 221 = .ok (.iload 6, 2) := by decide +kernel
theorem dX6_readPipe_223 : decode cX6_readPipe 223 = .ok (.iastore, 1) := by decide +kernel
theorem dX6_readPipe_224 : decode cX6_readPipe 224 = .ok (.aload_n 1, 1) := by decide +kernel
theorem dX6_readPipe_225 : decode cX6_readPipe 225 = .ok (.getfield 38, 3) := by decide +kernel
theorem dX6_readPipe_228 : decode cX6_readPipe 228 = .ok (.bipush 26, 2) := by decide +kernel
theorem dX6_readPipe_230 : decode cX6_readPipe 230 = .ok (.iload_n 2, 1) := by decide +kernel
theorem dX6_readPipe_231 : decode cX6_readPipe 231 = .ok (.iadd, 1) := by decide +kernel
theorem dX6_readPipe_232 : decode cX6_readPipe 232 = .ok (.iload 7, 2) := by decide +kernel
theorem dX6_readPipe_234 : decode cX6_readPipe 234 = .ok (.iastore, 1) := by decide +kernel
theorem dX6_readPipe_235 : decode cX6_readPipe 235 = .ok (.aload_n 1, 1) := by decide +kernel
theorem dX6_readPipe_236 : decode cX6_readPipe 236 = .ok (.getfield 38, 3) := by decide +kernel
theorem dX6_readPipe_239 : decode cX6_readPipe 239 = .ok (.bipush 33, 2) := by decide +kernel
theorem dX6_readPipe_241 : decode cX6_readPipe 241 = .ok (.iload_n 2, 1) := by decide +kernel
theorem dX6_readPipe_242 : decode cX6_readPipe 242 = .ok (.iadd, 1) := by decide +kernel
theorem dX6_readPipe_243 : decode cX6_readPipe 243 = .ok (.iload 8, 2) := by decide +kernel
theorem dX6_readPipe_245 : decode cX6_readPipe 245 = .ok (.iastore, 1) := by decide +kernel
theorem dX6_readPipe_246 : decode cX6_readPipe 246 = .ok (.aload_n 1, 1) := by decide +kernel
theorem dX6_readPipe_247 : decode cX6_readPipe 247 = .ok (.getfield 38, 3) := by decide +kernel
theorem dX6_readPipe_250 : decode cX6_readPipe 250 = .ok (.iconst 2, 1) := by decide +kernel
theorem dX6_readPipe_251 : decode cX6_readPipe 251 = .ok (.iload_n 2, 1) := by decide +kernel
theorem dX6_readPipe_252 : decode cX6_readPipe 252 = .ok (.iconst 1, 1) := by decide +kernel
theorem dX6_readPipe_253 : decode cX6_readPipe 253 = .ok (.iadd, 1) := by decide +kernel
theorem dX6_readPipe_254 : decode cX6_readPipe 254 = .ok (.iastore, 1) := by decide +kernel
theorem dX6_readPipe_255 : decode cX6_readPipe 255 = .ok (.iconst 1, 1) := by decide +kernel
theorem dX6_readPipe_256 : decode cX6_readPipe 256 = .ok (.ireturn, 1) := by decide +kernel
theorem dX6_passes_0 : decode cX6_passes 0 = .ok (.aload_n 0, 1) := by decide +kernel
theorem dX6_passes_1 : decode cX6_passes 1 = .ok (.getfield 23, 3) := by decide +kernel
theorem dX6_passes_4 : decode cX6_passes 4 = .ok (.aload_n 0, 1) := by decide +kernel
theorem dX6_passes_5 : decode cX6_passes 5 = .ok (.getfield 13, 3) := by decide +kernel
theorem dX6_passes_8 : decode cX6_passes 8 = .ok (.if_icmp .ge 16, 3) := by decide +kernel
theorem dX6_passes_11 : decode cX6_passes 11 = .ok (.aload_n 0, 1) := by decide +kernel
theorem dX6_passes_12 : decode cX6_passes 12 = .ok (.getfield 9, 3) := by decide +kernel
theorem dX6_passes_15 : decode cX6_passes 15 = .ok (.aload_n 0, 1) := by decide +kernel
theorem dX6_passes_16 : decode cX6_passes 16 = .ok (.getfield 23, 3) := by decide +kernel
theorem dX6_passes_19 : decode cX6_passes 19 = .ok (.iaload, 1) := by decide +kernel
theorem dX6_passes_20 : decode cX6_passes 20 = .ok (.iload_n 1, 1) := by decide +kernel
theorem dX6_passes_21 : decode cX6_passes 21 = .ok (.if_icmp .eq 13, 3) := by decide +kernel
theorem dX6_passes_24 : decode cX6_passes 24 = .ok (.aload_n 0, 1) := by decide +kernel
theorem dX6_passes_25 : decode cX6_passes 25 = .ok (.iconst 1, 1) := by decide +kernel
theorem dX6_passes_26 : decode cX6_passes 26 = .ok (.aload_n 0, 1) := by decide +kernel
theorem dX6_passes_27 : decode cX6_passes 27 = .ok (.getfield 23, 3) := by decide +kernel
theorem dX6_passes_30 : decode cX6_passes 30 = .ok (.invokevirtual 59, 3) := by decide +kernel
theorem dX6_passes_33 : decode cX6_passes 33 = .ok (.ireturn, 1) := by decide +kernel
theorem dX6_passes_34 : decode cX6_passes 34 = .ok (.aload_n 0, 1) := by decide +kernel
theorem dX6_passes_35 : decode cX6_passes 35 = .ok (.dup, 1) := by decide +kernel
theorem dX6_passes_36 : decode cX6_passes 36 = .ok (.getfield 23, 3) := by decide +kernel
theorem dX6_passes_39 : decode cX6_passes 39 = .ok (.iconst 1, 1) := by decide +kernel
theorem dX6_passes_40 : decode cX6_passes 40 = .ok (.iadd, 1) := by decide +kernel
theorem dX6_passes_41 : decode cX6_passes 41 = .ok (.putfield 23, 3) := by decide +kernel
theorem dX6_passes_44 : decode cX6_passes 44 = .ok (.iconst 1, 1) := by decide +kernel
theorem dX6_passes_45 : decode cX6_passes 45 = .ok (.ireturn, 1) := by decide +kernel
theorem dX6_number_0 : decode cX6_number 0 = .ok (.aload_n 0, 1) := by decide +kernel
theorem dX6_number_1 : decode cX6_number 1 = .ok (.getfield 23, 3) := by decide +kernel
theorem dX6_number_4 : decode cX6_number 4 = .ok (.istore 4, 2) := by decide +kernel
theorem dX6_number_6 : decode cX6_number 6 = .ok (.iconst 0, 1) := by decide +kernel
theorem dX6_number_7 : decode cX6_number 7 = .ok (.istore 5, 2) := by decide +kernel
theorem dX6_number_9 : decode cX6_number 9 = .ok (.aload_n 0, 1) := by decide +kernel
theorem dX6_number_10 : decode cX6_number 10 = .ok (.getfield 23, 3) := by decide +kernel
theorem dX6_number_13 : decode cX6_number 13 = .ok (.aload_n 0, 1) := by decide +kernel
theorem dX6_number_14 : decode cX6_number 14 = .ok (.getfield 13, 3) := by decide +kernel
theorem dX6_number_17 : decode cX6_number 17 = .ok (.if_icmp .ge 64, 3) := by decide +kernel
theorem dX6_number_20 : decode cX6_number 20 = .ok (.aload_n 0, 1) := by decide +kernel
theorem dX6_number_21 : decode cX6_number 21 = .ok (.getfield 9, 3) := by decide +kernel
theorem dX6_number_24 : decode cX6_number 24 = .ok (.aload_n 0, 1) := by decide +kernel
theorem dX6_number_25 : decode cX6_number 25 = .ok (.getfield 23, 3) := by decide +kernel
theorem dX6_number_28 : decode cX6_number 28 = .ok (.iaload, 1) := by decide +kernel
theorem dX6_number_29 : decode cX6_number 29 = .ok (.bipush 48, 2) := by decide +kernel
theorem dX6_number_31 : decode cX6_number 31 = .ok (.if_icmp .lt 50, 3) := by decide +kernel
theorem dX6_number_34 : decode cX6_number 34 = .ok (.aload_n 0, 1) := by decide +kernel
theorem dX6_number_35 : decode cX6_number 35 = .ok (.getfield 9, 3) := by decide +kernel
theorem dX6_number_38 : decode cX6_number 38 = .ok (.aload_n 0, 1) := by decide +kernel
theorem dX6_number_39 : decode cX6_number 39 = .ok (.getfield 23, 3) := by decide +kernel
theorem dX6_number_42 : decode cX6_number 42 = .ok (.iaload, 1) := by decide +kernel
theorem dX6_number_43 : decode cX6_number 43 = .ok (.bipush 57, 2) := by decide +kernel
theorem dX6_number_45 : decode cX6_number 45 = .ok (.if_icmp .gt 36, 3) := by decide +kernel
theorem dX6_number_48 : decode cX6_number 48 = .ok (.bipush 10, 2) := by decide +kernel
theorem dX6_number_50 : decode cX6_number 50 = .ok (.iload 5, 2) := by decide +kernel
theorem dX6_number_52 : decode cX6_number 52 = .ok (.imul, 1) := by decide +kernel
theorem dX6_number_53 : decode cX6_number 53 = .ok (.aload_n 0, 1) := by decide +kernel
theorem dX6_number_54 : decode cX6_number 54 = .ok (.getfield 9, 3) := by decide +kernel
theorem dX6_number_57 : decode cX6_number 57 = .ok (.aload_n 0, 1) := by decide +kernel
theorem dX6_number_58 : decode cX6_number 58 = .ok (.getfield 23, 3) := by decide +kernel
theorem dX6_number_61 : decode cX6_number 61 = .ok (.iaload, 1) := by decide +kernel
theorem dX6_number_62 : decode cX6_number 62 = .ok (.iadd, 1) := by decide +kernel
theorem dX6_number_63 : decode cX6_number 63 = .ok (.bipush 48, 2) := by decide +kernel
theorem dX6_number_65 : decode cX6_number 65 = .ok (.isub, 1) := by decide +kernel
theorem dX6_number_66 : decode cX6_number 66 = .ok (.istore 5, 2) := by decide +kernel
theorem dX6_number_68 : decode cX6_number 68 = .ok (.aload_n 0, 1) := by decide +kernel
theorem dX6_number_69 : decode cX6_number 69 = .ok (.dup, 1) := by decide +kernel
theorem dX6_number_70 : decode cX6_number 70 = .ok (.getfield 23, 3) := by decide +kernel
theorem dX6_number_73 : decode cX6_number 73 = .ok (.iconst 1, 1) := by decide +kernel
theorem dX6_number_74 : decode cX6_number 74 = .ok (.iadd, 1) := by decide +kernel
theorem dX6_number_75 : decode cX6_number 75 = .ok (.putfield 23, 3) := by decide +kernel
theorem dX6_number_78 : decode cX6_number 78 = .ok (.goto (-69), 3) := by decide +kernel
theorem dX6_number_81 : decode cX6_number 81 = .ok (.aload_n 0, 1) := by decide +kernel
theorem dX6_number_82 : decode cX6_number 82 = .ok (.getfield 23, 3) := by decide +kernel
theorem dX6_number_85 : decode cX6_number 85 = .ok (.iload 4, 2) := by decide +kernel
theorem dX6_number_87 : decode cX6_number 87 = .ok (.if_icmp .eq 14, 3) := by decide +kernel
theorem dX6_number_90 : decode cX6_number 90 = .ok (.aload_n 0, 1) := by decide +kernel
theorem dX6_number_91 : decode cX6_number 91 = .ok (.getfield 23, 3) := by decide +kernel
theorem dX6_number_94 : decode cX6_number 94 = .ok (.iload 4, 2) := by decide +kernel
theorem dX6_number_96 : decode cX6_number 96 = .ok (.isub, 1) := by decide +kernel
theorem dX6_number_97 : decode cX6_number 97 = .ok (.iconst 2, 1) := by decide +kernel
theorem dX6_number_98 : decode cX6_number 98 = .ok (.if_icmp .le 13, 3) := by decide +kernel
theorem dX6_number_101 : decode cX6_number 101 = .ok (.aload_n 0, 1) := by decide +kernel
theorem dX6_number_102 : decode cX6_number 102 = .ok (.iconst 1, 1) := by decide +kernel
theorem dX6_number_103 : decode cX6_number 103 = .ok (.iload 4, 2) := by decide +kernel
theorem dX6_number_105 : decode cX6_number 105 = .ok (.invokevirtual 59, 3) := by decide +kernel
theorem dX6_number_108 : decode cX6_number 108 = .ok (.pop, 1) := by decide +kernel
theorem dX6_number_109 : decode cX6_number 109 = .ok (.iconst (-1), 1) := by decide +kernel
theorem dX6_number_110 : decode cX6_number 110 = .ok (.ireturn, 1) := by decide +kernel
theorem dX6_number_111 : decode cX6_number 111 = .ok (.iload 5, 2) := by decide +kernel
theorem dX6_number_113 : decode cX6_number 113 = .ok (.iload_n 1, 1) := by decide +kernel
theorem dX6_number_114 : decode cX6_number 114 = .ok (.if_icmp .lt 15, 3) := by decide +kernel
theorem dX6_number_117 : decode cX6_number 117 = .ok (.iload 5, 2) := by decide +kernel
theorem dX6_number_119 : decode cX6_number 119 = .ok (.iload_n 2, 1) := by decide +kernel
theorem dX6_number_120 : decode cX6_number 120 = .ok (.if_icmp .gt 9, 3) := by decide +kernel
theorem dX6_number_123 : decode cX6_number 123 = .ok (.iload 5, 2) := by decide +kernel
theorem dX6_number_125 : decode cX6_number 125 = .ok (.iload_n 3, 1) := by decide +kernel
theorem dX6_number_126 : decode cX6_number 126 = .ok (.if_icmp .ne 13, 3) := by decide +kernel
theorem dX6_number_129 : decode cX6_number 129 = .ok (.aload_n 0, 1) := by decide +kernel
theorem dX6_number_130 : decode cX6_number 130 = .ok (.iconst 2, 1) := by decide +kernel
theorem dX6_number_131 : decode cX6_number 131 = .ok (.iload 4, 2) := by decide +kernel
theorem dX6_number_133 : decode cX6_number 133 = .ok (.invokevirtual 59, 3) := by decide +kernel
theorem dX6_number_136 : decode cX6_number 136 = .ok (.pop, 1) := by decide +kernel
theorem dX6_number_137 : decode cX6_number 137 = .ok (.iconst (-1), 1) := by decide +kernel
theorem dX6_number_138 : decode cX6_number 138 = .ok (.ireturn, 1) := by decide +kernel
theorem dX6_number_139 : decode cX6_number 139 = .ok (.iload 5, 2) := by decide +kernel
theorem dX6_number_141 : decode cX6_number 141 = .ok (.ireturn, 1) := by decide +kernel
theorem dX6_refuse_0 : decode cX6_refuse 0 = .ok (.aload_n 0, 1) := by decide +kernel
theorem dX6_refuse_1 : decode cX6_refuse 1 = .ok (.iload_n 1, 1) := by decide +kernel
theorem dX6_refuse_2 : decode cX6_refuse 2 = .ok (.putfield 17, 3) := by decide +kernel
theorem dX6_refuse_5 : decode cX6_refuse 5 = .ok (.aload_n 0, 1) := by decide +kernel
theorem dX6_refuse_6 : decode cX6_refuse 6 = .ok (.iload_n 2, 1) := by decide +kernel
theorem dX6_refuse_7 : decode cX6_refuse 7 = .ok (.putfield 20, 3) := by decide +kernel
theorem dX6_refuse_10 : decode cX6_refuse 10 = .ok (.iconst 0, 1) := by decide +kernel
theorem dX6_refuse_11 : decode cX6_refuse 11 = .ok (.ireturn, 1) := by decide +kernel
theorem dX7_init_0 : decode cX7_init 0 = .ok (.aload_n 0, 1) := by decide +kernel
theorem dX7_init_1 : decode cX7_init 1 = .ok (.invokespecial 1, 3) := by decide +kernel
theorem dX7_init_4 : decode cX7_init 4 = .ok (.aload_n 0, 1) := by decide +kernel
theorem dX7_init_5 : decode cX7_init 5 = .ok (.new 7, 3) := by decide +kernel
theorem dX7_init_8 : decode cX7_init 8 = .ok (.dup, 1) := by decide +kernel
theorem dX7_init_9 : decode cX7_init 9 = .ok (.invokespecial 9, 3) := by decide +kernel
theorem dX7_init_12 : decode cX7_init 12 = .ok (.putfield 10, 3) := by decide +kernel
theorem dX7_init_15 : decode cX7_init 15 = .ok (.aload_n 0, 1) := by decide +kernel
theorem dX7_init_16 : decode cX7_init 16 = .ok (.new 16, 3) := by decide +kernel
theorem dX7_init_19 : decode cX7_init 19 = .ok (.dup, 1) := by decide +kernel
theorem dX7_init_20 : decode cX7_init 20 = .ok (.invokespecial 18, 3) := by decide +kernel
theorem dX7_init_23 : decode cX7_init 23 = .ok (.putfield 19, 3) := by decide +kernel
theorem dX7_init_26 : decode cX7_init 26 = .ok (.aload_n 0, 1) := by decide +kernel
theorem dX7_init_27 : decode cX7_init 27 = .ok (.new 23, 3) := by decide +kernel
theorem dX7_init_30 : decode cX7_init 30 = .ok (.dup, 1) := by decide +kernel
theorem dX7_init_31 : decode cX7_init 31 = .ok (.invokespecial 25, 3) := by decide +kernel
theorem dX7_init_34 : decode cX7_init 34 = .ok (.putfield 26, 3) := by decide +kernel
theorem dX7_init_37 : decode cX7_init 37 = .ok (.aload_n 0, 1) := by decide +kernel
theorem dX7_init_38 : decode cX7_init 38 = .ok (.new 23, 3) := by decide +kernel
theorem dX7_init_41 : decode cX7_init 41 = .ok (.dup, 1) := by decide +kernel
theorem dX7_init_42 : decode cX7_init 42 = .ok (.invokespecial 25, 3) := by decide +kernel
theorem dX7_init_45 : decode cX7_init 45 = .ok (.putfield 30, 3) := by decide +kernel
theorem dX7_init_48 : decode cX7_init 48 = .ok (.aload_n 0, 1) := by decide +kernel
theorem dX7_init_49 : decode cX7_init 49 = .ok (.new 33, 3) := by decide +kernel
theorem dX7_init_52 : decode cX7_init 52 = .ok (.dup, 1) := by decide +kernel
theorem dX7_init_53 : decode cX7_init 53 = .ok (.invokespecial 35, 3) := by decide +kernel
theorem dX7_init_56 : decode cX7_init 56 = .ok (.putfield 36, 3) := by decide +kernel
theorem dX7_init_59 : decode cX7_init 59 = .ok (.aload_n 0, 1) := by decide +kernel
theorem dX7_init_60 : decode cX7_init 60 = .ok (.new 40, 3) := by decide +kernel
theorem dX7_init_63 : decode cX7_init 63 = .ok (.dup, 1) := by decide +kernel
theorem dX7_init_64 : decode cX7_init 64 = .ok (.invokespecial 42, 3) := by decide +kernel
theorem dX7_init_67 : decode cX7_init 67 = .ok (.putfield 43, 3) := by decide +kernel
theorem dX7_init_70 : decode cX7_init 70 = .ok (.aload_n 0, 1) := by decide +kernel
theorem dX7_init_71 : decode cX7_init 71 = .ok (.new 47, 3) := by decide +kernel
theorem dX7_init_74 : decode cX7_init 74 = .ok (.dup, 1) := by decide +kernel
theorem dX7_init_75 : decode cX7_init 75 = .ok (.invokespecial 49, 3) := by decide +kernel
theorem dX7_init_78 : decode cX7_init 78 = .ok (.putfield 50, 3) := by decide +kernel
theorem dX7_init_81 : decode cX7_init 81 = .ok (.aload_n 0, 1) := by decide +kernel
theorem dX7_init_82 : decode cX7_init 82 = .ok (.iconst 2, 1) := by decide +kernel
theorem dX7_init_83 : decode cX7_init 83 = .ok (.bipush 80, 2) := by decide +kernel
theorem dX7_init_85 : decode cX7_init 85 = .ok (.multianewarray 54 2, 4) := by decide +kernel
theorem dX7_init_89 : decode cX7_init 89 = .ok (.putfield 56, 3) := by decide +kernel
theorem dX7_init_92 : decode cX7_init 92 = .ok (.aload_n 0, 1) := by decide +kernel
theorem dX7_init_93 : decode cX7_init 93 = .ok (.iconst 0, 1) := by decide +kernel
theorem dX7_init_94 : decode cX7_init 94 = .ok (.putfield 59, 3) := by decide +kernel
theorem dX7_init_97 : decode cX7_init 97 = .ok (.return_, 1) := by decide +kernel
theorem dX7_row_0 : decode cX7_row 0 = .ok (.iload_n 1, 1) := by decide +kernel
theorem dX7_row_1 : decode cX7_row 1 = .ok (.invokestatic 63, 3) := by decide +kernel
theorem dX7_row_4 : decode cX7_row 4 = .ok (.ifCond .eq 18, 3) := by decide +kernel
theorem dX7_row_7 : decode cX7_row 7 = .ok (.iload_n 2, 1) := by decide +kernel
theorem dX7_row_8 : decode cX7_row 8 = .ok (.iconst 0, 1) := by decide +kernel
theorem dX7_row_9 : decode cX7_row 9 = .ok (.iconst 2, 1) := by decide +kernel
theorem dX7_row_10 : decode cX7_row 10 = .ok (.invokestatic 67, 3) := by decide +kernel
theorem dX7_row_13 : decode cX7_row 13 = .ok (.ifCond .eq 9, 3) := by decide +kernel
theorem dX7_row_16 : decode cX7_row 16 = .ok (.iload_n 3, 1) := by decide +kernel
theorem dX7_row_17 : decode cX7_row 17 = .ok (.bipush 40, 2) := by decide +kernel
theorem dX7_row_19 : decode cX7_row 19 = .ok (.if_icmp .le 6, 3) := by decide +kernel
theorem dX7_row_22 : decode cX7_row 22 = .ok (.ldc 71, 2) := by decide +kernel
theorem dX7_row_24 : decode cX7_row 24 = .ok (.ireturn, 1) := by decide +kernel
theorem dX7_row_25 : decode cX7_row 25 = .ok (.iload_n 3, 1) := by decide +kernel
theorem dX7_row_26 : decode cX7_row 26 = .ok (.ifCond .ge 9, 3) := by decide +kernel
theorem dX7_row_29 : decode cX7_row 29 = .ok (.aload_n 0, 1) := by decide +kernel
theorem dX7_row_30 : decode cX7_row 30 = .ok (.iconst 4, 1) := by decide +kernel
theorem dX7_row_31 : decode cX7_row 31 = .ok (.invokevirtual 72, 3) := by decide +kernel
theorem dX7_row_34 : decode cX7_row 34 = .ok (.ireturn, 1) := by decide +kernel
theorem dX7_row_35 : decode cX7_row 35 = .ok (.aload_n 0, 1) := by decide +kernel
theorem dX7_row_36 : decode cX7_row 36 = .ok (.getfield 10, 3) := by decide +kernel
theorem dX7_row_39 : decode cX7_row 39 = .ok (.iload_n 1, 1) := by decide +kernel
theorem dX7_row_40 : decode cX7_row 40 = .ok (.iload_n 2, 1) := by decide +kernel
theorem dX7_row_41 : decode cX7_row 41 = .ok (.iload_n 3, 1) := by decide +kernel
theorem dX7_row_42 : decode cX7_row 42 = .ok (.invokevirtual 76, 3) := by decide +kernel
theorem dX7_row_45 : decode cX7_row 45 = .ok (.aload_n 0, 1) := by decide +kernel
theorem dX7_row_46 : decode cX7_row 46 = .ok (.iload_n 3, 1) := by decide +kernel
theorem dX7_row_47 : decode cX7_row 47 = .ok (.invokevirtual 80, 3) := by decide +kernel
theorem dX7_row_50 : decode cX7_row 50 = .ok (.ireturn, 1) := by decide +kernel
theorem dX7_set_0 : decode cX7_set 0 = .ok (.iload_n 1, 1) := by decide +kernel
theorem dX7_set_1 : decode cX7_set 1 = .ok (.invokestatic 63, 3) := by decide +kernel
theorem dX7_set_4 : decode cX7_set 4 = .ok (.ifCond .ne 6, 3) := by decide +kernel
theorem dX7_set_7 : decode cX7_set 7 = .ok (.ldc 71, 2) := by decide +kernel
theorem dX7_set_9 : decode cX7_set 9 = .ok (.ireturn, 1) := by decide +kernel
theorem dX7_set_10 : decode cX7_set 10 = .ok (.aload_n 0, 1) := by decide +kernel
theorem dX7_set_11 : decode cX7_set 11 = .ok (.getfield 10, 3) := by decide +kernel
theorem dX7_set_14 : decode cX7_set 14 = .ok (.iload_n 1, 1) := by decide +kernel
theorem dX7_set_15 : decode cX7_set 15 = .ok (.invokevirtual 83, 3) := by decide +kernel
theorem dX7_set_18 : decode cX7_set 18 = .ok (.ifCond .eq 9, 3) := by decide +kernel
theorem dX7_set_21 : decode cX7_set 21 = .ok (.aload_n 0, 1) := by decide +kernel
theorem dX7_set_22 : decode cX7_set 22 = .ok (.iconst 1, 1) := by decide +kernel
theorem dX7_set_23 : decode cX7_set 23 = .ok (.invokevirtual 72, 3) := by decide +kernel
theorem dX7_set_26 : decode cX7_set 26 = .ok (.ireturn, 1) := by decide +kernel
theorem dX7_set_27 : decode cX7_set 27 = .ok (.aload_n 0, 1) := by decide +kernel
theorem dX7_set_28 : decode cX7_set 28 = .ok (.getfield 10, 3) := by decide +kernel
theorem dX7_set_31 : decode cX7_set 31 = .ok (.iload_n 1, 1) := by decide +kernel
theorem dX7_set_32 : decode cX7_set 32 = .ok (.iload_n 2, 1) := by decide +kernel
theorem dX7_set_33 : decode cX7_set 33 = .ok (.iconst 1, 1) := by decide +kernel
theorem dX7_set_34 : decode cX7_set 34 = .ok (.invokevirtual 86, 3) := by decide +kernel
theorem dX7_set_37 : decode cX7_set 37 = .ok (.ifCond .ne 9, 3) := by decide +kernel
theorem dX7_set_40 : decode cX7_set 40 = .ok (.aload_n 0, 1) := by decide +kernel
theorem dX7_set_41 : decode cX7_set 41 = .ok (.iconst 2, 1) := by decide +kernel
theorem dX7_set_42 : decode cX7_set 42 = .ok (.invokevirtual 72, 3) := by decide +kernel
theorem dX7_set_45 : decode cX7_set 45 = .ok (.ireturn, 1) := by decide +kernel
theorem dX7_set_46 : decode cX7_set 46 = .ok (.aload_n 0, 1) := by decide +kernel
theorem dX7_set_47 : decode cX7_set 47 = .ok (.aload_n 0, 1) := by decide +kernel
theorem dX7_set_48 : decode cX7_set 48 = .ok (.getfield 10, 3) := by decide +kernel
theorem dX7_set_51 : decode cX7_set 51 = .ok (.iload_n 1, 1) := by decide +kernel
theorem dX7_set_52 : decode cX7_set 52 = .ok (.iload_n 2, 1) := by decide +kernel
theorem dX7_set_53 : decode cX7_set 53 = .ok (.iload_n 3, 1) := by decide +kernel
theorem dX7_set_54 : decode cX7_set 54 = .ok (.invokevirtual 89, 3) := by decide +kernel
theorem dX7_set_57 : decode cX7_set 57 = .ok (.invokevirtual 80, 3) := by decide +kernel
theorem dX7_set_60 : decode cX7_set 60 = .ok (.ireturn, 1) := by decide +kernel
theorem dX7_copy_0 : decode cX7_copy 0 = .ok (.iload_n 1, 1) := by decide +kernel
theorem dX7_copy_1 : decode cX7_copy 1 = .ok (.invokestatic 63, 3) := by decide +kernel
theorem dX7_copy_4 : decode cX7_copy 4 = .ok (.ifCond .eq 10, 3) := by decide +kernel
theorem dX7_copy_7 : decode cX7_copy 7 = .ok (.iload_n 3, 1) := by decide +kernel
theorem dX7_copy_8 : decode cX7_copy 8 = .ok (.invokestatic 63, 3) := by decide +kernel
theorem dX7_copy_11 : decode cX7_copy 11 = .ok (.ifCond .ne 6, 3) := by decide +kernel
theorem dX7_copy_14 : decode cX7_copy 14 = .ok (.ldc 71, 2) := by decide +kernel
theorem dX7_copy_16 : decode cX7_copy 16 = .ok (.ireturn, 1) := by decide +kernel
theorem dX7_copy_17 : decode cX7_copy 17 = .ok (.aload_n 0, 1) := by decide +kernel
theorem dX7_copy_18 : decode cX7_copy 18 = .ok (.getfield 10, 3) := by decide +kernel
theorem dX7_copy_21 : decode cX7_copy 21 = .ok (.iload_n 1, 1) := by decide +kernel
theorem dX7_copy_22 : decode cX7_copy 22 = .ok (.invokevirtual 83, 3) := by decide +kernel
theorem dX7_copy_25 : decode cX7_copy 25 = .ok (.ifCond .ne 14, 3) := by decide +kernel
theorem dX7_copy_28 : decode cX7_copy 28 = .ok (.aload_n 0, 1) := by decide +kernel
theorem dX7_copy_29 : decode cX7_copy 29 = .ok (.getfield 10, 3) := by decide +kernel
theorem dX7_copy_32 : decode cX7_copy 32 = .ok (.iload_n 3, 1) := by decide +kernel
theorem dX7_copy_33 : decode cX7_copy 33 = .ok (.invokevirtual 83, 3) := by decide +kernel
theorem dX7_copy_36 : decode cX7_copy 36 = .ok (.ifCond .eq 9, 3) := by decide +kernel
theorem dX7_copy_39 : decode cX7_copy 39 = .ok (.aload_n 0, 1) := by decide +kernel
theorem dX7_copy_40 : decode cX7_copy 40 = .ok (.iconst 1, 1) := by decide +kernel
theorem dX7_copy_41 : decode cX7_copy 41 = .ok (.invokevirtual 72, 3) := by decide +kernel
theorem dX7_copy_44 : decode cX7_copy 44 = .ok (.ireturn, 1) := by decide +kernel
theorem dX7_copy_45 : decode cX7_copy 45 = .ok (.aload_n 0, 1) := by decide +kernel
theorem dX7_copy_46 : decode cX7_copy 46 = .ok (.getfield 10, 3) := by decide +kernel
theorem dX7_copy_49 : decode cX7_copy 49 = .ok (.getfield 93, 3) := by decide +kernel
theorem dX7_copy_52 : decode cX7_copy 52 = .ok (.iload_n 1, 1) := by decide +kernel
theorem dX7_copy_53 : decode cX7_copy 53 = .ok (.iaload, 1) := by decide +kernel
theorem dX7_copy_54 : decode cX7_copy 54 = .ok (.aload_n 0, 1) := by decide +kernel
theorem dX7_copy_55 : decode cX7_copy 55 = .ok (.getfield 10, 3) := by decide +kernel
theorem dX7_copy_58 : decode cX7_copy 58 = .ok (.getfield 93, 3) := by decide +kernel
theorem dX7_copy_61 : decode cX7_copy 61 = .ok (.iload_n 3, 1) := by decide +kernel
theorem dX7_copy_62 : decode cX7_copy 62 = .ok (.iaload, 1) := by decide +kernel
theorem dX7_copy_63 : decode cX7_copy 63 = .ok (.if_icmp .eq 9, 3) := by decide +kernel
theorem dX7_copy_66 : decode cX7_copy 66 = .ok (.aload_n 0, 1) := by decide +kernel
theorem dX7_copy_67 : decode cX7_copy 67 = .ok (.iconst 5, 1) := by decide +kernel
theorem dX7_copy_68 : decode cX7_copy 68 = .ok (.invokevirtual 72, 3) := by decide +kernel
theorem dX7_copy_71 : decode cX7_copy 71 = .ok (.ireturn, 1) := by decide +kernel
theorem dX7_copy_72 : decode cX7_copy 72 = .ok (.aload_n 0, 1) := by decide +kernel
theorem dX7_copy_73 : decode cX7_copy 73 = .ok (.getfield 10, 3) := by decide +kernel
theorem dX7_copy_76 : decode cX7_copy 76 = .ok (.iload_n 1, 1) := by decide +kernel
theorem dX7_copy_77 : decode cX7_copy 77 = .ok (.iload_n 2, 1) := by decide +kernel
theorem dX7_copy_78 : decode cX7_copy 78 = .ok (.iload 5, 2) := by decide +kernel
theorem dX7_copy_80 : decode cX7_copy 80 = .ok (.invokevirtual 86, 3) := by decide +kernel
theorem dX7_copy_83 : decode cX7_copy 83 = .ok (.ifCond .eq 18, 3) := by decide +kernel
theorem dX7_copy_86 : decode cX7_copy 86 = .ok (.aload_n 0, 1) := by decide +kernel
theorem dX7_copy_87 : decode cX7_copy 87 = .ok (.getfield 10, 3) := by decide +kernel
theorem dX7_copy_90 : decode cX7_copy 90 = .ok (.iload_n 3, 1) := by decide +kernel
theorem dX7_copy_91 : decode cX7_copy 91 = .ok (.iload 4, 2) := by decide +kernel
theorem dX7_copy_93 : decode cX7_copy 93 = .ok (.iload 5, 2) := by decide +kernel
theorem dX7_copy_95 : decode cX7_copy 95 = .ok (.invokevirtual 86, 3) := by decide +kernel
theorem dX7_copy_98 : decode cX7_copy 98 = .ok (.ifCond .ne 9, 3) := by decide +kernel
theorem dX7_copy_101 : decode cX7_copy 101 = .ok (.aload_n 0, 1) := by decide +kernel
theorem dX7_copy_102 : decode cX7_copy 102 = .ok (.iconst 2, 1) := by decide +kernel
theorem dX7_copy_103 : decode cX7_copy 103 = .ok (.invokevirtual 72, 3) := by decide +kernel
theorem dX7_copy_106 : decode cX7_copy 106 = .ok (.ireturn, 1) := by decide +kernel
theorem dX7_copy_107 : decode cX7_copy 107 = .ok (.aload_n 0, 1) := by decide +kernel
theorem dX7_copy_108 : decode cX7_copy 108 = .ok (.getfield 10, 3) := by decide +kernel
theorem dX7_copy_111 : decode cX7_copy 111 = .ok (.getfield 97, 3) := by decide +kernel
theorem dX7_copy_114 : decode cX7_copy 114 = .ok (.iload_n 1, 1) := by decide +kernel
theorem dX7_copy_115 : decode cX7_copy 115 = .ok (.aaload, 1) := by decide +kernel
theorem dX7_copy_116 : decode cX7_copy 116 = .ok (.iload_n 2, 1) := by decide +kernel
theorem dX7_copy_117 : decode cX7_copy 117 = .ok (.aload_n 0, 1) := by decide +kernel
theorem dX7_copy_118 : decode cX7_copy 118 = .ok (.getfield 10, 3) := by decide +kernel
theorem dX7_copy_121 : decode cX7_copy 121 = .ok (.getfield 97, 3) := by decide +kernel
theorem dX7_copy_124 : decode cX7_copy 124 = .ok (.iload_n 3, 1) := by decide +kernel
theorem dX7_copy_125 : decode cX7_copy 125 = .ok (.aaload, 1) := by decide +kernel
theorem dX7_copy_126 : decode cX7_copy 126 = .ok (.iload 4, 2) := by decide +kernel
theorem dX7_copy_128 : decode cX7_copy 128 = .ok (.iload 5, 2) := by decide +kernel
theorem dX7_copy_130 : decode cX7_copy 130 = .ok (.invokestatic 100, 3) := by decide +kernel
theorem dX7_copy_133 : decode cX7_copy 133 = .ok (.aload_n 0, 1) := by decide +kernel
theorem dX7_copy_134 : decode cX7_copy 134 = .ok (.iload 5, 2) := by decide +kernel
theorem dX7_copy_136 : decode cX7_copy 136 = .ok (.invokevirtual 80, 3) := by decide +kernel
theorem dX7_copy_139 : decode cX7_copy 139 = .ok (.ireturn, 1) := by decide +kernel
theorem dX7_drop_0 : decode cX7_drop 0 = .ok (.iload_n 1, 1) := by decide +kernel
theorem dX7_drop_1 : decode cX7_drop 1 = .ok (.invokestatic 63, 3) := by decide +kernel
theorem dX7_drop_4 : decode cX7_drop 4 = .ok (.ifCond .ne 6, 3) := by decide +kernel
theorem dX7_drop_7 : decode cX7_drop 7 = .ok (.ldc 71, 2) := by decide +kernel
theorem dX7_drop_9 : decode cX7_drop 9 = .ok (.ireturn, 1) := by decide +kernel
theorem dX7_drop_10 : decode cX7_drop 10 = .ok (.aload_n 0, 1) := by decide +kernel
theorem dX7_drop_11 : decode cX7_drop 11 = .ok (.getfield 10, 3) := by decide +kernel
theorem dX7_drop_14 : decode cX7_drop 14 = .ok (.iload_n 1, 1) := by decide +kernel
theorem dX7_drop_15 : decode cX7_drop 15 = .ok (.invokevirtual 83, 3) := by decide +kernel
theorem dX7_drop_18 : decode cX7_drop 18 = .ok (.ifCond .eq 9, 3) := by decide +kernel
theorem dX7_drop_21 : decode cX7_drop 21 = .ok (.aload_n 0, 1) := by decide +kernel
theorem dX7_drop_22 : decode cX7_drop 22 = .ok (.iconst 1, 1) := by decide +kernel
theorem dX7_drop_23 : decode cX7_drop 23 = .ok (.invokevirtual 72, 3) := by decide +kernel
theorem dX7_drop_26 : decode cX7_drop 26 = .ok (.ireturn, 1) := by decide +kernel
theorem dX7_drop_27 : decode cX7_drop 27 = .ok (.aload_n 0, 1) := by decide +kernel
theorem dX7_drop_28 : decode cX7_drop 28 = .ok (.aload_n 0, 1) := by decide +kernel
theorem dX7_drop_29 : decode cX7_drop 29 = .ok (.getfield 10, 3) := by decide +kernel
theorem dX7_drop_32 : decode cX7_drop 32 = .ok (.iload_n 1, 1) := by decide +kernel
theorem dX7_drop_33 : decode cX7_drop 33 = .ok (.invokevirtual 106, 3) := by decide +kernel
theorem dX7_drop_36 : decode cX7_drop 36 = .ok (.invokevirtual 80, 3) := by decide +kernel
theorem dX7_drop_39 : decode cX7_drop 39 = .ok (.ireturn, 1) := by decide +kernel
theorem dX7_feed_0 : decode cX7_feed 0 = .ok (.iload_n 1, 1) := by decide +kernel
theorem dX7_feed_1 : decode cX7_feed 1 = .ok (.iconst 0, 1) := by decide +kernel
theorem dX7_feed_2 : decode cX7_feed 2 = .ok (.sipush 255, 3) := by decide +kernel
theorem dX7_feed_5 : decode cX7_feed 5 = .ok (.invokestatic 67, 3) := by decide +kernel
theorem dX7_feed_8 : decode cX7_feed 8 = .ok (.ifCond .ne 6, 3) := by decide +kernel
theorem dX7_feed_11 : decode cX7_feed 11 = .ok (.ldc 71, 2) := by decide +kernel
theorem dX7_feed_13 : decode cX7_feed 13 = .ok (.ireturn, 1) := by decide +kernel
theorem dX7_feed_14 : decode cX7_feed 14 = .ok (.aload_n 0, 1) := by decide +kernel
theorem dX7_feed_15 : decode cX7_feed 15 = .ok (.getfield 19, 3) := by decide +kernel
theorem dX7_feed_18 : decode cX7_feed 18 = .ok (.iload_n 1, 1) := by decide +kernel
theorem dX7_feed_19 : decode cX7_feed 19 = .ok (.invokevirtual 109, 3) := by decide +kernel
theorem dX7_feed_22 : decode cX7_feed 22 = .ok (.ifCond .eq 13, 3) := by decide +kernel
theorem dX7_feed_25 : decode cX7_feed 25 = .ok (.aload_n 0, 1) := by decide +kernel
theorem dX7_feed_26 : decode cX7_feed 26 = .ok (.getfield 19, 3) := by decide +kernel
theorem dX7_feed_29 : decode cX7_feed 29 = .ok (.getfield 112, 3) := by decide +kernel
theorem dX7_feed_32 : decode cX7_feed 32 = .ok (.goto 5, 3) := by decide +kernel
theorem dX7_feed_35 : decode cX7_feed 35 = .ok (.ldc 115, 2) := by decide +kernel
theorem dX7_feed_37 : decode cX7_feed 37 = .ok (.ireturn, 1) := by decide +kernel
theorem dX7_house_0 : decode cX7_house 0 = .ok (.aload_n 0, 1) := by decide +kernel
theorem dX7_house_1 : decode cX7_house 1 = .ok (.getfield 19, 3) := by decide +kernel
theorem dX7_house_4 : decode cX7_house 4 = .ok (.aload_n 0, 1) := by decide +kernel
theorem dX7_house_5 : decode cX7_house 5 = .ok (.getfield 30, 3) := by decide +kernel
theorem dX7_house_8 : decode cX7_house 8 = .ok (.invokevirtual 116, 3) := by decide +kernel
theorem dX7_house_11 : decode cX7_house 11 = .ok (.istore_n 1, 1) := by decide +kernel
theorem dX7_house_12 : decode cX7_house 12 = .ok (.aload_n 0, 1) := by decide +kernel
theorem dX7_house_13 : decode cX7_house 13 = .ok (.getfield 19, 3) := by decide +kernel
theorem dX7_house_16 : decode cX7_house 16 = .ok (.iconst 0, 1) := by decide +kernel
theorem dX7_house_17 : decode cX7_house 17 = .ok (.putfield 112, 3) := by decide +kernel
theorem dX7_house_20 : decode cX7_house 20 = .ok (.iload_n 1, 1) := by decide +kernel
theorem dX7_house_21 : decode cX7_house 21 = .ok (.ifCond .ne 14, 3) := by decide +kernel
theorem dX7_house_24 : decode cX7_house 24 = .ok (.ldc 120, 2) := by decide +kernel
theorem dX7_house_26 : decode cX7_house 26 = .ok (.aload_n 0, 1) := by decide +kernel
theorem dX7_house_27 : decode cX7_house 27 = .ok (.getfield 19, 3) := by decide +kernel
theorem dX7_house_30 : decode cX7_house 30 = .ok (.getfield 121, 3) := by decide +kernel
theorem dX7_house_33 : decode cX7_house 33 = .ok (.isub, 1) := by decide +kernel
theorem dX7_house_34 : decode cX7_house 34 = .ok (.ireturn, 1) := by decide +kernel
theorem dX7_house_35 : decode cX7_house 35 = .ok (.aload_n 0, 1) := by decide +kernel
theorem dX7_house_36 : decode cX7_house 36 = .ok (.getfield 26, 3) := by decide +kernel
theorem dX7_house_39 : decode cX7_house 39 = .ok (.aload_n 0, 1) := by decide +kernel
theorem dX7_house_40 : decode cX7_house 40 = .ok (.getfield 30, 3) := by decide +kernel
theorem dX7_house_43 : decode cX7_house 43 = .ok (.getfield 124, 3) := by decide +kernel
theorem dX7_house_46 : decode cX7_house 46 = .ok (.invokevirtual 127, 3) := by decide +kernel
theorem dX7_house_49 : decode cX7_house 49 = .ok (.aload_n 0, 1) := by decide +kernel
theorem dX7_house_50 : decode cX7_house 50 = .ok (.getfield 36, 3) := by decide +kernel
theorem dX7_house_53 : decode cX7_house 53 = .ok (.invokevirtual 131, 3) := by decide +kernel
theorem dX7_house_56 : decode cX7_house 56 = .ok (.aload_n 0, 1) := by decide +kernel
theorem dX7_house_57 : decode cX7_house 57 = .ok (.getfield 26, 3) := by decide +kernel
theorem dX7_house_60 : decode cX7_house 60 = .ok (.getfield 124, 3) := by decide +kernel
theorem dX7_house_63 : decode cX7_house 63 = .ok (.iconst 2, 1) := by decide +kernel
theorem dX7_house_64 : decode cX7_house 64 = .ok (.iaload, 1) := by decide +kernel
theorem dX7_house_65 : decode cX7_house 65 = .ok (.ireturn, 1) := by decide +kernel
theorem dX7_fault_0 : decode cX7_fault 0 = .ok (.aload_n 0, 1) := by decide +kernel
theorem dX7_fault_1 : decode cX7_fault 1 = .ok (.getfield 19, 3) := by decide +kernel
theorem dX7_fault_4 : decode cX7_fault 4 = .ok (.getfield 134, 3) := by decide +kernel
theorem dX7_fault_7 : decode cX7_fault 7 = .ok (.ireturn, 1) := by decide +kernel
theorem dX7_undo_0 : decode cX7_undo 0 = .ok (.aload_n 0, 1) := by decide +kernel
theorem dX7_undo_1 : decode cX7_undo 1 = .ok (.getfield 36, 3) := by decide +kernel
theorem dX7_undo_4 : decode cX7_undo 4 = .ok (.getfield 137, 3) := by decide +kernel
theorem dX7_undo_7 : decode cX7_undo 7 = .ok (.ifCond .ne 6, 3) := by decide +kernel
theorem dX7_undo_10 : decode cX7_undo 10 = .ok (.ldc 140, 2) := by decide +kernel
theorem dX7_undo_12 : decode cX7_undo 12 = .ok (.ireturn, 1) := by decide +kernel
theorem dX7_undo_13 : decode cX7_undo 13 = .ok (.aload_n 0, 1) := by decide +kernel
theorem dX7_undo_14 : decode cX7_undo 14 = .ok (.getfield 26, 3) := by decide +kernel
theorem dX7_undo_17 : decode cX7_undo 17 = .ok (.aload_n 0, 1) := by decide +kernel
theorem dX7_undo_18 : decode cX7_undo 18 = .ok (.getfield 36, 3) := by decide +kernel
theorem dX7_undo_21 : decode cX7_undo 21 = .ok (.invokevirtual 141, 3) := by decide +kernel
theorem dX7_undo_24 : decode cX7_undo 24 = .ok (.invokevirtual 127, 3) := by decide +kernel
theorem dX7_undo_27 : decode cX7_undo 27 = .ok (.aload_n 0, 1) := by decide +kernel
theorem dX7_undo_28 : decode cX7_undo 28 = .ok (.getfield 36, 3) := by decide +kernel
theorem dX7_undo_31 : decode cX7_undo 31 = .ok (.getfield 137, 3) := by decide +kernel
theorem dX7_undo_34 : decode cX7_undo 34 = .ok (.ireturn, 1) := by decide +kernel
theorem dX7_breathe_0 : decode cX7_breathe 0 = .ok (.aload_n 0, 1) := by decide +kernel
theorem dX7_breathe_1 : decode cX7_breathe 1 = .ok (.getfield 26, 3) := by decide +kernel
theorem dX7_breathe_4 : decode cX7_breathe 4 = .ok (.invokevirtual 145, 3) := by decide +kernel
theorem dX7_breathe_7 : decode cX7_breathe 7 = .ok (.ifCond .ne 6, 3) := by decide +kernel
theorem dX7_breathe_10 : decode cX7_breathe 10 = .ok (.ldc 140, 2) := by decide +kernel
theorem dX7_breathe_12 : decode cX7_breathe 12 = .ok (.ireturn, 1) := by decide +kernel
theorem dX7_breathe_13 : decode cX7_breathe 13 = .ok (.iload_n 1, 1) := by decide +kernel
theorem dX7_breathe_14 : decode cX7_breathe 14 = .ok (.iconst 1, 1) := by decide +kernel
theorem dX7_breathe_15 : decode cX7_breathe 15 = .ok (.bipush 24, 2) := by decide +kernel
theorem dX7_breathe_17 : decode cX7_breathe 17 = .ok (.invokestatic 67, 3) := by decide +kernel
theorem dX7_breathe_20 : decode cX7_breathe 20 = .ok (.ifCond .ne 6, 3) := by decide +kernel
theorem dX7_breathe_23 : decode cX7_breathe 23 = .ok (.ldc 71, 2) := by decide +kernel
theorem dX7_breathe_25 : decode cX7_breathe 25 = .ok (.ireturn, 1) := by decide +kernel
theorem dX7_breathe_26 : decode cX7_breathe 26 = .ok (.aload_n 0, 1) := by decide +kernel
theorem dX7_breathe_27 : decode cX7_breathe 27 = .ok (.getfield 26, 3) := by decide +kernel
theorem dX7_breathe_30 : decode cX7_breathe 30 = .ok (.getfield 124, 3) := by decide +kernel
theorem dX7_breathe_33 : decode cX7_breathe 33 = .ok (.iconst 4, 1) := by decide +kernel
theorem dX7_breathe_34 : decode cX7_breathe 34 = .ok (.iaload, 1) := by decide +kernel
theorem dX7_breathe_35 : decode cX7_breathe 35 = .ok (.iload_n 1, 1) := by decide +kernel
theorem dX7_breathe_36 : decode cX7_breathe 36 = .ok (.iadd, 1) := by decide +kernel
theorem dX7_breathe_37 : decode cX7_breathe 37 = .ok (.sipush 999, 3) := by decide +kernel
theorem dX7_breathe_40 : decode cX7_breathe 40 = .ok (.if_icmp .le 6, 3) := by decide +kernel
theorem dX7_breathe_43 : decode cX7_breathe 43 = .ok (.ldc 115, 2) := by decide +kernel
theorem dX7_breathe_45 : decode cX7_breathe 45 = .ok (.ireturn, 1) := by decide +kernel
theorem dX7_breathe_46 : decode cX7_breathe 46 = .ok (.iconst 0, 1) := by decide +kernel
theorem dX7_breathe_47 : decode cX7_breathe 47 = .ok (.istore_n 2, 1) := by decide +kernel
theorem dX7_breathe_48 : decode cX7_breathe 48 = .ok (.iconst 0, 1) := by decide +kernel
theorem dX7_breathe_49 : decode cX7_breathe 49 = .ok (.istore_n 3, 1) := by decide +kernel
theorem dX7_breathe_50 : decode cX7_breathe 50 = .ok (.iload_n 3, 1) := by decide +kernel
theorem dX7_breathe_51 : decode cX7_breathe 51 = .ok (.iload_n 1, 1) := by decide +kernel
theorem dX7_breathe_52 : decode cX7_breathe 52 = .ok (.if_icmp .ge 31, 3) := by decide +kernel
theorem dX7_breathe_55 : decode cX7_breathe 55 = .ok (.aload_n 0, 1) := by decide +kernel
theorem dX7_breathe_56 : decode cX7_breathe 56 = .ok (.getfield 36, 3) := by decide +kernel
theorem dX7_breathe_59 : decode cX7_breathe 59 = .ok (.aload_n 0, 1) := by decide +kernel
theorem dX7_breathe_60 : decode cX7_breathe 60 = .ok (.getfield 26, 3) := by decide +kernel
theorem dX7_breathe_63 : decode cX7_breathe 63 = .ok (.getfield 124, 3) := by decide +kernel
theorem dX7_breathe_66 : decode cX7_breathe 66 = .ok (.invokevirtual 149, 3) := by decide +kernel
theorem dX7_breathe_69 : decode cX7_breathe 69 = .ok (.aload_n 0, 1) := by decide +kernel
theorem dX7_breathe_70 : decode cX7_breathe 70 = .ok (.getfield 26, 3) := by decide +kernel
theorem dX7_breathe_73 : decode cX7_breathe 73 = .ok (.invokevirtual 152, 3) := by decide +kernel
theorem dX7_breathe_76 : decode cX7_breathe 76 = .ok (.istore_n 2, 1) := by decide +kernel
theorem dX7_breathe_77 : decode cX7_breathe 77 = .ok (.iinc 3 1, 3) := by decide +kernel
theorem dX7_breathe_80 : decode cX7_breathe 80 = .ok (.goto (-30), 3) := by decide +kernel
theorem dX7_breathe_83 : decode cX7_breathe 83 = .ok (.iload_n 2, 1) := by decide +kernel
theorem dX7_breathe_84 : decode cX7_breathe 84 = .ok (.ireturn, 1) := by decide +kernel
theorem dX7_speak_0 : decode cX7_speak 0 = .ok (.aload_n 0, 1) := by decide +kernel
theorem dX7_speak_1 : decode cX7_speak 1 = .ok (.getfield 26, 3) := by decide +kernel
theorem dX7_speak_4 : decode cX7_speak 4 = .ok (.iload_n 1, 1) := by decide +kernel
theorem dX7_speak_5 : decode cX7_speak 5 = .ok (.invokevirtual 156, 3) := by decide +kernel
theorem dX7_speak_8 : decode cX7_speak 8 = .ok (.ifCond .eq 23, 3) := by decide +kernel
theorem dX7_speak_11 : decode cX7_speak 11 = .ok (.iload_n 2, 1) := by decide +kernel
theorem dX7_speak_12 : decode cX7_speak 12 = .ok (.iconst 0, 1) := by decide +kernel
theorem dX7_speak_13 : decode cX7_speak 13 = .ok (.bipush 9, 2) := by decide +kernel
theorem dX7_speak_15 : decode cX7_speak 15 = .ok (.invokestatic 67, 3) := by decide +kernel
theorem dX7_speak_18 : decode cX7_speak 18 = .ok (.ifCond .eq 13, 3) := by decide +kernel
theorem dX7_speak_21 : decode cX7_speak 21 = .ok (.iload_n 3, 1) := by decide +kernel
theorem dX7_speak_22 : decode cX7_speak 22 = .ok (.iconst 1, 1) := by decide +kernel
theorem dX7_speak_23 : decode cX7_speak 23 = .ok (.bipush 99, 2) := by decide +kernel
theorem dX7_speak_25 : decode cX7_speak 25 = .ok (.invokestatic 67, 3) := by decide +kernel
theorem dX7_speak_28 : decode cX7_speak 28 = .ok (.ifCond .ne 6, 3) := by decide +kernel
theorem dX7_speak_31 : decode cX7_speak 31 = .ok (.ldc 71, 2) := by decide +kernel
theorem dX7_speak_33 : decode cX7_speak 33 = .ok (.ireturn, 1) := by decide +kernel
theorem dX7_speak_34 : decode cX7_speak 34 = .ok (.aload_n 0, 1) := by decide +kernel
theorem dX7_speak_35 : decode cX7_speak 35 = .ok (.getfield 36, 3) := by decide +kernel
theorem dX7_speak_38 : decode cX7_speak 38 = .ok (.aload_n 0, 1) := by decide +kernel
theorem dX7_speak_39 : decode cX7_speak 39 = .ok (.getfield 26, 3) := by decide +kernel
theorem dX7_speak_42 : decode cX7_speak 42 = .ok (.getfield 124, 3) := by decide +kernel
theorem dX7_speak_45 : decode cX7_speak 45 = .ok (.invokevirtual 149, 3) := by decide +kernel
theorem dX7_speak_48 : decode cX7_speak 48 = .ok (.aload_n 0, 1) := by decide +kernel
theorem dX7_speak_49 : decode cX7_speak 49 = .ok (.getfield 26, 3) := by decide +kernel
theorem dX7_speak_52 : decode cX7_speak 52 = .ok (.iload_n 1, 1) := by decide +kernel
theorem dX7_speak_53 : decode cX7_speak 53 = .ok (.iload_n 2, 1) := by decide +kernel
theorem dX7_speak_54 : decode cX7_speak 54 = .ok (.iload_n 3, 1) := by decide +kernel
theorem dX7_speak_55 : decode cX7_speak 55 = .ok (.invokevirtual 159, 3) := by decide +kernel
theorem dX7_speak_58 : decode cX7_speak 58 = .ok (.ireturn, 1) := by decide +kernel
theorem dX7_tap_0 : decode cX7_tap 0 = .ok (.aload_n 0, 1) := by decide +kernel
theorem dX7_tap_1 : decode cX7_tap 1 = .ok (.getfield 26, 3) := by decide +kernel
theorem dX7_tap_4 : decode cX7_tap 4 = .ok (.iload_n 1, 1) := by decide +kernel
theorem dX7_tap_5 : decode cX7_tap 5 = .ok (.invokevirtual 162, 3) := by decide +kernel
theorem dX7_tap_8 : decode cX7_tap 8 = .ok (.ifCond .eq 12, 3) := by decide +kernel
theorem dX7_tap_11 : decode cX7_tap 11 = .ok (.iload_n 2, 1) := by decide +kernel
theorem dX7_tap_12 : decode cX7_tap 12 = .ok (.iconst 0, 1) := by decide +kernel
theorem dX7_tap_13 : decode cX7_tap 13 = .ok (.iconst 1, 1) := by decide +kernel
theorem dX7_tap_14 : decode cX7_tap 14 = .ok (.invokestatic 67, 3) := by decide +kernel
theorem dX7_tap_17 : decode cX7_tap 17 = .ok (.ifCond .ne 6, 3) := by decide +kernel
theorem dX7_tap_20 : decode cX7_tap 20 = .ok (.ldc 71, 2) := by decide +kernel
theorem dX7_tap_22 : decode cX7_tap 22 = .ok (.ireturn, 1) := by decide +kernel
theorem dX7_tap_23 : decode cX7_tap 23 = .ok (.aload_n 0, 1) := by decide +kernel
theorem dX7_tap_24 : decode cX7_tap 24 = .ok (.getfield 26, 3) := by decide +kernel
theorem dX7_tap_27 : decode cX7_tap 27 = .ok (.iload_n 1, 1) := by decide +kernel
theorem dX7_tap_28 : decode cX7_tap 28 = .ok (.invokevirtual 165, 3) := by decide +kernel
theorem dX7_tap_31 : decode cX7_tap 31 = .ok (.iload_n 2, 1) := by decide +kernel
theorem dX7_tap_32 : decode cX7_tap 32 = .ok (.iconst 1, 1) := by decide +kernel
theorem dX7_tap_33 : decode cX7_tap 33 = .ok (.if_icmp .ne 7, 3) := by decide +kernel
theorem dX7_tap_36 : decode cX7_tap 36 = .ok (.iconst 1, 1) := by decide +kernel
theorem dX7_tap_37 : decode cX7_tap 37 = .ok (.goto 4, 3) := by decide +kernel
theorem dX7_tap_40 : decode cX7_tap 40 = .ok (.iconst 0, 1) := by decide +kernel
theorem dX7_tap_41 : decode cX7_tap 41 = .ok (.if_icmp .ne 6, 3) := by decide +kernel
theorem dX7_tap_44 : decode cX7_tap 44 = .ok (.ldc 140, 2) := by decide +kernel
theorem dX7_tap_46 : decode cX7_tap 46 = .ok (.ireturn, 1) := by decide +kernel
theorem dX7_tap_47 : decode cX7_tap 47 = .ok (.aload_n 0, 1) := by decide +kernel
theorem dX7_tap_48 : decode cX7_tap 48 = .ok (.getfield 36, 3) := by decide +kernel
theorem dX7_tap_51 : decode cX7_tap 51 = .ok (.aload_n 0, 1) := by decide +kernel
theorem dX7_tap_52 : decode cX7_tap 52 = .ok (.getfield 26, 3) := by decide +kernel
theorem dX7_tap_55 : decode cX7_tap 55 = .ok (.getfield 124, 3) := by decide +kernel
theorem dX7_tap_58 : decode cX7_tap 58 = .ok (.invokevirtual 149, 3) := by decide +kernel
theorem dX7_tap_61 : decode cX7_tap 61 = .ok (.aload_n 0, 1) := by decide +kernel
theorem dX7_tap_62 : decode cX7_tap 62 = .ok (.getfield 26, 3) := by decide +kernel
theorem dX7_tap_65 : decode cX7_tap 65 = .ok (.getfield 124, 3) := by decide +kernel
theorem dX7_tap_68 : decode cX7_tap 68 = .ok (.iconst 3, 1) := by decide +kernel
theorem dX7_tap_69 : decode cX7_tap 69 = .ok (.dup2, 1) := by decide +kernel
theorem dX7_tap_70 : decode cX7_tap 70 = .ok (.iaload, 1) := by decide +kernel
theorem dX7_tap_71 : decode cX7_tap 71 = .ok (.iconst 1, 1) := by decide +kernel
theorem dX7_tap_72 : decode cX7_tap 72 = .ok (.iload_n 1, 1) := by decide +kernel
theorem dX7_tap_73 : decode cX7_tap 73 = .ok (.ishl, 1) := by decide +kernel
theorem dX7_tap_74 : decode cX7_tap 74 = .ok (.ixor, 1) := by decide +kernel
theorem dX7_tap_75 : decode cX7_tap 75 = .ok (.iastore, 1) := by decide +kernel
theorem dX7_tap_76 : decode cX7_tap 76 = .ok (.aload_n 0, 1) := by decide +kernel
theorem dX7_tap_77 : decode cX7_tap 77 = .ok (.getfield 26, 3) := by decide +kernel
theorem dX7_tap_80 : decode cX7_tap 80 = .ok (.getfield 124, 3) := by decide +kernel
theorem dX7_tap_83 : decode cX7_tap 83 = .ok (.iconst 3, 1) := by decide +kernel
theorem dX7_tap_84 : decode cX7_tap 84 = .ok (.iaload, 1) := by decide +kernel
theorem dX7_tap_85 : decode cX7_tap 85 = .ok (.ireturn, 1) := by decide +kernel
theorem dX7_dent_0 : decode cX7_dent 0 = .ok (.aload_n 0, 1) := by decide +kernel
theorem dX7_dent_1 : decode cX7_dent 1 = .ok (.getfield 26, 3) := by decide +kernel
theorem dX7_dent_4 : decode cX7_dent 4 = .ok (.iload_n 1, 1) := by decide +kernel
theorem dX7_dent_5 : decode cX7_dent 5 = .ok (.invokevirtual 162, 3) := by decide +kernel
theorem dX7_dent_8 : decode cX7_dent 8 = .ok (.ifCond .eq 13, 3) := by decide +kernel
theorem dX7_dent_11 : decode cX7_dent 11 = .ok (.iload_n 2, 1) := by decide +kernel
theorem dX7_dent_12 : decode cX7_dent 12 = .ok (.iconst 0, 1) := by decide +kernel
theorem dX7_dent_13 : decode cX7_dent 13 = .ok (.bipush 9, 2) := by decide +kernel
theorem dX7_dent_15 : decode cX7_dent 15 = .ok (.invokestatic 67, 3) := by decide +kernel
theorem dX7_dent_18 : decode cX7_dent 18 = .ok (.ifCond .ne 6, 3) := by decide +kernel
theorem dX7_dent_21 : decode cX7_dent 21 = .ok (.ldc 71, 2) := by decide +kernel
theorem dX7_dent_23 : decode cX7_dent 23 = .ok (.ireturn, 1) := by decide +kernel
theorem dX7_dent_24 : decode cX7_dent 24 = .ok (.aload_n 0, 1) := by decide +kernel
theorem dX7_dent_25 : decode cX7_dent 25 = .ok (.getfield 36, 3) := by decide +kernel
theorem dX7_dent_28 : decode cX7_dent 28 = .ok (.aload_n 0, 1) := by decide +kernel
theorem dX7_dent_29 : decode cX7_dent 29 = .ok (.getfield 26, 3) := by decide +kernel
theorem dX7_dent_32 : decode cX7_dent 32 = .ok (.getfield 124, 3) := by decide +kernel
theorem dX7_dent_35 : decode cX7_dent 35 = .ok (.invokevirtual 149, 3) := by decide +kernel
theorem dX7_dent_38 : decode cX7_dent 38 = .ok (.aload_n 0, 1) := by decide +kernel
theorem dX7_dent_39 : decode cX7_dent 39 = .ok (.getfield 26, 3) := by decide +kernel
theorem dX7_dent_42 : decode cX7_dent 42 = .ok (.getfield 124, 3) := by decide +kernel
theorem dX7_dent_45 : decode cX7_dent 45 = .ok (.bipush 33, 2) := by decide +kernel
theorem dX7_dent_47 : decode cX7_dent 47 = .ok (.iload_n 1, 1) := by decide +kernel
theorem dX7_dent_48 : decode cX7_dent 48 = .ok (.iadd, 1) := by decide +kernel
theorem dX7_dent_49 : decode cX7_dent 49 = .ok (.iaload, 1) := by decide +kernel
theorem dX7_dent_50 : decode cX7_dent 50 = .ok (.istore_n 3, 1) := by decide +kernel
theorem dX7_dent_51 : decode cX7_dent 51 = .ok (.aload_n 0, 1) := by decide +kernel
theorem dX7_dent_52 : decode cX7_dent 52 = .ok (.getfield 26, 3) := by decide +kernel
theorem dX7_dent_55 : decode cX7_dent 55 = .ok (.getfield 124, 3) := by decide +kernel
theorem dX7_dent_58 : decode cX7_dent 58 = .ok (.bipush 33, 2) := by decide +kernel
theorem dX7_dent_60 : decode cX7_dent 60 = .ok (.iload_n 1, 1) := by decide +kernel
theorem dX7_dent_61 : decode cX7_dent 61 = .ok (.iadd, 1) := by decide +kernel
theorem dX7_dent_62 : decode cX7_dent 62 = .ok (.iload_n 2, 1) := by decide +kernel
theorem dX7_dent_63 : decode cX7_dent 63 = .ok (.iastore, 1) := by decide +kernel
theorem dX7_dent_64 : decode cX7_dent 64 = .ok (.iload_n 3, 1) := by decide +kernel
theorem dX7_dent_65 : decode cX7_dent 65 = .ok (.ireturn, 1) := by decide +kernel
theorem dX7_hush_0 : decode cX7_hush 0 = .ok (.aload_n 0, 1) := by decide +kernel
theorem dX7_hush_1 : decode cX7_hush 1 = .ok (.getfield 26, 3) := by decide +kernel
theorem dX7_hush_4 : decode cX7_hush 4 = .ok (.invokevirtual 145, 3) := by decide +kernel
theorem dX7_hush_7 : decode cX7_hush 7 = .ok (.ifCond .ne 6, 3) := by decide +kernel
theorem dX7_hush_10 : decode cX7_hush 10 = .ok (.ldc 140, 2) := by decide +kernel
theorem dX7_hush_12 : decode cX7_hush 12 = .ok (.ireturn, 1) := by decide +kernel
theorem dX7_hush_13 : decode cX7_hush 13 = .ok (.aload_n 0, 1) := by decide +kernel
theorem dX7_hush_14 : decode cX7_hush 14 = .ok (.getfield 36, 3) := by decide +kernel
theorem dX7_hush_17 : decode cX7_hush 17 = .ok (.aload_n 0, 1) := by decide +kernel
theorem dX7_hush_18 : decode cX7_hush 18 = .ok (.getfield 26, 3) := by decide +kernel
theorem dX7_hush_21 : decode cX7_hush 21 = .ok (.getfield 124, 3) := by decide +kernel
theorem dX7_hush_24 : decode cX7_hush 24 = .ok (.invokevirtual 149, 3) := by decide +kernel
theorem dX7_hush_27 : decode cX7_hush 27 = .ok (.aload_n 0, 1) := by decide +kernel
theorem dX7_hush_28 : decode cX7_hush 28 = .ok (.getfield 26, 3) := by decide +kernel
theorem dX7_hush_31 : decode cX7_hush 31 = .ok (.invokevirtual 168, 3) := by decide +kernel
theorem dX7_hush_34 : decode cX7_hush 34 = .ok (.istore_n 1, 1) := by decide +kernel
theorem dX7_hush_35 : decode cX7_hush 35 = .ok (.aload_n 0, 1) := by decide +kernel
theorem dX7_hush_36 : decode cX7_hush 36 = .ok (.getfield 26, 3) := by decide +kernel
theorem dX7_hush_39 : decode cX7_hush 39 = .ok (.invokevirtual 171, 3) := by decide +kernel
theorem dX7_hush_42 : decode cX7_hush 42 = .ok (.iload_n 1, 1) := by decide +kernel
theorem dX7_hush_43 : decode cX7_hush 43 = .ok (.ireturn, 1) := by decide +kernel
theorem dX7_pipe_0 : decode cX7_pipe 0 = .ok (.aload_n 0, 1) := by decide +kernel
theorem dX7_pipe_1 : decode cX7_pipe 1 = .ok (.getfield 26, 3) := by decide +kernel
theorem dX7_pipe_4 : decode cX7_pipe 4 = .ok (.iload_n 1, 1) := by decide +kernel
theorem dX7_pipe_5 : decode cX7_pipe 5 = .ok (.invokevirtual 162, 3) := by decide +kernel
theorem dX7_pipe_8 : decode cX7_pipe 8 = .ok (.ifCond .ne 6, 3) := by decide +kernel
theorem dX7_pipe_11 : decode cX7_pipe 11 = .ok (.ldc 71, 2) := by decide +kernel
theorem dX7_pipe_13 : decode cX7_pipe 13 = .ok (.ireturn, 1) := by decide +kernel
theorem dX7_pipe_14 : decode cX7_pipe 14 = .ok (.iload_n 2, 1) := by decide +kernel
theorem dX7_pipe_15 : decode cX7_pipe 15 = .ok (.tableswitch 115 0 5 #[37, 50, 63, 76, 89, 106], 37) := by decide +kernel
theorem dX7_pipe_52 : decode cX7_pipe 52 = .ok (.aload_n 0, 1) := by decide +kernel
theorem dX7_pipe_53 : decode cX7_pipe 53 = .ok (.getfield 26, 3) := by decide +kernel
theorem dX7_pipe_56 : decode cX7_pipe 56 = .ok (.getfield 124, 3) := by decide +kernel
theorem dX7_pipe_59 : decode cX7_pipe 59 = .ok (.bipush 12, 2) := by decide +kernel
theorem dX7_pipe_61 : decode cX7_pipe 61 = .ok (.iload_n 1, 1) := by decide +kernel
theorem dX7_pipe_62 : decode cX7_pipe 62 = .ok (.iadd, 1) := by decide +kernel
theorem dX7_pipe_63 : decode cX7_pipe 63 = .ok (.iaload, 1) := by decide +kernel
theorem dX7_pipe_64 : decode cX7_pipe 64 = .ok (.ireturn, 1) := by decide +kernel
theorem dX7_pipe_65 : decode cX7_pipe 65 = .ok (.aload_n 0, 1) := by decide +kernel
theorem dX7_pipe_66 : decode cX7_pipe 66 = .ok (.getfield 26, 3) := by decide +kernel
theorem dX7_pipe_69 : decode cX7_pipe 69 = .ok (.getfield 124, 3) := by decide +kernel
theorem dX7_pipe_72 : decode cX7_pipe 72 = .ok (.bipush 19, 2) := by decide +kernel
theorem dX7_pipe_74 : decode cX7_pipe 74 = .ok (.iload_n 1, 1) := by decide +kernel
theorem dX7_pipe_75 : decode cX7_pipe 75 = .ok (.iadd, 1) := by decide +kernel
theorem dX7_pipe_76 : decode cX7_pipe 76 = .ok (.iaload, 1) := by decide +kernel
theorem dX7_pipe_77 : decode cX7_pipe 77 = .ok (.ireturn, 1) := by decide +kernel
theorem dX7_pipe_78 : decode cX7_pipe 78 = .ok (.aload_n 0, 1) := by decide +kernel
theorem dX7_pipe_79 : decode cX7_pipe 79 = .ok (.getfield 26, 3) := by decide +kernel
theorem dX7_pipe_82 : decode cX7_pipe 82 = .ok (.getfield 124, 3) := by decide +kernel
theorem dX7_pipe_85 : decode cX7_pipe 85 = .ok (.bipush 26, 2) := by decide +kernel
theorem dX7_pipe_87 : decode cX7_pipe 87 = .ok (.iload_n 1, 1) := by decide +kernel
theorem dX7_pipe_88 : decode cX7_pipe 88 = .ok (.iadd, 1) := by decide +kernel
theorem dX7_pipe_89 : decode cX7_pipe 89 = .ok (.iaload, 1) := by decide +kernel
theorem dX7_pipe_90 : decode cX7_pipe 90 = .ok (.ireturn, 1) := by decide +kernel
theorem dX7_pipe_91 : decode cX7_pipe 91 = .ok (.aload_n 0, 1) := by decide +kernel
theorem dX7_pipe_92 : decode cX7_pipe 92 = .ok (.getfield 26, 3) := by decide +kernel
theorem dX7_pipe_95 : decode cX7_pipe 95 = .ok (.getfield 124, 3) := by decide +kernel
theorem dX7_pipe_98 : decode cX7_pipe 98 = .ok (.bipush 33, 2) := by decide +kernel
theorem dX7_pipe_100 : decode cX7_pipe 100 = .ok (.iload_n 1, 1) := by decide +kernel
theorem dX7_pipe_101 : decode cX7_pipe 101 = .ok (.iadd, 1) := by decide +kernel
theorem dX7_pipe_102 : decode cX7_pipe 102 = .ok (.iaload, 1) := by decide +kernel
theorem dX7_pipe_103 : decode cX7_pipe 103 = .ok (.ireturn, 1) := by decide +kernel
theorem dX7_pipe_104 : decode cX7_pipe 104 = .ok (.aload_n 0, 1) := by decide +kernel
theorem dX7_pipe_105 : decode cX7_pipe 105 = .ok (.getfield 26, 3) := by decide +kernel
theorem dX7_pipe_108 : decode cX7_pipe 108 = .ok (.iload_n 1, 1) := by decide +kernel
theorem dX7_pipe_109 : decode cX7_pipe 109 = .ok (.invokevirtual 165, 3) := by decide +kernel
theorem dX7_pipe_112 : decode cX7_pipe 112 = .ok (.ifCond .eq 7, 3) := by decide +kernel
theorem dX7_pipe_115 : decode cX7_pipe 115 = .ok (.iconst 1, 1) := by decide +kernel
theorem dX7_pipe_116 : decode cX7_pipe 116 = .ok (.goto 4, 3) := by decide +kernel
theorem dX7_pipe_119 : decode cX7_pipe 119 = .ok (.iconst 0, 1) := by decide +kernel
theorem dX7_pipe_120 : decode cX7_pipe 120 = .ok (.ireturn, 1) := by decide +kernel
theorem dX7_pipe_121 : decode cX7_pipe 121 = .ok (.aload_n 0, 1) := by decide +kernel
theorem dX7_pipe_122 : decode cX7_pipe 122 = .ok (.getfield 26, 3) := by decide +kernel
theorem dX7_pipe_125 : decode cX7_pipe 125 = .ok (.iload_n 1, 1) := by decide +kernel
theorem dX7_pipe_126 : decode cX7_pipe 126 = .ok (.invokevirtual 174, 3) := by decide +kernel
theorem dX7_pipe_129 : decode cX7_pipe 129 = .ok (.ireturn, 1) := by decide +kernel
theorem dX7_pipe_130 : decode cX7_pipe 130 = .ok (.ldc 71, 2) := by decide +kernel
theorem dX7_pipe_132 : decode cX7_pipe 132 = .ok (.ireturn, 1) := by decide +kernel
theorem dX7_inside_0 : decode cX7_inside 0 = .ok (.aload_n 0, 1) := by decide +kernel
theorem dX7_inside_1 : decode cX7_inside 1 = .ok (.getfield 26, 3) := by decide +kernel
theorem dX7_inside_4 : decode cX7_inside 4 = .ok (.iload_n 1, 1) := by decide +kernel
theorem dX7_inside_5 : decode cX7_inside 5 = .ok (.invokevirtual 162, 3) := by decide +kernel
theorem dX7_inside_8 : decode cX7_inside 8 = .ok (.ifCond .eq 23, 3) := by decide +kernel
theorem dX7_inside_11 : decode cX7_inside 11 = .ok (.iload_n 2, 1) := by decide +kernel
theorem dX7_inside_12 : decode cX7_inside 12 = .ok (.ifCond .lt 19, 3) := by decide +kernel
theorem dX7_inside_15 : decode cX7_inside 15 = .ok (.iload_n 2, 1) := by decide +kernel
theorem dX7_inside_16 : decode cX7_inside 16 = .ok (.aload_n 0, 1) := by decide +kernel
theorem dX7_inside_17 : decode cX7_inside 17 = .ok (.getfield 26, 3) := by decide +kernel
theorem dX7_inside_20 : decode cX7_inside 20 = .ok (.getfield 124, 3) := by decide +kernel
theorem dX7_inside_23 : decode cX7_inside 23 = .ok (.bipush 26, 2) := by decide +kernel
theorem dX7_inside_25 : decode cX7_inside 25 = .ok (.iload_n 1, 1) := by decide +kernel
theorem dX7_inside_26 : decode cX7_inside 26 = .ok (.iadd, 1) := by decide +kernel
theorem dX7_inside_27 : decode cX7_inside 27 = .ok (.iaload, 1) := by decide +kernel
theorem dX7_inside_28 : decode cX7_inside 28 = .ok (.if_icmp .lt 6, 3) := by decide +kernel
theorem dX7_inside_31 : decode cX7_inside 31 = .ok (.ldc 71, 2) := by decide +kernel
theorem dX7_inside_33 : decode cX7_inside 33 = .ok (.ireturn, 1) := by decide +kernel
theorem dX7_inside_34 : decode cX7_inside 34 = .ok (.aload_n 0, 1) := by decide +kernel
theorem dX7_inside_35 : decode cX7_inside 35 = .ok (.getfield 26, 3) := by decide +kernel
theorem dX7_inside_38 : decode cX7_inside 38 = .ok (.getfield 124, 3) := by decide +kernel
theorem dX7_inside_41 : decode cX7_inside 41 = .ok (.bipush 40, 2) := by decide +kernel
theorem dX7_inside_43 : decode cX7_inside 43 = .ok (.iload_n 1, 1) := by decide +kernel
theorem dX7_inside_44 : decode cX7_inside 44 = .ok (.iconst 4, 1) := by decide +kernel
theorem dX7_inside_45 : decode cX7_inside 45 = .ok (.imul, 1) := by decide +kernel
theorem dX7_inside_46 : decode cX7_inside 46 = .ok (.iadd, 1) := by decide +kernel
theorem dX7_inside_47 : decode cX7_inside 47 = .ok (.iload_n 2, 1) := by decide +kernel
theorem dX7_inside_48 : decode cX7_inside 48 = .ok (.iadd, 1) := by decide +kernel
theorem dX7_inside_49 : decode cX7_inside 49 = .ok (.iaload, 1) := by decide +kernel
theorem dX7_inside_50 : decode cX7_inside 50 = .ok (.istore_n 3, 1) := by decide +kernel
theorem dX7_inside_51 : decode cX7_inside 51 = .ok (.iload_n 3, 1) := by decide +kernel
theorem dX7_inside_52 : decode cX7_inside 52 = .ok (.ifCond .ne 8, 3) := by decide +kernel
theorem dX7_inside_55 : decode cX7_inside 55 = .ok (.ldc 177, 2) := by decide +kernel
theorem dX7_inside_57 : decode cX7_inside 57 = .ok (.goto 4, 3) := by decide +kernel
theorem dX7_inside_60 : decode cX7_inside 60 = .ok (.iload_n 3, 1) := by decide +kernel
theorem dX7_inside_61 : decode cX7_inside 61 = .ok (.ireturn, 1) := by decide +kernel
theorem dX7_horn_0 : decode cX7_horn 0 = .ok (.aload_n 0, 1) := by decide +kernel
theorem dX7_horn_1 : decode cX7_horn 1 = .ok (.getfield 26, 3) := by decide +kernel
theorem dX7_horn_4 : decode cX7_horn 4 = .ok (.iload_n 1, 1) := by decide +kernel
theorem dX7_horn_5 : decode cX7_horn 5 = .ok (.invokevirtual 156, 3) := by decide +kernel
theorem dX7_horn_8 : decode cX7_horn 8 = .ok (.ifCond .ne 6, 3) := by decide +kernel
theorem dX7_horn_11 : decode cX7_horn 11 = .ok (.ldc 71, 2) := by decide +kernel
theorem dX7_horn_13 : decode cX7_horn 13 = .ok (.ireturn, 1) := by decide +kernel
theorem dX7_horn_14 : decode cX7_horn 14 = .ok (.aload_n 0, 1) := by decide +kernel
theorem dX7_horn_15 : decode cX7_horn 15 = .ok (.getfield 26, 3) := by decide +kernel
theorem dX7_horn_18 : decode cX7_horn 18 = .ok (.getfield 124, 3) := by decide +kernel
theorem dX7_horn_21 : decode cX7_horn 21 = .ok (.bipush 68, 2) := by decide +kernel
theorem dX7_horn_23 : decode cX7_horn 23 = .ok (.iload_n 1, 1) := by decide +kernel
theorem dX7_horn_24 : decode cX7_horn 24 = .ok (.iadd, 1) := by decide +kernel
theorem dX7_horn_25 : decode cX7_horn 25 = .ok (.iaload, 1) := by decide +kernel
theorem dX7_horn_26 : decode cX7_horn 26 = .ok (.istore_n 3, 1) := by decide +kernel
theorem dX7_horn_27 : decode cX7_horn 27 = .ok (.iload_n 2, 1) := by decide +kernel
theorem dX7_horn_28 : decode cX7_horn 28 = .ok (.tableswitch 90 0 4 #[36, 41, 46, 68, 79], 36) := by decide +kernel
theorem dX7_horn_64 : decode cX7_horn 64 = .ok (.iload_n 3, 1) := by decide +kernel
theorem dX7_horn_65 : decode cX7_horn 65 = .ok (.invokestatic 178, 3) := by decide +kernel
theorem dX7_horn_68 : decode cX7_horn 68 = .ok (.ireturn, 1) := by decide +kernel
theorem dX7_horn_69 : decode cX7_horn 69 = .ok (.iload_n 3, 1) := by decide +kernel
theorem dX7_horn_70 : decode cX7_horn 70 = .ok (.invokestatic 181, 3) := by decide +kernel
theorem dX7_horn_73 : decode cX7_horn 73 = .ok (.ireturn, 1) := by decide +kernel
theorem dX7_horn_74 : decode cX7_horn 74 = .ok (.iload_n 3, 1) := by decide +kernel
theorem dX7_horn_75 : decode cX7_horn 75 = .ok (.ifCond .ne 8, 3) := by decide +kernel
theorem dX7_horn_78 : decode cX7_horn 78 = .ok (.ldc 177, 2) := by decide +kernel
theorem dX7_horn_80 : decode cX7_horn 80 = .ok (.goto 15, 3) := by decide +kernel
theorem dX7_horn_83 : decode cX7_horn 83 = .ok (.aload_n 0, 1) := by decide +kernel
theorem dX7_horn_84 : decode cX7_horn 84 = .ok (.getfield 26, 3) := by decide +kernel
theorem dX7_horn_87 : decode cX7_horn 87 = .ok (.getfield 124, 3) := by decide +kernel
theorem dX7_horn_90 : decode cX7_horn 90 = .ok (.bipush 74, 2) := by decide +kernel
theorem dX7_horn_92 : decode cX7_horn 92 = .ok (.iload_n 1, 1) := by decide +kernel
theorem dX7_horn_93 : decode cX7_horn 93 = .ok (.iadd, 1) := by decide +kernel
theorem dX7_horn_94 : decode cX7_horn 94 = .ok (.iaload, 1) := by decide +kernel
theorem dX7_horn_95 : decode cX7_horn 95 = .ok (.ireturn, 1) := by decide +kernel
theorem dX7_horn_96 : decode cX7_horn 96 = .ok (.aload_n 0, 1) := by decide +kernel
theorem dX7_horn_97 : decode cX7_horn 97 = .ok (.getfield 26, 3) := by decide +kernel
theorem dX7_horn_100 : decode cX7_horn 100 = .ok (.bipush 12, 2) := by decide +kernel
theorem dX7_horn_102 : decode cX7_horn 102 = .ok (.iload_n 1, 1) := by decide +kernel
theorem dX7_horn_103 : decode cX7_horn 103 = .ok (.invokevirtual 184, 3) := by decide +kernel
theorem dX7_horn_106 : decode cX7_horn 106 = .ok (.ireturn, 1) := by decide +kernel
theorem dX7_horn_107 : decode cX7_horn 107 = .ok (.aload_n 0, 1) := by decide +kernel
theorem dX7_horn_108 : decode cX7_horn 108 = .ok (.getfield 26, 3) := by decide +kernel
theorem dX7_horn_111 : decode cX7_horn 111 = .ok (.bipush 19, 2) := by decide +kernel
theorem dX7_horn_113 : decode cX7_horn 113 = .ok (.iload_n 1, 1) := by decide +kernel
theorem dX7_horn_114 : decode cX7_horn 114 = .ok (.invokevirtual 184, 3) := by decide +kernel
theorem dX7_horn_117 : decode cX7_horn 117 = .ok (.ireturn, 1) := by decide +kernel
theorem dX7_horn_118 : decode cX7_horn 118 = .ok (.ldc 71, 2) := by decide +kernel
theorem dX7_horn_120 : decode cX7_horn 120 = .ok (.ireturn, 1) := by decide +kernel
theorem dX7_ahead_0 : decode cX7_ahead 0 = .ok (.aload_n 0, 1) := by decide +kernel
theorem dX7_ahead_1 : decode cX7_ahead 1 = .ok (.getfield 26, 3) := by decide +kernel
theorem dX7_ahead_4 : decode cX7_ahead 4 = .ok (.iload_n 1, 1) := by decide +kernel
theorem dX7_ahead_5 : decode cX7_ahead 5 = .ok (.invokevirtual 156, 3) := by decide +kernel
theorem dX7_ahead_8 : decode cX7_ahead 8 = .ok (.ifCond .eq 22, 3) := by decide +kernel
theorem dX7_ahead_11 : decode cX7_ahead 11 = .ok (.iload_n 2, 1) := by decide +kernel
theorem dX7_ahead_12 : decode cX7_ahead 12 = .ok (.iconst 1, 1) := by decide +kernel
theorem dX7_ahead_13 : decode cX7_ahead 13 = .ok (.bipush 60, 2) := by decide +kernel
theorem dX7_ahead_15 : decode cX7_ahead 15 = .ok (.invokestatic 67, 3) := by decide +kernel
theorem dX7_ahead_18 : decode cX7_ahead 18 = .ok (.ifCond .eq 12, 3) := by decide +kernel
theorem dX7_ahead_21 : decode cX7_ahead 21 = .ok (.iload_n 3, 1) := by decide +kernel
theorem dX7_ahead_22 : decode cX7_ahead 22 = .ok (.iconst 0, 1) := by decide +kernel
theorem dX7_ahead_23 : decode cX7_ahead 23 = .ok (.iconst 1, 1) := by decide +kernel
theorem dX7_ahead_24 : decode cX7_ahead 24 = .ok (.invokestatic 67, 3) := by decide +kernel
theorem dX7_ahead_27 : decode cX7_ahead 27 = .ok (.ifCond .ne 6, 3) := by decide +kernel
theorem dX7_ahead_30 : decode cX7_ahead 30 = .ok (.ldc 71, 2) := by decide +kernel
theorem dX7_ahead_32 : decode cX7_ahead 32 = .ok (.ireturn, 1) := by decide +kernel
theorem dX7_ahead_33 : decode cX7_ahead 33 = .ok (.aload_n 0, 1) := by decide +kernel
theorem dX7_ahead_34 : decode cX7_ahead 34 = .ok (.invokevirtual 188, 3) := by decide +kernel
theorem dX7_ahead_37 : decode cX7_ahead 37 = .ok (.iload_n 1, 1) := by decide +kernel
theorem dX7_ahead_38 : decode cX7_ahead 38 = .ok (.iload_n 2, 1) := by decide +kernel
theorem dX7_ahead_39 : decode cX7_ahead 39 = .ok (.invokevirtual 192, 3) := by decide +kernel
theorem dX7_ahead_42 : decode cX7_ahead 42 = .ok (.istore 4, 2) := by decide +kernel
theorem dX7_ahead_44 : decode cX7_ahead 44 = .ok (.iload_n 3, 1) := by decide +kernel
theorem dX7_ahead_45 : decode cX7_ahead 45 = .ok (.ifCond .ne 9, 3) := by decide +kernel
theorem dX7_ahead_48 : decode cX7_ahead 48 = .ok (.iload 4, 2) := by decide +kernel
theorem dX7_ahead_50 : decode cX7_ahead 50 = .ok (.invokestatic 178, 3) := by decide +kernel
theorem dX7_ahead_53 : decode cX7_ahead 53 = .ok (.ireturn, 1) := by decide +kernel
theorem dX7_ahead_54 : decode cX7_ahead 54 = .ok (.iload 4, 2) := by decide +kernel
theorem dX7_ahead_56 : decode cX7_ahead 56 = .ok (.ifCond .ne 8, 3) := by decide +kernel
theorem dX7_ahead_59 : decode cX7_ahead 59 = .ok (.ldc 177, 2) := by decide +kernel
theorem dX7_ahead_61 : decode cX7_ahead 61 = .ok (.goto 8, 3) := by decide +kernel
theorem dX7_ahead_64 : decode cX7_ahead 64 = .ok (.iload 4, 2) := by decide +kernel
theorem dX7_ahead_66 : decode cX7_ahead 66 = .ok (.invokestatic 181, 3) := by decide +kernel
theorem dX7_ahead_69 : decode cX7_ahead 69 = .ok (.ireturn, 1) := by decide +kernel
theorem dX7_first_0 : decode cX7_first 0 = .ok (.aload_n 0, 1) := by decide +kernel
theorem dX7_first_1 : decode cX7_first 1 = .ok (.getfield 26, 3) := by decide +kernel
theorem dX7_first_4 : decode cX7_first 4 = .ok (.iload_n 1, 1) := by decide +kernel
theorem dX7_first_5 : decode cX7_first 5 = .ok (.invokevirtual 156, 3) := by decide +kernel
theorem dX7_first_8 : decode cX7_first 8 = .ok (.ifCond .ne 6, 3) := by decide +kernel
theorem dX7_first_11 : decode cX7_first 11 = .ok (.ldc 71, 2) := by decide +kernel
theorem dX7_first_13 : decode cX7_first 13 = .ok (.ireturn, 1) := by decide +kernel
theorem dX7_first_14 : decode cX7_first 14 = .ok (.aload_n 0, 1) := by decide +kernel
theorem dX7_first_15 : decode cX7_first 15 = .ok (.invokevirtual 188, 3) := by decide +kernel
theorem dX7_first_18 : decode cX7_first 18 = .ok (.iload_n 1, 1) := by decide +kernel
theorem dX7_first_19 : decode cX7_first 19 = .ok (.bipush 60, 2) := by decide +kernel
theorem dX7_first_21 : decode cX7_first 21 = .ok (.invokevirtual 195, 3) := by decide +kernel
theorem dX7_first_24 : decode cX7_first 24 = .ok (.ireturn, 1) := by decide +kernel
theorem dX7_hearers_0 : decode cX7_hearers 0 = .ok (.aload_n 0, 1) := by decide +kernel
theorem dX7_hearers_1 : decode cX7_hearers 1 = .ok (.getfield 26, 3) := by decide +kernel
theorem dX7_hearers_4 : decode cX7_hearers 4 = .ok (.invokevirtual 145, 3) := by decide +kernel
theorem dX7_hearers_7 : decode cX7_hearers 7 = .ok (.ifCond .ne 6, 3) := by decide +kernel
theorem dX7_hearers_10 : decode cX7_hearers 10 = .ok (.ldc 140, 2) := by decide +kernel
theorem dX7_hearers_12 : decode cX7_hearers 12 = .ok (.ireturn, 1) := by decide +kernel
theorem dX7_hearers_13 : decode cX7_hearers 13 = .ok (.iload_n 1, 1) := by decide +kernel
theorem dX7_hearers_14 : decode cX7_hearers 14 = .ok (.iconst 1, 1) := by decide +kernel
theorem dX7_hearers_15 : decode cX7_hearers 15 = .ok (.bipush 60, 2) := by decide +kernel
theorem dX7_hearers_17 : decode cX7_hearers 17 = .ok (.invokestatic 67, 3) := by decide +kernel
theorem dX7_hearers_20 : decode cX7_hearers 20 = .ok (.ifCond .eq 14, 3) := by decide +kernel
theorem dX7_hearers_23 : decode cX7_hearers 23 = .ok (.aload_n 0, 1) := by decide +kernel
theorem dX7_hearers_24 : decode cX7_hearers 24 = .ok (.invokevirtual 188, 3) := by decide +kernel
theorem dX7_hearers_27 : decode cX7_hearers 27 = .ok (.iload_n 1, 1) := by decide +kernel
theorem dX7_hearers_28 : decode cX7_hearers 28 = .ok (.invokevirtual 198, 3) := by decide +kernel
theorem dX7_hearers_31 : decode cX7_hearers 31 = .ok (.goto 5, 3) := by decide +kernel
theorem dX7_hearers_34 : decode cX7_hearers 34 = .ok (.ldc 71, 2) := by decide +kernel
theorem dX7_hearers_36 : decode cX7_hearers 36 = .ok (.ireturn, 1) := by decide +kernel
theorem dX7_quiet_0 : decode cX7_quiet 0 = .ok (.aload_n 0, 1) := by decide +kernel
theorem dX7_quiet_1 : decode cX7_quiet 1 = .ok (.getfield 26, 3) := by decide +kernel
theorem dX7_quiet_4 : decode cX7_quiet 4 = .ok (.invokevirtual 145, 3) := by decide +kernel
theorem dX7_quiet_7 : decode cX7_quiet 7 = .ok (.ifCond .eq 15, 3) := by decide +kernel
theorem dX7_quiet_10 : decode cX7_quiet 10 = .ok (.aload_n 0, 1) := by decide +kernel
theorem dX7_quiet_11 : decode cX7_quiet 11 = .ok (.invokevirtual 188, 3) := by decide +kernel
theorem dX7_quiet_14 : decode cX7_quiet 14 = .ok (.bipush 60, 2) := by decide +kernel
theorem dX7_quiet_16 : decode cX7_quiet 16 = .ok (.invokevirtual 201, 3) := by decide +kernel
theorem dX7_quiet_19 : decode cX7_quiet 19 = .ok (.goto 5, 3) := by decide +kernel
theorem dX7_quiet_22 : decode cX7_quiet 22 = .ok (.ldc 140, 2) := by decide +kernel
theorem dX7_quiet_24 : decode cX7_quiet 24 = .ok (.ireturn, 1) := by decide +kernel
theorem dX7_shuts_0 : decode cX7_shuts 0 = .ok (.aload_n 0, 1) := by decide +kernel
theorem dX7_shuts_1 : decode cX7_shuts 1 = .ok (.getfield 26, 3) := by decide +kernel
theorem dX7_shuts_4 : decode cX7_shuts 4 = .ok (.invokevirtual 145, 3) := by decide +kernel
theorem dX7_shuts_7 : decode cX7_shuts 7 = .ok (.ifCond .ne 6, 3) := by decide +kernel
theorem dX7_shuts_10 : decode cX7_shuts 10 = .ok (.ldc 140, 2) := by decide +kernel
theorem dX7_shuts_12 : decode cX7_shuts 12 = .ok (.ireturn, 1) := by decide +kernel
theorem dX7_shuts_13 : decode cX7_shuts 13 = .ok (.aload_n 0, 1) := by decide +kernel
theorem dX7_shuts_14 : decode cX7_shuts 14 = .ok (.getfield 26, 3) := by decide +kernel
theorem dX7_shuts_17 : decode cX7_shuts 17 = .ok (.iload_n 1, 1) := by decide +kernel
theorem dX7_shuts_18 : decode cX7_shuts 18 = .ok (.invokevirtual 156, 3) := by decide +kernel
theorem dX7_shuts_21 : decode cX7_shuts 21 = .ok (.ifCond .eq 38, 3) := by decide +kernel
theorem dX7_shuts_24 : decode cX7_shuts 24 = .ok (.iload_n 2, 1) := by decide +kernel
theorem dX7_shuts_25 : decode cX7_shuts 25 = .ok (.iconst 0, 1) := by decide +kernel
theorem dX7_shuts_26 : decode cX7_shuts 26 = .ok (.aload_n 0, 1) := by decide +kernel
theorem dX7_shuts_27 : decode cX7_shuts 27 = .ok (.getfield 26, 3) := by decide +kernel
theorem dX7_shuts_30 : decode cX7_shuts 30 = .ok (.invokevirtual 204, 3) := by decide +kernel
theorem dX7_shuts_33 : decode cX7_shuts 33 = .ok (.invokestatic 67, 3) := by decide +kernel
theorem dX7_shuts_36 : decode cX7_shuts 36 = .ok (.ifCond .eq 23, 3) := by decide +kernel
theorem dX7_shuts_39 : decode cX7_shuts 39 = .ok (.iload_n 3, 1) := by decide +kernel
theorem dX7_shuts_40 : decode cX7_shuts 40 = .ok (.iconst 1, 1) := by decide +kernel
theorem dX7_shuts_41 : decode cX7_shuts 41 = .ok (.bipush 30, 2) := by decide +kernel
theorem dX7_shuts_43 : decode cX7_shuts 43 = .ok (.invokestatic 67, 3) := by decide +kernel
theorem dX7_shuts_46 : decode cX7_shuts 46 = .ok (.ifCond .eq 13, 3) := by decide +kernel
theorem dX7_shuts_49 : decode cX7_shuts 49 = .ok (.iload 4, 2) := by decide +kernel
theorem dX7_shuts_51 : decode cX7_shuts 51 = .ok (.iconst 0, 1) := by decide +kernel
theorem dX7_shuts_52 : decode cX7_shuts 52 = .ok (.iconst 1, 1) := by decide +kernel
theorem dX7_shuts_53 : decode cX7_shuts 53 = .ok (.invokestatic 67, 3) := by decide +kernel
theorem dX7_shuts_56 : decode cX7_shuts 56 = .ok (.ifCond .ne 6, 3) := by decide +kernel
theorem dX7_shuts_59 : decode cX7_shuts 59 = .ok (.ldc 71, 2) := by decide +kernel
theorem dX7_shuts_61 : decode cX7_shuts 61 = .ok (.ireturn, 1) := by decide +kernel
theorem dX7_shuts_62 : decode cX7_shuts 62 = .ok (.aload_n 0, 1) := by decide +kernel
theorem dX7_shuts_63 : decode cX7_shuts 63 = .ok (.invokevirtual 188, 3) := by decide +kernel
theorem dX7_shuts_66 : decode cX7_shuts 66 = .ok (.aload_n 0, 1) := by decide +kernel
theorem dX7_shuts_67 : decode cX7_shuts 67 = .ok (.getfield 26, 3) := by decide +kernel
theorem dX7_shuts_70 : decode cX7_shuts 70 = .ok (.getfield 124, 3) := by decide +kernel
theorem dX7_shuts_73 : decode cX7_shuts 73 = .ok (.iconst 3, 1) := by decide +kernel
theorem dX7_shuts_74 : decode cX7_shuts 74 = .ok (.iaload, 1) := by decide +kernel
theorem dX7_shuts_75 : decode cX7_shuts 75 = .ok (.iload_n 1, 1) := by decide +kernel
theorem dX7_shuts_76 : decode cX7_shuts 76 = .ok (.iload_n 2, 1) := by decide +kernel
theorem dX7_shuts_77 : decode cX7_shuts 77 = .ok (.iload_n 3, 1) := by decide +kernel
theorem dX7_shuts_78 : decode cX7_shuts 78 = .ok (.iconst 0, 1) := by decide +kernel
theorem dX7_shuts_79 : decode cX7_shuts 79 = .ok (.invokevirtual 207, 3) := by decide +kernel
theorem dX7_shuts_82 : decode cX7_shuts 82 = .ok (.iload 4, 2) := by decide +kernel
theorem dX7_shuts_84 : decode cX7_shuts 84 = .ok (.invokestatic 211, 3) := by decide +kernel
theorem dX7_shuts_87 : decode cX7_shuts 87 = .ok (.ireturn, 1) := by decide +kernel
theorem dX7_opens_0 : decode cX7_opens 0 = .ok (.aload_n 0, 1) := by decide +kernel
theorem dX7_opens_1 : decode cX7_opens 1 = .ok (.getfield 26, 3) := by decide +kernel
theorem dX7_opens_4 : decode cX7_opens 4 = .ok (.iload_n 1, 1) := by decide +kernel
theorem dX7_opens_5 : decode cX7_opens 5 = .ok (.invokevirtual 156, 3) := by decide +kernel
theorem dX7_opens_8 : decode cX7_opens 8 = .ok (.ifCond .eq 34, 3) := by decide +kernel
theorem dX7_opens_11 : decode cX7_opens 11 = .ok (.aload_n 0, 1) := by decide +kernel
theorem dX7_opens_12 : decode cX7_opens 12 = .ok (.getfield 26, 3) := by decide +kernel
theorem dX7_opens_15 : decode cX7_opens 15 = .ok (.iload_n 2, 1) := by decide +kernel
theorem dX7_opens_16 : decode cX7_opens 16 = .ok (.invokevirtual 156, 3) := by decide +kernel
theorem dX7_opens_19 : decode cX7_opens 19 = .ok (.ifCond .eq 23, 3) := by decide +kernel
theorem dX7_opens_22 : decode cX7_opens 22 = .ok (.iload_n 3, 1) := by decide +kernel
theorem dX7_opens_23 : decode cX7_opens 23 = .ok (.iconst 1, 1) := by decide +kernel
theorem dX7_opens_24 : decode cX7_opens 24 = .ok (.bipush 30, 2) := by decide +kernel
theorem dX7_opens_26 : decode cX7_opens 26 = .ok (.invokestatic 67, 3) := by decide +kernel
theorem dX7_opens_29 : decode cX7_opens 29 = .ok (.ifCond .eq 13, 3) := by decide +kernel
theorem dX7_opens_32 : decode cX7_opens 32 = .ok (.iload 4, 2) := by decide +kernel
theorem dX7_opens_34 : decode cX7_opens 34 = .ok (.iconst 0, 1) := by decide +kernel
theorem dX7_opens_35 : decode cX7_opens 35 = .ok (.iconst 1, 1) := by decide +kernel
theorem dX7_opens_36 : decode cX7_opens 36 = .ok (.invokestatic 67, 3) := by decide +kernel
theorem dX7_opens_39 : decode cX7_opens 39 = .ok (.ifCond .ne 6, 3) := by decide +kernel
theorem dX7_opens_42 : decode cX7_opens 42 = .ok (.ldc 71, 2) := by decide +kernel
theorem dX7_opens_44 : decode cX7_opens 44 = .ok (.ireturn, 1) := by decide +kernel
theorem dX7_opens_45 : decode cX7_opens 45 = .ok (.aload_n 0, 1) := by decide +kernel
theorem dX7_opens_46 : decode cX7_opens 46 = .ok (.getfield 26, 3) := by decide +kernel
theorem dX7_opens_49 : decode cX7_opens 49 = .ok (.invokevirtual 214, 3) := by decide +kernel
theorem dX7_opens_52 : decode cX7_opens 52 = .ok (.aload_n 0, 1) := by decide +kernel
theorem dX7_opens_53 : decode cX7_opens 53 = .ok (.getfield 26, 3) := by decide +kernel
theorem dX7_opens_56 : decode cX7_opens 56 = .ok (.getfield 124, 3) := by decide +kernel
theorem dX7_opens_59 : decode cX7_opens 59 = .ok (.iconst 3, 1) := by decide +kernel
theorem dX7_opens_60 : decode cX7_opens 60 = .ok (.iaload, 1) := by decide +kernel
theorem dX7_opens_61 : decode cX7_opens 61 = .ok (.iconst (-1), 1) := by decide +kernel
theorem dX7_opens_62 : decode cX7_opens 62 = .ok (.ixor, 1) := by decide +kernel
theorem dX7_opens_63 : decode cX7_opens 63 = .ok (.iand, 1) := by decide +kernel
theorem dX7_opens_64 : decode cX7_opens 64 = .ok (.istore 5, 2) := by decide +kernel
theorem dX7_opens_66 : decode cX7_opens 66 = .ok (.aload_n 0, 1) := by decide +kernel
theorem dX7_opens_67 : decode cX7_opens 67 = .ok (.invokevirtual 188, 3) := by decide +kernel
theorem dX7_opens_70 : decode cX7_opens 70 = .ok (.iload 5, 2) := by decide +kernel
theorem dX7_opens_72 : decode cX7_opens 72 = .ok (.iload_n 1, 1) := by decide +kernel
theorem dX7_opens_73 : decode cX7_opens 73 = .ok (.iconst 1, 1) := by decide +kernel
theorem dX7_opens_74 : decode cX7_opens 74 = .ok (.iload_n 2, 1) := by decide +kernel
theorem dX7_opens_75 : decode cX7_opens 75 = .ok (.ishl, 1) := by decide +kernel
theorem dX7_opens_76 : decode cX7_opens 76 = .ok (.iload_n 3, 1) := by decide +kernel
theorem dX7_opens_77 : decode cX7_opens 77 = .ok (.iconst 1, 1) := by decide +kernel
theorem dX7_opens_78 : decode cX7_opens 78 = .ok (.invokevirtual 207, 3) := by decide +kernel
theorem dX7_opens_81 : decode cX7_opens 81 = .ok (.iload 4, 2) := by decide +kernel
theorem dX7_opens_83 : decode cX7_opens 83 = .ok (.invokestatic 211, 3) := by decide +kernel
theorem dX7_opens_86 : decode cX7_opens 86 = .ok (.ireturn, 1) := by decide +kernel
theorem dX7_loud_0 : decode cX7_loud 0 = .ok (.aload_n 0, 1) := by decide +kernel
theorem dX7_loud_1 : decode cX7_loud 1 = .ok (.getfield 26, 3) := by decide +kernel
theorem dX7_loud_4 : decode cX7_loud 4 = .ok (.iload_n 1, 1) := by decide +kernel
theorem dX7_loud_5 : decode cX7_loud 5 = .ok (.invokevirtual 156, 3) := by decide +kernel
theorem dX7_loud_8 : decode cX7_loud 8 = .ok (.ifCond .eq 24, 3) := by decide +kernel
theorem dX7_loud_11 : decode cX7_loud 11 = .ok (.aload_n 0, 1) := by decide +kernel
theorem dX7_loud_12 : decode cX7_loud 12 = .ok (.getfield 26, 3) := by decide +kernel
theorem dX7_loud_15 : decode cX7_loud 15 = .ok (.iload_n 2, 1) := by decide +kernel
theorem dX7_loud_16 : decode cX7_loud 16 = .ok (.invokevirtual 156, 3) := by decide +kernel
theorem dX7_loud_19 : decode cX7_loud 19 = .ok (.ifCond .eq 13, 3) := by decide +kernel
theorem dX7_loud_22 : decode cX7_loud 22 = .ok (.iload_n 3, 1) := by decide +kernel
theorem dX7_loud_23 : decode cX7_loud 23 = .ok (.iconst 1, 1) := by decide +kernel
theorem dX7_loud_24 : decode cX7_loud 24 = .ok (.bipush 30, 2) := by decide +kernel
theorem dX7_loud_26 : decode cX7_loud 26 = .ok (.invokestatic 67, 3) := by decide +kernel
theorem dX7_loud_29 : decode cX7_loud 29 = .ok (.ifCond .ne 6, 3) := by decide +kernel
theorem dX7_loud_32 : decode cX7_loud 32 = .ok (.ldc 71, 2) := by decide +kernel
theorem dX7_loud_34 : decode cX7_loud 34 = .ok (.ireturn, 1) := by decide +kernel
theorem dX7_loud_35 : decode cX7_loud 35 = .ok (.aload_n 0, 1) := by decide +kernel
theorem dX7_loud_36 : decode cX7_loud 36 = .ok (.invokevirtual 188, 3) := by decide +kernel
theorem dX7_loud_39 : decode cX7_loud 39 = .ok (.iload_n 1, 1) := by decide +kernel
theorem dX7_loud_40 : decode cX7_loud 40 = .ok (.iload_n 2, 1) := by decide +kernel
theorem dX7_loud_41 : decode cX7_loud 41 = .ok (.iload_n 3, 1) := by decide +kernel
theorem dX7_loud_42 : decode cX7_loud 42 = .ok (.invokevirtual 217, 3) := by decide +kernel
theorem dX7_loud_45 : decode cX7_loud 45 = .ok (.ireturn, 1) := by decide +kernel
theorem dX7_say_0 : decode cX7_say 0 = .ok (.aload_n 0, 1) := by decide +kernel
theorem dX7_say_1 : decode cX7_say 1 = .ok (.getfield 26, 3) := by decide +kernel
theorem dX7_say_4 : decode cX7_say 4 = .ok (.iload_n 1, 1) := by decide +kernel
theorem dX7_say_5 : decode cX7_say 5 = .ok (.invokevirtual 156, 3) := by decide +kernel
theorem dX7_say_8 : decode cX7_say 8 = .ok (.ifCond .eq 35, 3) := by decide +kernel
theorem dX7_say_11 : decode cX7_say 11 = .ok (.aload_n 0, 1) := by decide +kernel
theorem dX7_say_12 : decode cX7_say 12 = .ok (.getfield 26, 3) := by decide +kernel
theorem dX7_say_15 : decode cX7_say 15 = .ok (.iload_n 2, 1) := by decide +kernel
theorem dX7_say_16 : decode cX7_say 16 = .ok (.invokevirtual 156, 3) := by decide +kernel
theorem dX7_say_19 : decode cX7_say 19 = .ok (.ifCond .eq 24, 3) := by decide +kernel
theorem dX7_say_22 : decode cX7_say 22 = .ok (.iload_n 3, 1) := by decide +kernel
theorem dX7_say_23 : decode cX7_say 23 = .ok (.iconst 0, 1) := by decide +kernel
theorem dX7_say_24 : decode cX7_say 24 = .ok (.bipush 9, 2) := by decide +kernel
theorem dX7_say_26 : decode cX7_say 26 = .ok (.invokestatic 67, 3) := by decide +kernel
theorem dX7_say_29 : decode cX7_say 29 = .ok (.ifCond .eq 14, 3) := by decide +kernel
theorem dX7_say_32 : decode cX7_say 32 = .ok (.iload 4, 2) := by decide +kernel
theorem dX7_say_34 : decode cX7_say 34 = .ok (.iconst 1, 1) := by decide +kernel
theorem dX7_say_35 : decode cX7_say 35 = .ok (.bipush 30, 2) := by decide +kernel
theorem dX7_say_37 : decode cX7_say 37 = .ok (.invokestatic 67, 3) := by decide +kernel
theorem dX7_say_40 : decode cX7_say 40 = .ok (.ifCond .ne 6, 3) := by decide +kernel
theorem dX7_say_43 : decode cX7_say 43 = .ok (.ldc 71, 2) := by decide +kernel
theorem dX7_say_45 : decode cX7_say 45 = .ok (.ireturn, 1) := by decide +kernel
theorem dX7_say_46 : decode cX7_say 46 = .ok (.aload_n 0, 1) := by decide +kernel
theorem dX7_say_47 : decode cX7_say 47 = .ok (.invokevirtual 188, 3) := by decide +kernel
theorem dX7_say_50 : decode cX7_say 50 = .ok (.iload_n 1, 1) := by decide +kernel
theorem dX7_say_51 : decode cX7_say 51 = .ok (.iload_n 2, 1) := by decide +kernel
theorem dX7_say_52 : decode cX7_say 52 = .ok (.iload_n 3, 1) := by decide +kernel
theorem dX7_say_53 : decode cX7_say 53 = .ok (.iload 4, 2) := by decide +kernel
theorem dX7_say_55 : decode cX7_say 55 = .ok (.invokevirtual 220, 3) := by decide +kernel
theorem dX7_say_58 : decode cX7_say 58 = .ok (.ireturn, 1) := by decide +kernel
theorem dX7_round_0 : decode cX7_round 0 = .ok (.aload_n 0, 1) := by decide +kernel
theorem dX7_round_1 : decode cX7_round 1 = .ok (.getfield 26, 3) := by decide +kernel
theorem dX7_round_4 : decode cX7_round 4 = .ok (.iload_n 1, 1) := by decide +kernel
theorem dX7_round_5 : decode cX7_round 5 = .ok (.invokevirtual 156, 3) := by decide +kernel
theorem dX7_round_8 : decode cX7_round 8 = .ok (.ifCond .eq 16, 3) := by decide +kernel
theorem dX7_round_11 : decode cX7_round 11 = .ok (.aload_n 0, 1) := by decide +kernel
theorem dX7_round_12 : decode cX7_round 12 = .ok (.invokevirtual 188, 3) := by decide +kernel
theorem dX7_round_15 : decode cX7_round 15 = .ok (.iload_n 1, 1) := by decide +kernel
theorem dX7_round_16 : decode cX7_round 16 = .ok (.bipush 60, 2) := by decide +kernel
theorem dX7_round_18 : decode cX7_round 18 = .ok (.invokevirtual 224, 3) := by decide +kernel
theorem dX7_round_21 : decode cX7_round 21 = .ok (.goto 5, 3) := by decide +kernel
theorem dX7_round_24 : decode cX7_round 24 = .ok (.ldc 71, 2) := by decide +kernel
theorem dX7_round_26 : decode cX7_round 26 = .ok (.ireturn, 1) := by decide +kernel
theorem dX7_way_0 : decode cX7_way 0 = .ok (.aload_n 0, 1) := by decide +kernel
theorem dX7_way_1 : decode cX7_way 1 = .ok (.getfield 26, 3) := by decide +kernel
theorem dX7_way_4 : decode cX7_way 4 = .ok (.iload_n 1, 1) := by decide +kernel
theorem dX7_way_5 : decode cX7_way 5 = .ok (.invokevirtual 156, 3) := by decide +kernel
theorem dX7_way_8 : decode cX7_way 8 = .ok (.ifCond .eq 14, 3) := by decide +kernel
theorem dX7_way_11 : decode cX7_way 11 = .ok (.aload_n 0, 1) := by decide +kernel
theorem dX7_way_12 : decode cX7_way 12 = .ok (.getfield 26, 3) := by decide +kernel
theorem dX7_way_15 : decode cX7_way 15 = .ok (.iload_n 2, 1) := by decide +kernel
theorem dX7_way_16 : decode cX7_way 16 = .ok (.invokevirtual 156, 3) := by decide +kernel
theorem dX7_way_19 : decode cX7_way 19 = .ok (.ifCond .ne 6, 3) := by decide +kernel
theorem dX7_way_22 : decode cX7_way 22 = .ok (.ldc 71, 2) := by decide +kernel
theorem dX7_way_24 : decode cX7_way 24 = .ok (.ireturn, 1) := by decide +kernel
theorem dX7_way_25 : decode cX7_way 25 = .ok (.aload_n 0, 1) := by decide +kernel
theorem dX7_way_26 : decode cX7_way 26 = .ok (.invokevirtual 188, 3) := by decide +kernel
theorem dX7_way_29 : decode cX7_way 29 = .ok (.iload_n 1, 1) := by decide +kernel
theorem dX7_way_30 : decode cX7_way 30 = .ok (.iload_n 2, 1) := by decide +kernel
theorem dX7_way_31 : decode cX7_way 31 = .ok (.invokevirtual 227, 3) := by decide +kernel
theorem dX7_way_34 : decode cX7_way 34 = .ok (.ireturn, 1) := by decide +kernel
theorem dX7_who_0 : decode cX7_who 0 = .ok (.aload_n 0, 1) := by decide +kernel
theorem dX7_who_1 : decode cX7_who 1 = .ok (.getfield 26, 3) := by decide +kernel
theorem dX7_who_4 : decode cX7_who 4 = .ok (.iload_n 1, 1) := by decide +kernel
theorem dX7_who_5 : decode cX7_who 5 = .ok (.invokevirtual 162, 3) := by decide +kernel
theorem dX7_who_8 : decode cX7_who 8 = .ok (.ifCond .eq 42, 3) := by decide +kernel
theorem dX7_who_11 : decode cX7_who 11 = .ok (.iload_n 2, 1) := by decide +kernel
theorem dX7_who_12 : decode cX7_who 12 = .ok (.iconst 0, 1) := by decide +kernel
theorem dX7_who_13 : decode cX7_who 13 = .ok (.iconst 2, 1) := by decide +kernel
theorem dX7_who_14 : decode cX7_who 14 = .ok (.invokestatic 67, 3) := by decide +kernel
theorem dX7_who_17 : decode cX7_who 17 = .ok (.ifCond .eq 33, 3) := by decide +kernel
theorem dX7_who_20 : decode cX7_who 20 = .ok (.aload_n 0, 1) := by decide +kernel
theorem dX7_who_21 : decode cX7_who 21 = .ok (.getfield 26, 3) := by decide +kernel
theorem dX7_who_24 : decode cX7_who 24 = .ok (.iload_n 3, 1) := by decide +kernel
theorem dX7_who_25 : decode cX7_who 25 = .ok (.invokevirtual 156, 3) := by decide +kernel
theorem dX7_who_28 : decode cX7_who 28 = .ok (.ifCond .eq 22, 3) := by decide +kernel
theorem dX7_who_31 : decode cX7_who 31 = .ok (.iload 4, 2) := by decide +kernel
theorem dX7_who_33 : decode cX7_who 33 = .ok (.invokestatic 63, 3) := by decide +kernel
theorem dX7_who_36 : decode cX7_who 36 = .ok (.ifCond .eq 14, 3) := by decide +kernel
theorem dX7_who_39 : decode cX7_who 39 = .ok (.iload 6, 2) := by decide +kernel
theorem dX7_who_41 : decode cX7_who 41 = .ok (.iconst 1, 1) := by decide +kernel
theorem dX7_who_42 : decode cX7_who 42 = .ok (.bipush 12, 2) := by decide +kernel
theorem dX7_who_44 : decode cX7_who 44 = .ok (.invokestatic 67, 3) := by decide +kernel
theorem dX7_who_47 : decode cX7_who 47 = .ok (.ifCond .ne 6, 3) := by decide +kernel
theorem dX7_who_50 : decode cX7_who 50 = .ok (.ldc 71, 2) := by decide +kernel
theorem dX7_who_52 : decode cX7_who 52 = .ok (.ireturn, 1) := by decide +kernel
theorem dX7_who_53 : decode cX7_who 53 = .ok (.aload_n 0, 1) := by decide +kernel
theorem dX7_who_54 : decode cX7_who 54 = .ok (.getfield 10, 3) := by decide +kernel
theorem dX7_who_57 : decode cX7_who 57 = .ok (.iload 4, 2) := by decide +kernel
theorem dX7_who_59 : decode cX7_who 59 = .ok (.invokevirtual 83, 3) := by decide +kernel
theorem dX7_who_62 : decode cX7_who 62 = .ok (.ifCond .eq 9, 3) := by decide +kernel
theorem dX7_who_65 : decode cX7_who 65 = .ok (.aload_n 0, 1) := by decide +kernel
theorem dX7_who_66 : decode cX7_who 66 = .ok (.iconst 1, 1) := by decide +kernel
theorem dX7_who_67 : decode cX7_who 67 = .ok (.invokevirtual 72, 3) := by decide +kernel
theorem dX7_who_70 : decode cX7_who 70 = .ok (.ireturn, 1) := by decide +kernel
theorem dX7_who_71 : decode cX7_who 71 = .ok (.aload_n 0, 1) := by decide +kernel
theorem dX7_who_72 : decode cX7_who 72 = .ok (.getfield 10, 3) := by decide +kernel
theorem dX7_who_75 : decode cX7_who 75 = .ok (.iload 4, 2) := by decide +kernel
theorem dX7_who_77 : decode cX7_who 77 = .ok (.iload 5, 2) := by decide +kernel
theorem dX7_who_79 : decode cX7_who 79 = .ok (.iload 6, 2) := by decide +kernel
theorem dX7_who_81 : decode cX7_who 81 = .ok (.invokevirtual 86, 3) := by decide +kernel
theorem dX7_who_84 : decode cX7_who 84 = .ok (.ifCond .ne 9, 3) := by decide +kernel
theorem dX7_who_87 : decode cX7_who 87 = .ok (.aload_n 0, 1) := by decide +kernel
theorem dX7_who_88 : decode cX7_who 88 = .ok (.iconst 2, 1) := by decide +kernel
theorem dX7_who_89 : decode cX7_who 89 = .ok (.invokevirtual 72, 3) := by decide +kernel
theorem dX7_who_92 : decode cX7_who 92 = .ok (.ireturn, 1) := by decide +kernel
theorem dX7_who_93 : decode cX7_who 93 = .ok (.aload_n 0, 1) := by decide +kernel
theorem dX7_who_94 : decode cX7_who 94 = .ok (.aload_n 0, 1) := by decide +kernel
theorem dX7_who_95 : decode cX7_who 95 = .ok (.invokevirtual 188, 3) := by decide +kernel
theorem dX7_who_98 : decode cX7_who 98 = .ok (.iload_n 1, 1) := by decide +kernel
theorem dX7_who_99 : decode cX7_who 99 = .ok (.iload_n 2, 1) := by decide +kernel
theorem dX7_who_100 : decode cX7_who 100 = .ok (.iload_n 3, 1) := by decide +kernel
theorem dX7_who_101 : decode cX7_who 101 = .ok (.aload_n 0, 1) := by decide +kernel
theorem dX7_who_102 : decode cX7_who 102 = .ok (.getfield 10, 3) := by decide +kernel
theorem dX7_who_105 : decode cX7_who 105 = .ok (.getfield 97, 3) := by decide +kernel
theorem dX7_who_108 : decode cX7_who 108 = .ok (.iload 4, 2) := by decide +kernel
theorem dX7_who_110 : decode cX7_who 110 = .ok (.aaload, 1) := by decide +kernel
theorem dX7_who_111 : decode cX7_who 111 = .ok (.iload 5, 2) := by decide +kernel
theorem dX7_who_113 : decode cX7_who 113 = .ok (.iload 6, 2) := by decide +kernel
theorem dX7_who_115 : decode cX7_who 115 = .ok (.invokevirtual 230, 3) := by decide +kernel
theorem dX7_who_118 : decode cX7_who 118 = .ok (.invokevirtual 80, 3) := by decide +kernel
theorem dX7_who_121 : decode cX7_who 121 = .ok (.ireturn, 1) := by decide +kernel
theorem dX7_spoke_0 : decode cX7_spoke 0 = .ok (.aload_n 0, 1) := by decide +kernel
theorem dX7_spoke_1 : decode cX7_spoke 1 = .ok (.getfield 26, 3) := by decide +kernel
theorem dX7_spoke_4 : decode cX7_spoke 4 = .ok (.iload_n 1, 1) := by decide +kernel
theorem dX7_spoke_5 : decode cX7_spoke 5 = .ok (.invokevirtual 156, 3) := by decide +kernel
theorem dX7_spoke_8 : decode cX7_spoke 8 = .ok (.ifCond .eq 31, 3) := by decide +kernel
theorem dX7_spoke_11 : decode cX7_spoke 11 = .ok (.iload_n 2, 1) := by decide +kernel
theorem dX7_spoke_12 : decode cX7_spoke 12 = .ok (.iconst 0, 1) := by decide +kernel
theorem dX7_spoke_13 : decode cX7_spoke 13 = .ok (.bipush 9, 2) := by decide +kernel
theorem dX7_spoke_15 : decode cX7_spoke 15 = .ok (.invokestatic 67, 3) := by decide +kernel
theorem dX7_spoke_18 : decode cX7_spoke 18 = .ok (.ifCond .eq 21, 3) := by decide +kernel
theorem dX7_spoke_21 : decode cX7_spoke 21 = .ok (.iload_n 3, 1) := by decide +kernel
theorem dX7_spoke_22 : decode cX7_spoke 22 = .ok (.invokestatic 63, 3) := by decide +kernel
theorem dX7_spoke_25 : decode cX7_spoke 25 = .ok (.ifCond .eq 14, 3) := by decide +kernel
theorem dX7_spoke_28 : decode cX7_spoke 28 = .ok (.iload 5, 2) := by decide +kernel
theorem dX7_spoke_30 : decode cX7_spoke 30 = .ok (.iconst 1, 1) := by decide +kernel
theorem dX7_spoke_31 : decode cX7_spoke 31 = .ok (.bipush 12, 2) := by decide +kernel
theorem dX7_spoke_33 : decode cX7_spoke 33 = .ok (.invokestatic 67, 3) := by decide +kernel
theorem dX7_spoke_36 : decode cX7_spoke 36 = .ok (.ifCond .ne 6, 3) := by decide +kernel
theorem dX7_spoke_39 : decode cX7_spoke 39 = .ok (.ldc 71, 2) := by decide +kernel
theorem dX7_spoke_41 : decode cX7_spoke 41 = .ok (.ireturn, 1) := by decide +kernel
theorem dX7_spoke_42 : decode cX7_spoke 42 = .ok (.aload_n 0, 1) := by decide +kernel
theorem dX7_spoke_43 : decode cX7_spoke 43 = .ok (.getfield 10, 3) := by decide +kernel
theorem dX7_spoke_46 : decode cX7_spoke 46 = .ok (.iload_n 3, 1) := by decide +kernel
theorem dX7_spoke_47 : decode cX7_spoke 47 = .ok (.invokevirtual 83, 3) := by decide +kernel
theorem dX7_spoke_50 : decode cX7_spoke 50 = .ok (.ifCond .eq 9, 3) := by decide +kernel
theorem dX7_spoke_53 : decode cX7_spoke 53 = .ok (.aload_n 0, 1) := by decide +kernel
theorem dX7_spoke_54 : decode cX7_spoke 54 = .ok (.iconst 1, 1) := by decide +kernel
theorem dX7_spoke_55 : decode cX7_spoke 55 = .ok (.invokevirtual 72, 3) := by decide +kernel
theorem dX7_spoke_58 : decode cX7_spoke 58 = .ok (.ireturn, 1) := by decide +kernel
theorem dX7_spoke_59 : decode cX7_spoke 59 = .ok (.aload_n 0, 1) := by decide +kernel
theorem dX7_spoke_60 : decode cX7_spoke 60 = .ok (.getfield 10, 3) := by decide +kernel
theorem dX7_spoke_63 : decode cX7_spoke 63 = .ok (.iload_n 3, 1) := by decide +kernel
theorem dX7_spoke_64 : decode cX7_spoke 64 = .ok (.iload 4, 2) := by decide +kernel
theorem dX7_spoke_66 : decode cX7_spoke 66 = .ok (.iload 5, 2) := by decide +kernel
theorem dX7_spoke_68 : decode cX7_spoke 68 = .ok (.invokevirtual 86, 3) := by decide +kernel
theorem dX7_spoke_71 : decode cX7_spoke 71 = .ok (.ifCond .ne 9, 3) := by decide +kernel
theorem dX7_spoke_74 : decode cX7_spoke 74 = .ok (.aload_n 0, 1) := by decide +kernel
theorem dX7_spoke_75 : decode cX7_spoke 75 = .ok (.iconst 2, 1) := by decide +kernel
theorem dX7_spoke_76 : decode cX7_spoke 76 = .ok (.invokevirtual 72, 3) := by decide +kernel
theorem dX7_spoke_79 : decode cX7_spoke 79 = .ok (.ireturn, 1) := by decide +kernel
theorem dX7_spoke_80 : decode cX7_spoke 80 = .ok (.aload_n 0, 1) := by decide +kernel
theorem dX7_spoke_81 : decode cX7_spoke 81 = .ok (.aload_n 0, 1) := by decide +kernel
theorem dX7_spoke_82 : decode cX7_spoke 82 = .ok (.invokevirtual 188, 3) := by decide +kernel
theorem dX7_spoke_85 : decode cX7_spoke 85 = .ok (.iload_n 1, 1) := by decide +kernel
theorem dX7_spoke_86 : decode cX7_spoke 86 = .ok (.iload_n 2, 1) := by decide +kernel
theorem dX7_spoke_87 : decode cX7_spoke 87 = .ok (.aload_n 0, 1) := by decide +kernel
theorem dX7_spoke_88 : decode cX7_spoke 88 = .ok (.getfield 10, 3) := by decide +kernel
theorem dX7_spoke_91 : decode cX7_spoke 91 = .ok (.getfield 97, 3) := by decide +kernel
theorem dX7_spoke_94 : decode cX7_spoke 94 = .ok (.iload_n 3, 1) := by decide +kernel
theorem dX7_spoke_95 : decode cX7_spoke 95 = .ok (.aaload, 1) := by decide +kernel
theorem dX7_spoke_96 : decode cX7_spoke 96 = .ok (.iload 4, 2) := by decide +kernel
theorem dX7_spoke_98 : decode cX7_spoke 98 = .ok (.iload 5, 2) := by decide +kernel
theorem dX7_spoke_100 : decode cX7_spoke 100 = .ok (.invokevirtual 234, 3) := by decide +kernel
theorem dX7_spoke_103 : decode cX7_spoke 103 = .ok (.invokevirtual 80, 3) := by decide +kernel
theorem dX7_spoke_106 : decode cX7_spoke 106 = .ok (.ireturn, 1) := by decide +kernel
theorem dX7_cold_0 : decode cX7_cold 0 = .ok (.aload_n 0, 1) := by decide +kernel
theorem dX7_cold_1 : decode cX7_cold 1 = .ok (.getfield 26, 3) := by decide +kernel
theorem dX7_cold_4 : decode cX7_cold 4 = .ok (.invokevirtual 145, 3) := by decide +kernel
theorem dX7_cold_7 : decode cX7_cold 7 = .ok (.ifCond .ne 6, 3) := by decide +kernel
theorem dX7_cold_10 : decode cX7_cold 10 = .ok (.ldc 140, 2) := by decide +kernel
theorem dX7_cold_12 : decode cX7_cold 12 = .ok (.ireturn, 1) := by decide +kernel
theorem dX7_cold_13 : decode cX7_cold 13 = .ok (.iload_n 1, 1) := by decide +kernel
theorem dX7_cold_14 : decode cX7_cold 14 = .ok (.iconst 1, 1) := by decide +kernel
theorem dX7_cold_15 : decode cX7_cold 15 = .ok (.bipush 60, 2) := by decide +kernel
theorem dX7_cold_17 : decode cX7_cold 17 = .ok (.invokestatic 67, 3) := by decide +kernel
theorem dX7_cold_20 : decode cX7_cold 20 = .ok (.ifCond .eq 14, 3) := by decide +kernel
theorem dX7_cold_23 : decode cX7_cold 23 = .ok (.aload_n 0, 1) := by decide +kernel
theorem dX7_cold_24 : decode cX7_cold 24 = .ok (.invokevirtual 188, 3) := by decide +kernel
theorem dX7_cold_27 : decode cX7_cold 27 = .ok (.iload_n 1, 1) := by decide +kernel
theorem dX7_cold_28 : decode cX7_cold 28 = .ok (.invokevirtual 238, 3) := by decide +kernel
theorem dX7_cold_31 : decode cX7_cold 31 = .ok (.goto 5, 3) := by decide +kernel
theorem dX7_cold_34 : decode cX7_cold 34 = .ok (.ldc 71, 2) := by decide +kernel
theorem dX7_cold_36 : decode cX7_cold 36 = .ok (.ireturn, 1) := by decide +kernel
theorem dX7_stuck_0 : decode cX7_stuck 0 = .ok (.aload_n 0, 1) := by decide +kernel
theorem dX7_stuck_1 : decode cX7_stuck 1 = .ok (.getfield 26, 3) := by decide +kernel
theorem dX7_stuck_4 : decode cX7_stuck 4 = .ok (.iload_n 1, 1) := by decide +kernel
theorem dX7_stuck_5 : decode cX7_stuck 5 = .ok (.invokevirtual 156, 3) := by decide +kernel
theorem dX7_stuck_8 : decode cX7_stuck 8 = .ok (.ifCond .eq 33, 3) := by decide +kernel
theorem dX7_stuck_11 : decode cX7_stuck 11 = .ok (.iload_n 2, 1) := by decide +kernel
theorem dX7_stuck_12 : decode cX7_stuck 12 = .ok (.iconst 1, 1) := by decide +kernel
theorem dX7_stuck_13 : decode cX7_stuck 13 = .ok (.bipush 30, 2) := by decide +kernel
theorem dX7_stuck_15 : decode cX7_stuck 15 = .ok (.invokestatic 67, 3) := by decide +kernel
theorem dX7_stuck_18 : decode cX7_stuck 18 = .ok (.ifCond .eq 23, 3) := by decide +kernel
theorem dX7_stuck_21 : decode cX7_stuck 21 = .ok (.iload_n 3, 1) := by decide +kernel
theorem dX7_stuck_22 : decode cX7_stuck 22 = .ok (.iconst 0, 1) := by decide +kernel
theorem dX7_stuck_23 : decode cX7_stuck 23 = .ok (.bipush 10, 2) := by decide +kernel
theorem dX7_stuck_25 : decode cX7_stuck 25 = .ok (.invokestatic 67, 3) := by decide +kernel
theorem dX7_stuck_28 : decode cX7_stuck 28 = .ok (.ifCond .eq 13, 3) := by decide +kernel
theorem dX7_stuck_31 : decode cX7_stuck 31 = .ok (.iload 4, 2) := by decide +kernel
theorem dX7_stuck_33 : decode cX7_stuck 33 = .ok (.iconst 0, 1) := by decide +kernel
theorem dX7_stuck_34 : decode cX7_stuck 34 = .ok (.iconst 1, 1) := by decide +kernel
theorem dX7_stuck_35 : decode cX7_stuck 35 = .ok (.invokestatic 67, 3) := by decide +kernel
theorem dX7_stuck_38 : decode cX7_stuck 38 = .ok (.ifCond .ne 7, 3) := by decide +kernel
theorem dX7_stuck_41 : decode cX7_stuck 41 = .ok (.ldc2_w 241, 3) := by decide +kernel
theorem dX7_stuck_44 : decode cX7_stuck 44 = .ok (.lreturn, 1) := by decide +kernel
theorem dX7_stuck_45 : decode cX7_stuck 45 = .ok (.aload_n 0, 1) := by decide +kernel
theorem dX7_stuck_46 : decode cX7_stuck 46 = .ok (.invokevirtual 188, 3) := by decide +kernel
theorem dX7_stuck_49 : decode cX7_stuck 49 = .ok (.iload_n 1, 1) := by decide +kernel
theorem dX7_stuck_50 : decode cX7_stuck 50 = .ok (.iload_n 2, 1) := by decide +kernel
theorem dX7_stuck_51 : decode cX7_stuck 51 = .ok (.iload_n 3, 1) := by decide +kernel
theorem dX7_stuck_52 : decode cX7_stuck 52 = .ok (.iload 4, 2) := by decide +kernel
theorem dX7_stuck_54 : decode cX7_stuck 54 = .ok (.ifCond .ne 7, 3) := by decide +kernel
theorem dX7_stuck_57 : decode cX7_stuck 57 = .ok (.iconst 1, 1) := by decide +kernel
theorem dX7_stuck_58 : decode cX7_stuck 58 = .ok (.goto 4, 3) := by decide +kernel
theorem dX7_stuck_61 : decode cX7_stuck 61 = .ok (.iconst 0, 1) := by decide +kernel
theorem dX7_stuck_62 : decode cX7_stuck 62 = .ok (.invokevirtual 243, 3) := by decide +kernel
theorem dX7_stuck_65 : decode cX7_stuck 65 = .ok (.lreturn, 1) := by decide +kernel
theorem dX7_drawn_0 : decode cX7_drawn 0 = .ok (.aload_n 0, 1) := by decide +kernel
theorem dX7_drawn_1 : decode cX7_drawn 1 = .ok (.getfield 26, 3) := by decide +kernel
theorem dX7_drawn_4 : decode cX7_drawn 4 = .ok (.invokevirtual 145, 3) := by decide +kernel
theorem dX7_drawn_7 : decode cX7_drawn 7 = .ok (.ifCond .ne 6, 3) := by decide +kernel
theorem dX7_drawn_10 : decode cX7_drawn 10 = .ok (.ldc 140, 2) := by decide +kernel
theorem dX7_drawn_12 : decode cX7_drawn 12 = .ok (.ireturn, 1) := by decide +kernel
theorem dX7_drawn_13 : decode cX7_drawn 13 = .ok (.iload_n 1, 1) := by decide +kernel
theorem dX7_drawn_14 : decode cX7_drawn 14 = .ok (.iconst 0, 1) := by decide +kernel
theorem dX7_drawn_15 : decode cX7_drawn 15 = .ok (.bipush 60, 2) := by decide +kernel
theorem dX7_drawn_17 : decode cX7_drawn 17 = .ok (.invokestatic 67, 3) := by decide +kernel
theorem dX7_drawn_20 : decode cX7_drawn 20 = .ok (.ifCond .eq 22, 3) := by decide +kernel
theorem dX7_drawn_23 : decode cX7_drawn 23 = .ok (.iload_n 2, 1) := by decide +kernel
theorem dX7_drawn_24 : decode cX7_drawn 24 = .ok (.iconst 1, 1) := by decide +kernel
theorem dX7_drawn_25 : decode cX7_drawn 25 = .ok (.ldc 247, 2) := by decide +kernel
theorem dX7_drawn_27 : decode cX7_drawn 27 = .ok (.invokestatic 67, 3) := by decide +kernel
theorem dX7_drawn_30 : decode cX7_drawn 30 = .ok (.ifCond .eq 12, 3) := by decide +kernel
theorem dX7_drawn_33 : decode cX7_drawn 33 = .ok (.iload_n 3, 1) := by decide +kernel
theorem dX7_drawn_34 : decode cX7_drawn 34 = .ok (.iconst 0, 1) := by decide +kernel
theorem dX7_drawn_35 : decode cX7_drawn 35 = .ok (.iconst 1, 1) := by decide +kernel
theorem dX7_drawn_36 : decode cX7_drawn 36 = .ok (.invokestatic 67, 3) := by decide +kernel
theorem dX7_drawn_39 : decode cX7_drawn 39 = .ok (.ifCond .ne 6, 3) := by decide +kernel
theorem dX7_drawn_42 : decode cX7_drawn 42 = .ok (.ldc 71, 2) := by decide +kernel
theorem dX7_drawn_44 : decode cX7_drawn 44 = .ok (.ireturn, 1) := by decide +kernel
theorem dX7_drawn_45 : decode cX7_drawn 45 = .ok (.aload_n 0, 1) := by decide +kernel
theorem dX7_drawn_46 : decode cX7_drawn 46 = .ok (.invokevirtual 188, 3) := by decide +kernel
theorem dX7_drawn_49 : decode cX7_drawn 49 = .ok (.iload_n 1, 1) := by decide +kernel
theorem dX7_drawn_50 : decode cX7_drawn 50 = .ok (.iload_n 2, 1) := by decide +kernel
theorem dX7_drawn_51 : decode cX7_drawn 51 = .ok (.iload_n 3, 1) := by decide +kernel
theorem dX7_drawn_52 : decode cX7_drawn 52 = .ok (.ifCond .ne 7, 3) := by decide +kernel
theorem dX7_drawn_55 : decode cX7_drawn 55 = .ok (.iconst 1, 1) := by decide +kernel
theorem dX7_drawn_56 : decode cX7_drawn 56 = .ok (.goto 4, 3) := by decide +kernel
theorem dX7_drawn_59 : decode cX7_drawn 59 = .ok (.iconst 0, 1) := by decide +kernel
theorem dX7_drawn_60 : decode cX7_drawn 60 = .ok (.invokevirtual 248, 3) := by decide +kernel
theorem dX7_drawn_63 : decode cX7_drawn 63 = .ok (.ireturn, 1) := by decide +kernel
theorem dX7_image_0 : decode cX7_image 0 = .ok (.iload_n 1, 1) := by decide +kernel
theorem dX7_image_1 : decode cX7_image 1 = .ok (.iconst 0, 1) := by decide +kernel
theorem dX7_image_2 : decode cX7_image 2 = .ok (.iconst 1, 1) := by decide +kernel
theorem dX7_image_3 : decode cX7_image 3 = .ok (.invokestatic 67, 3) := by decide +kernel
theorem dX7_image_6 : decode cX7_image 6 = .ok (.ifCond .ne 6, 3) := by decide +kernel
theorem dX7_image_9 : decode cX7_image 9 = .ok (.ldc 71, 2) := by decide +kernel
theorem dX7_image_11 : decode cX7_image 11 = .ok (.ireturn, 1) := by decide +kernel
theorem dX7_image_12 : decode cX7_image 12 = .ok (.aload_n 0, 1) := by decide +kernel
theorem dX7_image_13 : decode cX7_image 13 = .ok (.getfield 26, 3) := by decide +kernel
theorem dX7_image_16 : decode cX7_image 16 = .ok (.invokevirtual 145, 3) := by decide +kernel
theorem dX7_image_19 : decode cX7_image 19 = .ok (.ifCond .ne 6, 3) := by decide +kernel
theorem dX7_image_22 : decode cX7_image 22 = .ok (.ldc 140, 2) := by decide +kernel
theorem dX7_image_24 : decode cX7_image 24 = .ok (.ireturn, 1) := by decide +kernel
theorem dX7_image_25 : decode cX7_image 25 = .ok (.aload_n 0, 1) := by decide +kernel
theorem dX7_image_26 : decode cX7_image 26 = .ok (.getfield 26, 3) := by decide +kernel
theorem dX7_image_29 : decode cX7_image 29 = .ok (.getfield 124, 3) := by decide +kernel
theorem dX7_image_32 : decode cX7_image 32 = .ok (.iconst 0, 1) := by decide +kernel
theorem dX7_image_33 : decode cX7_image 33 = .ok (.aload_n 0, 1) := by decide +kernel
theorem dX7_image_34 : decode cX7_image 34 = .ok (.getfield 56, 3) := by decide +kernel
theorem dX7_image_37 : decode cX7_image 37 = .ok (.iload_n 1, 1) := by decide +kernel
theorem dX7_image_38 : decode cX7_image 38 = .ok (.aaload, 1) := by decide +kernel
theorem dX7_image_39 : decode cX7_image 39 = .ok (.iconst 0, 1) := by decide +kernel
theorem dX7_image_40 : decode cX7_image 40 = .ok (.bipush 80, 2) := by decide +kernel
theorem dX7_image_42 : decode cX7_image 42 = .ok (.invokestatic 100, 3) := by decide +kernel
theorem dX7_image_45 : decode cX7_image 45 = .ok (.iconst 1, 1) := by decide +kernel
theorem dX7_image_46 : decode cX7_image 46 = .ok (.ireturn, 1) := by decide +kernel
theorem dX7_restore_0 : decode cX7_restore 0 = .ok (.iload_n 1, 1) := by decide +kernel
theorem dX7_restore_1 : decode cX7_restore 1 = .ok (.iconst 0, 1) := by decide +kernel
theorem dX7_restore_2 : decode cX7_restore 2 = .ok (.iconst 1, 1) := by decide +kernel
theorem dX7_restore_3 : decode cX7_restore 3 = .ok (.invokestatic 67, 3) := by decide +kernel
theorem dX7_restore_6 : decode cX7_restore 6 = .ok (.ifCond .ne 6, 3) := by decide +kernel
theorem dX7_restore_9 : decode cX7_restore 9 = .ok (.ldc 71, 2) := by decide +kernel
theorem dX7_restore_11 : decode cX7_restore 11 = .ok (.ireturn, 1) := by decide +kernel
theorem dX7_restore_12 : decode cX7_restore 12 = .ok (.aload_n 0, 1) := by decide +kernel
theorem dX7_restore_13 : decode cX7_restore 13 = .ok (.getfield 56, 3) := by decide +kernel
theorem dX7_restore_16 : decode cX7_restore 16 = .ok (.iload_n 1, 1) := by decide +kernel
theorem dX7_restore_17 : decode cX7_restore 17 = .ok (.aaload, 1) := by decide +kernel
theorem dX7_restore_18 : decode cX7_restore 18 = .ok (.iconst 0, 1) := by decide +kernel
theorem dX7_restore_19 : decode cX7_restore 19 = .ok (.iaload, 1) := by decide +kernel
theorem dX7_restore_20 : decode cX7_restore 20 = .ok (.ifCond .ne 6, 3) := by decide +kernel
theorem dX7_restore_23 : decode cX7_restore 23 = .ok (.ldc 140, 2) := by decide +kernel
theorem dX7_restore_25 : decode cX7_restore 25 = .ok (.ireturn, 1) := by decide +kernel
theorem dX7_restore_26 : decode cX7_restore 26 = .ok (.aload_n 0, 1) := by decide +kernel
theorem dX7_restore_27 : decode cX7_restore 27 = .ok (.getfield 26, 3) := by decide +kernel
theorem dX7_restore_30 : decode cX7_restore 30 = .ok (.aload_n 0, 1) := by decide +kernel
theorem dX7_restore_31 : decode cX7_restore 31 = .ok (.getfield 56, 3) := by decide +kernel
theorem dX7_restore_34 : decode cX7_restore 34 = .ok (.iload_n 1, 1) := by decide +kernel
theorem dX7_restore_35 : decode cX7_restore 35 = .ok (.aaload, 1) := by decide +kernel
theorem dX7_restore_36 : decode cX7_restore 36 = .ok (.invokevirtual 127, 3) := by decide +kernel
theorem dX7_restore_39 : decode cX7_restore 39 = .ok (.aload_n 0, 1) := by decide +kernel
theorem dX7_restore_40 : decode cX7_restore 40 = .ok (.getfield 36, 3) := by decide +kernel
theorem dX7_restore_43 : decode cX7_restore 43 = .ok (.invokevirtual 131, 3) := by decide +kernel
theorem dX7_restore_46 : decode cX7_restore 46 = .ok (.iconst 1, 1) := by decide +kernel
theorem dX7_restore_47 : decode cX7_restore 47 = .ok (.ireturn, 1) := by decide +kernel
theorem dX7_kind_0 : decode cX7_kind 0 = .ok (.aload_n 0, 1) := by decide +kernel
theorem dX7_kind_1 : decode cX7_kind 1 = .ok (.getfield 26, 3) := by decide +kernel
theorem dX7_kind_4 : decode cX7_kind 4 = .ok (.iload_n 1, 1) := by decide +kernel
theorem dX7_kind_5 : decode cX7_kind 5 = .ok (.invokevirtual 162, 3) := by decide +kernel
theorem dX7_kind_8 : decode cX7_kind 8 = .ok (.ifCond .eq 17, 3) := by decide +kernel
theorem dX7_kind_11 : decode cX7_kind 11 = .ok (.aload_n 0, 1) := by decide +kernel
theorem dX7_kind_12 : decode cX7_kind 12 = .ok (.getfield 26, 3) := by decide +kernel
theorem dX7_kind_15 : decode cX7_kind 15 = .ok (.getfield 124, 3) := by decide +kernel
theorem dX7_kind_18 : decode cX7_kind 18 = .ok (.iconst 5, 1) := by decide +kernel
theorem dX7_kind_19 : decode cX7_kind 19 = .ok (.iload_n 1, 1) := by decide +kernel
theorem dX7_kind_20 : decode cX7_kind 20 = .ok (.iadd, 1) := by decide +kernel
theorem dX7_kind_21 : decode cX7_kind 21 = .ok (.iaload, 1) := by decide +kernel
theorem dX7_kind_22 : decode cX7_kind 22 = .ok (.goto 5, 3) := by decide +kernel
theorem dX7_kind_25 : decode cX7_kind 25 = .ok (.ldc 71, 2) := by decide +kernel
theorem dX7_kind_27 : decode cX7_kind 27 = .ok (.ireturn, 1) := by decide +kernel
theorem dX7_as_0 : decode cX7_as 0 = .ok (.aload_n 0, 1) := by decide +kernel
theorem dX7_as_1 : decode cX7_as 1 = .ok (.getfield 26, 3) := by decide +kernel
theorem dX7_as_4 : decode cX7_as 4 = .ok (.iload_n 1, 1) := by decide +kernel
theorem dX7_as_5 : decode cX7_as 5 = .ok (.invokevirtual 162, 3) := by decide +kernel
theorem dX7_as_8 : decode cX7_as 8 = .ok (.ifCond .eq 12, 3) := by decide +kernel
theorem dX7_as_11 : decode cX7_as 11 = .ok (.iload_n 2, 1) := by decide +kernel
theorem dX7_as_12 : decode cX7_as 12 = .ok (.iconst 0, 1) := by decide +kernel
theorem dX7_as_13 : decode cX7_as 13 = .ok (.iconst 5, 1) := by decide +kernel
theorem dX7_as_14 : decode cX7_as 14 = .ok (.invokestatic 67, 3) := by decide +kernel
theorem dX7_as_17 : decode cX7_as 17 = .ok (.ifCond .ne 6, 3) := by decide +kernel
theorem dX7_as_20 : decode cX7_as 20 = .ok (.ldc 71, 2) := by decide +kernel
theorem dX7_as_22 : decode cX7_as 22 = .ok (.ireturn, 1) := by decide +kernel
theorem dX7_as_23 : decode cX7_as 23 = .ok (.aload_n 0, 1) := by decide +kernel
theorem dX7_as_24 : decode cX7_as 24 = .ok (.getfield 26, 3) := by decide +kernel
theorem dX7_as_27 : decode cX7_as 27 = .ok (.getfield 124, 3) := by decide +kernel
theorem dX7_as_30 : decode cX7_as 30 = .ok (.iconst 5, 1) := by decide +kernel
theorem dX7_as_31 : decode cX7_as 31 = .ok (.iload_n 1, 1) := by decide +kernel
theorem dX7_as_32 : decode cX7_as 32 = .ok (.iadd, 1) := by decide +kernel
theorem dX7_as_33 : decode cX7_as 33 = .ok (.iaload, 1) := by decide +kernel
theorem dX7_as_34 : decode cX7_as 34 = .ok (.iload_n 2, 1) := by decide +kernel
theorem dX7_as_35 : decode cX7_as 35 = .ok (.invokestatic 254, 3) := by decide +kernel
theorem dX7_as_38 : decode cX7_as 38 = .ok (.ifCond .ne 9, 3) := by decide +kernel
theorem dX7_as_41 : decode cX7_as 41 = .ok (.aload_n 0, 1) := by decide +kernel
theorem dX7_as_42 : decode cX7_as 42 = .ok (.iconst 3, 1) := by decide +kernel
theorem dX7_as_43 : decode cX7_as 43 = .ok (.invokevirtual 72, 3) := by decide +kernel
theorem dX7_as_46 : decode cX7_as 46 = .ok (.ireturn, 1) := by decide +kernel
theorem dX7_as_47 : decode cX7_as 47 = .ok (.aload_n 0, 1) := by decide +kernel
theorem dX7_as_48 : decode cX7_as 48 = .ok (.iload_n 1, 1) := by decide +kernel
theorem dX7_as_49 : decode cX7_as 49 = .ok (.invokevirtual 80, 3) := by decide +kernel
theorem dX7_as_52 : decode cX7_as 52 = .ok (.ireturn, 1) := by decide +kernel
theorem dX7_ask_0 : decode cX7_ask 0 = .ok (.aload_n 0, 1) := by decide +kernel
theorem dX7_ask_1 : decode cX7_ask 1 = .ok (.getfield 26, 3) := by decide +kernel
theorem dX7_ask_4 : decode cX7_ask 4 = .ok (.iload_n 1, 1) := by decide +kernel
theorem dX7_ask_5 : decode cX7_ask 5 = .ok (.invokevirtual 162, 3) := by decide +kernel
theorem dX7_ask_8 : decode cX7_ask 8 = .ok (.ifCond .eq 12, 3) := by decide +kernel
theorem dX7_ask_11 : decode cX7_ask 11 = .ok (.iload_n 2, 1) := by decide +kernel
theorem dX7_ask_12 : decode cX7_ask 12 = .ok (.iconst 0, 1) := by decide +kernel
theorem dX7_ask_13 : decode cX7_ask 13 = .ok (.iconst 1, 1) := by decide +kernel
theorem dX7_ask_14 : decode cX7_ask 14 = .ok (.invokestatic 67, 3) := by decide +kernel
theorem dX7_ask_17 : decode cX7_ask 17 = .ok (.ifCond .ne 6, 3) := by decide +kernel
theorem dX7_ask_20 : decode cX7_ask 20 = .ok (.ldc 71, 2) := by decide +kernel
theorem dX7_ask_22 : decode cX7_ask 22 = .ok (.ireturn, 1) := by decide +kernel
theorem dX7_ask_23 : decode cX7_ask 23 = .ok (.aload_n 0, 1) := by decide +kernel
theorem dX7_ask_24 : decode cX7_ask 24 = .ok (.getfield 50, 3) := by decide +kernel
theorem dX7_ask_27 : decode cX7_ask 27 = .ok (.aload_n 0, 1) := by decide +kernel
theorem dX7_ask_28 : decode cX7_ask 28 = .ok (.getfield 26, 3) := by decide +kernel
theorem dX7_ask_31 : decode cX7_ask 31 = .ok (.iload_n 1, 1) := by decide +kernel
theorem dX7_ask_32 : decode cX7_ask 32 = .ok (.iload_n 2, 1) := by decide +kernel
theorem dX7_ask_33 : decode cX7_ask 33 = .ok (.invokevirtual 258, 3) := by decide +kernel
theorem dX7_ask_36 : decode cX7_ask 36 = .ok (.ireturn, 1) := by decide +kernel
theorem dX7_trace_0 : decode cX7_trace 0 = .ok (.iload_n 1, 1) := by decide +kernel
theorem dX7_trace_1 : decode cX7_trace 1 = .ok (.ifCond .lt 26, 3) := by decide +kernel
theorem dX7_trace_4 : decode cX7_trace 4 = .ok (.iload_n 1, 1) := by decide +kernel
theorem dX7_trace_5 : decode cX7_trace 5 = .ok (.aload_n 0, 1) := by decide +kernel
theorem dX7_trace_6 : decode cX7_trace 6 = .ok (.getfield 50, 3) := by decide +kernel
theorem dX7_trace_9 : decode cX7_trace 9 = .ok (.getfield 262, 3) := by decide +kernel
theorem dX7_trace_12 : decode cX7_trace 12 = .ok (.if_icmp .ge 15, 3) := by decide +kernel
theorem dX7_trace_15 : decode cX7_trace 15 = .ok (.aload_n 0, 1) := by decide +kernel
theorem dX7_trace_16 : decode cX7_trace 16 = .ok (.getfield 50, 3) := by decide +kernel
theorem dX7_trace_19 : decode cX7_trace 19 = .ok (.getfield 265, 3) := by decide +kernel
theorem dX7_trace_22 : decode cX7_trace 22 = .ok (.iload_n 1, 1) := by decide +kernel
theorem dX7_trace_23 : decode cX7_trace 23 = .ok (.iaload, 1) := by decide +kernel
theorem dX7_trace_24 : decode cX7_trace 24 = .ok (.goto 5, 3) := by decide +kernel
theorem dX7_trace_27 : decode cX7_trace 27 = .ok (.ldc 177, 2) := by decide +kernel
theorem dX7_trace_29 : decode cX7_trace 29 = .ok (.ireturn, 1) := by decide +kernel
theorem dX7_count_0 : decode cX7_count 0 = .ok (.iload_n 1, 1) := by decide +kernel
theorem dX7_count_1 : decode cX7_count 1 = .ok (.tableswitch 119 0 7 #[47, 55, 65, 75, 85, 95, 103, 111], 47) := by decide +kernel
theorem dX7_count_48 : decode cX7_count 48 = .ok (.aload_n 0, 1) := by decide +kernel
theorem dX7_count_49 : decode cX7_count 49 = .ok (.getfield 10, 3) := by decide +kernel
theorem dX7_count_52 : decode cX7_count 52 = .ok (.invokevirtual 268, 3) := by decide +kernel
theorem dX7_count_55 : decode cX7_count 55 = .ok (.ireturn, 1) := by decide +kernel
theorem dX7_count_56 : decode cX7_count 56 = .ok (.aload_n 0, 1) := by decide +kernel
theorem dX7_count_57 : decode cX7_count 57 = .ok (.getfield 26, 3) := by decide +kernel
theorem dX7_count_60 : decode cX7_count 60 = .ok (.getfield 124, 3) := by decide +kernel
theorem dX7_count_63 : decode cX7_count 63 = .ok (.iconst 0, 1) := by decide +kernel
theorem dX7_count_64 : decode cX7_count 64 = .ok (.iaload, 1) := by decide +kernel
theorem dX7_count_65 : decode cX7_count 65 = .ok (.ireturn, 1) := by decide +kernel
theorem dX7_count_66 : decode cX7_count 66 = .ok (.aload_n 0, 1) := by decide +kernel
theorem dX7_count_67 : decode cX7_count 67 = .ok (.getfield 26, 3) := by decide +kernel
theorem dX7_count_70 : decode cX7_count 70 = .ok (.getfield 124, 3) := by decide +kernel
theorem dX7_count_73 : decode cX7_count 73 = .ok (.iconst 2, 1) := by decide +kernel
theorem dX7_count_74 : decode cX7_count 74 = .ok (.iaload, 1) := by decide +kernel
theorem dX7_count_75 : decode cX7_count 75 = .ok (.ireturn, 1) := by decide +kernel
theorem dX7_count_76 : decode cX7_count 76 = .ok (.aload_n 0, 1) := by decide +kernel
theorem dX7_count_77 : decode cX7_count 77 = .ok (.getfield 26, 3) := by decide +kernel
theorem dX7_count_80 : decode cX7_count 80 = .ok (.getfield 124, 3) := by decide +kernel
theorem dX7_count_83 : decode cX7_count 83 = .ok (.iconst 4, 1) := by decide +kernel
theorem dX7_count_84 : decode cX7_count 84 = .ok (.iaload, 1) := by decide +kernel
theorem dX7_count_85 : decode cX7_count 85 = .ok (.ireturn, 1) := by decide +kernel
theorem dX7_count_86 : decode cX7_count 86 = .ok (.aload_n 0, 1) := by decide +kernel
theorem dX7_count_87 : decode cX7_count 87 = .ok (.getfield 26, 3) := by decide +kernel
theorem dX7_count_90 : decode cX7_count 90 = .ok (.getfield 124, 3) := by decide +kernel
theorem dX7_count_93 : decode cX7_count 93 = .ok (.iconst 3, 1) := by decide +kernel
theorem dX7_count_94 : decode cX7_count 94 = .ok (.iaload, 1) := by decide +kernel
theorem dX7_count_95 : decode cX7_count 95 = .ok (.ireturn, 1) := by decide +kernel
theorem dX7_count_96 : decode cX7_count 96 = .ok (.aload_n 0, 1) := by decide +kernel
theorem dX7_count_97 : decode cX7_count 97 = .ok (.getfield 26, 3) := by decide +kernel
theorem dX7_count_100 : decode cX7_count 100 = .ok (.invokevirtual 168, 3) := by decide +kernel
theorem dX7_count_103 : decode cX7_count 103 = .ok (.ireturn, 1) := by decide +kernel
theorem dX7_count_104 : decode cX7_count 104 = .ok (.aload_n 0, 1) := by decide +kernel
theorem dX7_count_105 : decode cX7_count 105 = .ok (.getfield 36, 3) := by decide +kernel
theorem dX7_count_108 : decode cX7_count 108 = .ok (.getfield 137, 3) := by decide +kernel
theorem dX7_count_111 : decode cX7_count 111 = .ok (.ireturn, 1) := by decide +kernel
theorem dX7_count_112 : decode cX7_count 112 = .ok (.aload_n 0, 1) := by decide +kernel
theorem dX7_count_113 : decode cX7_count 113 = .ok (.getfield 19, 3) := by decide +kernel
theorem dX7_count_116 : decode cX7_count 116 = .ok (.getfield 112, 3) := by decide +kernel
theorem dX7_count_119 : decode cX7_count 119 = .ok (.ireturn, 1) := by decide +kernel
theorem dX7_count_120 : decode cX7_count 120 = .ok (.ldc 71, 2) := by decide +kernel
theorem dX7_count_122 : decode cX7_count 122 = .ok (.ireturn, 1) := by decide +kernel
theorem dX7_status_0 : decode cX7_status 0 = .ok (.aload_n 0, 1) := by decide +kernel
theorem dX7_status_1 : decode cX7_status 1 = .ok (.getfield 59, 3) := by decide +kernel
theorem dX7_status_4 : decode cX7_status 4 = .ok (.ireturn, 1) := by decide +kernel
theorem dX7_found_0 : decode cX7_found 0 = .ok (.aload_n 0, 1) := by decide +kernel
theorem dX7_found_1 : decode cX7_found 1 = .ok (.iload_n 1, 1) := by decide +kernel
theorem dX7_found_2 : decode cX7_found 2 = .ok (.putfield 59, 3) := by decide +kernel
theorem dX7_found_5 : decode cX7_found 5 = .ok (.ldc_w 271, 3) := by decide +kernel
theorem dX7_found_8 : decode cX7_found 8 = .ok (.iload_n 1, 1) := by decide +kernel
theorem dX7_found_9 : decode cX7_found 9 = .ok (.isub, 1) := by decide +kernel
theorem dX7_found_10 : decode cX7_found 10 = .ok (.ireturn, 1) := by decide +kernel
theorem dX7_unfound_0 : decode cX7_unfound 0 = .ok (.aload_n 0, 1) := by decide +kernel
theorem dX7_unfound_1 : decode cX7_unfound 1 = .ok (.iconst 0, 1) := by decide +kernel
theorem dX7_unfound_2 : decode cX7_unfound 2 = .ok (.putfield 59, 3) := by decide +kernel
theorem dX7_unfound_5 : decode cX7_unfound 5 = .ok (.iload_n 1, 1) := by decide +kernel
theorem dX7_unfound_6 : decode cX7_unfound 6 = .ok (.ireturn, 1) := by decide +kernel
theorem dX7_seen_0 : decode cX7_seen 0 = .ok (.aload_n 0, 1) := by decide +kernel
theorem dX7_seen_1 : decode cX7_seen 1 = .ok (.getfield 43, 3) := by decide +kernel
theorem dX7_seen_4 : decode cX7_seen 4 = .ok (.getfield 272, 3) := by decide +kernel
theorem dX7_seen_7 : decode cX7_seen 7 = .ok (.aload_n 0, 1) := by decide +kernel
theorem dX7_seen_8 : decode cX7_seen 8 = .ok (.getfield 26, 3) := by decide +kernel
theorem dX7_seen_11 : decode cX7_seen 11 = .ok (.getfield 124, 3) := by decide +kernel
theorem dX7_seen_14 : decode cX7_seen 14 = .ok (.invokevirtual 127, 3) := by decide +kernel
theorem dX7_seen_17 : decode cX7_seen 17 = .ok (.aload_n 0, 1) := by decide +kernel
theorem dX7_seen_18 : decode cX7_seen 18 = .ok (.getfield 43, 3) := by decide +kernel
theorem dX7_seen_21 : decode cX7_seen 21 = .ok (.areturn, 1) := by decide +kernel
theorem dX7_isWithin_0 : decode cX7_isWithin 0 = .ok (.iload_n 0, 1) := by decide +kernel
theorem dX7_isWithin_1 : decode cX7_isWithin 1 = .ok (.iload_n 1, 1) := by decide +kernel
theorem dX7_isWithin_2 : decode cX7_isWithin 2 = .ok (.if_icmp .lt 12, 3) := by decide +kernel
theorem dX7_isWithin_5 : decode cX7_isWithin 5 = .ok (.iload_n 0, 1) := by decide +kernel
theorem dX7_isWithin_6 : decode cX7_isWithin 6 = .ok (.iload_n 2, 1) := by decide +kernel
theorem dX7_isWithin_7 : decode cX7_isWithin 7 = .ok (.if_icmp .gt 7, 3) := by decide +kernel
theorem dX7_isWithin_10 : decode cX7_isWithin 10 = .ok (.iconst 1, 1) := by decide +kernel
theorem dX7_isWithin_11 : decode cX7_isWithin 11 = .ok (.goto 4, 3) := by decide +kernel
theorem dX7_isWithin_14 : decode cX7_isWithin 14 = .ok (.iconst 0, 1) := by decide +kernel
theorem dX7_isWithin_15 : decode cX7_isWithin 15 = .ok (.ireturn, 1) := by decide +kernel
theorem dX7_wordOrNone_0 : decode cX7_wordOrNone 0 = .ok (.iload_n 0, 1) := by decide +kernel
theorem dX7_wordOrNone_1 : decode cX7_wordOrNone 1 = .ok (.ifCond .ne 8, 3) := by decide +kernel
theorem dX7_wordOrNone_4 : decode cX7_wordOrNone 4 = .ok (.ldc 177, 2) := by decide +kernel
theorem dX7_wordOrNone_6 : decode cX7_wordOrNone 6 = .ok (.goto 7, 3) := by decide +kernel
theorem dX7_wordOrNone_9 : decode cX7_wordOrNone 9 = .ok (.iload_n 0, 1) := by decide +kernel
theorem dX7_wordOrNone_10 : decode cX7_wordOrNone 10 = .ok (.invokestatic 275, 3) := by decide +kernel
theorem dX7_wordOrNone_13 : decode cX7_wordOrNone 13 = .ok (.ireturn, 1) := by decide +kernel
theorem dX7_sizeOrSet_0 : decode cX7_sizeOrSet 0 = .ok (.iload_n 0, 1) := by decide +kernel
theorem dX7_sizeOrSet_1 : decode cX7_sizeOrSet 1 = .ok (.ldc 177, 2) := by decide +kernel
theorem dX7_sizeOrSet_3 : decode cX7_sizeOrSet 3 = .ok (.if_icmp .eq 8, 3) := by decide +kernel
theorem dX7_sizeOrSet_6 : decode cX7_sizeOrSet 6 = .ok (.iload_n 1, 1) := by decide +kernel
theorem dX7_sizeOrSet_7 : decode cX7_sizeOrSet 7 = .ok (.iconst 1, 1) := by decide +kernel
theorem dX7_sizeOrSet_8 : decode cX7_sizeOrSet 8 = .ok (.if_icmp .ne 7, 3) := by decide +kernel
theorem dX7_sizeOrSet_11 : decode cX7_sizeOrSet 11 = .ok (.iload_n 0, 1) := by decide +kernel
theorem dX7_sizeOrSet_12 : decode cX7_sizeOrSet 12 = .ok (.goto 7, 3) := by decide +kernel
theorem dX7_sizeOrSet_15 : decode cX7_sizeOrSet 15 = .ok (.iload_n 0, 1) := by decide +kernel
theorem dX7_sizeOrSet_16 : decode cX7_sizeOrSet 16 = .ok (.invokestatic 278, 3) := by decide +kernel
theorem dX7_sizeOrSet_19 : decode cX7_sizeOrSet 19 = .ok (.ireturn, 1) := by decide +kernel
theorem dX8_init_0 : decode cX8_init 0 = .ok (.aload_n 0, 1) := by decide +kernel
theorem dX8_init_1 : decode cX8_init 1 = .ok (.invokespecial 1, 3) := by decide +kernel
theorem dX8_init_4 : decode cX8_init 4 = .ok (.aload_n 0, 1) := by decide +kernel
theorem dX8_init_5 : decode cX8_init 5 = .ok (.bipush 8, 2) := by decide +kernel
theorem dX8_init_7 : decode cX8_init 7 = .ok (.newarray .int, 2) := by decide +kernel
theorem dX8_init_9 : decode cX8_init 9 = .ok (.dup, 1) := by decide +kernel
theorem dX8_init_10 : decode cX8_init 10 = .ok (.iconst 0, 1) := by decide +kernel
theorem dX8_init_11 : decode cX8_init 11 = .ok (.iconst (-1), 1) := by decide +kernel
theorem dX8_init_12 : decode cX8_init 12 = .ok (.iastore, 1) := by decide +kernel
theorem dX8_init_13 : decode cX8_init 13 = .ok (.dup, 1) := by decide +kernel
theorem dX8_init_14 : decode cX8_init 14 = .ok (.iconst 1, 1) := by decide +kernel
theorem dX8_init_15 : decode cX8_init 15 = .ok (.iconst (-1), 1) := by decide +kernel
theorem dX8_init_16 : decode cX8_init 16 = .ok (.iastore, 1) := by decide +kernel
theorem dX8_init_17 : decode cX8_init 17 = .ok (.dup, 1) := by decide +kernel
theorem dX8_init_18 : decode cX8_init 18 = .ok (.iconst 2, 1) := by decide +kernel
theorem dX8_init_19 : decode cX8_init 19 = .ok (.iconst (-1), 1) := by decide +kernel
theorem dX8_init_20 : decode cX8_init 20 = .ok (.iastore, 1) := by decide +kernel
theorem dX8_init_21 : decode cX8_init 21 = .ok (.dup, 1) := by decide +kernel
theorem dX8_init_22 : decode cX8_init 22 = .ok (.iconst 3, 1) := by decide +kernel
theorem dX8_init_23 : decode cX8_init 23 = .ok (.iconst (-1), 1) := by decide +kernel
theorem dX8_init_24 : decode cX8_init 24 = .ok (.iastore, 1) := by decide +kernel
theorem dX8_init_25 : decode cX8_init 25 = .ok (.dup, 1) := by decide +kernel
theorem dX8_init_26 : decode cX8_init 26 = .ok (.iconst 4, 1) := by decide +kernel
theorem dX8_init_27 : decode cX8_init 27 = .ok (.iconst (-1), 1) := by decide +kernel
theorem dX8_init_28 : decode cX8_init 28 = .ok (.iastore, 1) := by decide +kernel
theorem dX8_init_29 : decode cX8_init 29 = .ok (.dup, 1) := by decide +kernel
theorem dX8_init_30 : decode cX8_init 30 = .ok (.iconst 5, 1) := by decide +kernel
theorem dX8_init_31 : decode cX8_init 31 = .ok (.iconst (-1), 1) := by decide +kernel
theorem dX8_init_32 : decode cX8_init 32 = .ok (.iastore, 1) := by decide +kernel
theorem dX8_init_33 : decode cX8_init 33 = .ok (.dup, 1) := by decide +kernel
theorem dX8_init_34 : decode cX8_init 34 = .ok (.bipush 6, 2) := by decide +kernel
theorem dX8_init_36 : decode cX8_init 36 = .ok (.iconst (-1), 1) := by decide +kernel
theorem dX8_init_37 : decode cX8_init 37 = .ok (.iastore, 1) := by decide +kernel
theorem dX8_init_38 : decode cX8_init 38 = .ok (.dup, 1) := by decide +kernel
theorem dX8_init_39 : decode cX8_init 39 = .ok (.bipush 7, 2) := by decide +kernel
theorem dX8_init_41 : decode cX8_init 41 = .ok (.iconst (-1), 1) := by decide +kernel
theorem dX8_init_42 : decode cX8_init 42 = .ok (.iastore, 1) := by decide +kernel
theorem dX8_init_43 : decode cX8_init 43 = .ok (.putfield 7, 3) := by decide +kernel
theorem dX8_init_46 : decode cX8_init 46 = .ok (.aload_n 0, 1) := by decide +kernel
theorem dX8_init_47 : decode cX8_init 47 = .ok (.bipush 8, 2) := by decide +kernel
theorem dX8_init_49 : decode cX8_init 49 = .ok (.newarray .int, 2) := by decide +kernel
theorem dX8_init_51 : decode cX8_init 51 = .ok (.putfield 13, 3) := by decide +kernel
theorem dX8_init_54 : decode cX8_init 54 = .ok (.aload_n 0, 1) := by decide +kernel
theorem dX8_init_55 : decode cX8_init 55 = .ok (.sipush 320, 3) := by decide +kernel
theorem dX8_init_58 : decode cX8_init 58 = .ok (.newarray .int, 2) := by decide +kernel
theorem dX8_init_60 : decode cX8_init 60 = .ok (.putfield 16, 3) := by decide +kernel
theorem dX8_init_63 : decode cX8_init 63 = .ok (.aload_n 0, 1) := by decide +kernel
theorem dX8_init_64 : decode cX8_init 64 = .ok (.bipush 80, 2) := by decide +kernel
theorem dX8_init_66 : decode cX8_init 66 = .ok (.newarray .int, 2) := by decide +kernel
theorem dX8_init_68 : decode cX8_init 68 = .ok (.putfield 19, 3) := by decide +kernel
theorem dX8_init_71 : decode cX8_init 71 = .ok (.aload_n 0, 1) := by decide +kernel
theorem dX8_init_72 : decode cX8_init 72 = .ok (.bipush 80, 2) := by decide +kernel
theorem dX8_init_74 : decode cX8_init 74 = .ok (.newarray .int, 2) := by decide +kernel
theorem dX8_init_76 : decode cX8_init 76 = .ok (.putfield 22, 3) := by decide +kernel
theorem dX8_init_79 : decode cX8_init 79 = .ok (.aload_n 0, 1) := by decide +kernel
theorem dX8_init_80 : decode cX8_init 80 = .ok (.bipush 80, 2) := by decide +kernel
theorem dX8_init_82 : decode cX8_init 82 = .ok (.newarray .int, 2) := by decide +kernel
theorem dX8_init_84 : decode cX8_init 84 = .ok (.putfield 25, 3) := by decide +kernel
theorem dX8_init_87 : decode cX8_init 87 = .ok (.aload_n 0, 1) := by decide +kernel
theorem dX8_init_88 : decode cX8_init 88 = .ok (.sipush 1920, 3) := by decide +kernel
theorem dX8_init_91 : decode cX8_init 91 = .ok (.newarray .int, 2) := by decide +kernel
theorem dX8_init_93 : decode cX8_init 93 = .ok (.putfield 28, 3) := by decide +kernel
theorem dX8_init_96 : decode cX8_init 96 = .ok (.aload_n 0, 1) := by decide +kernel
theorem dX8_init_97 : decode cX8_init 97 = .ok (.bipush 120, 2) := by decide +kernel
theorem dX8_init_99 : decode cX8_init 99 = .ok (.newarray .int, 2) := by decide +kernel
theorem dX8_init_101 : decode cX8_init 101 = .ok (.putfield 31, 3) := by decide +kernel
theorem dX8_init_104 : decode cX8_init 104 = .ok (.aload_n 0, 1) := by decide +kernel
theorem dX8_init_105 : decode cX8_init 105 = .ok (.bipush 6, 2) := by decide +kernel
theorem dX8_init_107 : decode cX8_init 107 = .ok (.newarray .int, 2) := by decide +kernel
theorem dX8_init_109 : decode cX8_init 109 = .ok (.putfield 34, 3) := by decide +kernel
theorem dX8_init_112 : decode cX8_init 112 = .ok (.aload_n 0, 1) := by decide +kernel
theorem dX8_init_113 : decode cX8_init 113 = .ok (.iconst 2, 1) := by decide +kernel
theorem dX8_init_114 : decode cX8_init 114 = .ok (.newarray .boolean, 2) := by decide +kernel
theorem dX8_init_116 : decode cX8_init 116 = .ok (.putfield 37, 3) := by decide +kernel
theorem dX8_init_119 : decode cX8_init 119 = .ok (.aload_n 0, 1) := by decide +kernel
theorem dX8_init_120 : decode cX8_init 120 = .ok (.sipush 160, 3) := by decide +kernel
theorem dX8_init_123 : decode cX8_init 123 = .ok (.newarray .int, 2) := by decide +kernel
theorem dX8_init_125 : decode cX8_init 125 = .ok (.putfield 41, 3) := by decide +kernel
theorem dX8_init_128 : decode cX8_init 128 = .ok (.aload_n 0, 1) := by decide +kernel
theorem dX8_init_129 : decode cX8_init 129 = .ok (.bipush 16, 2) := by decide +kernel
theorem dX8_init_131 : decode cX8_init 131 = .ok (.newarray .int, 2) := by decide +kernel
theorem dX8_init_133 : decode cX8_init 133 = .ok (.putfield 44, 3) := by decide +kernel
theorem dX8_init_136 : decode cX8_init 136 = .ok (.return_, 1) := by decide +kernel
theorem dX8_in_0 : decode cX8_in 0 = .ok (.lload_n 0, 1) := by decide +kernel
theorem dX8_in_1 : decode cX8_in 1 = .ok (.lload_n 2, 1) := by decide +kernel
theorem dX8_in_2 : decode cX8_in 2 = .ok (.lcmp, 1) := by decide +kernel
theorem dX8_in_3 : decode cX8_in 3 = .ok (.ifCond .lt 14, 3) := by decide +kernel
theorem dX8_in_6 : decode cX8_in 6 = .ok (.lload_n 0, 1) := by decide +kernel
theorem dX8_in_7 : decode cX8_in 7 = .ok (.lload 4, 2) := by decide +kernel
theorem dX8_in_9 : decode cX8_in 9 = .ok (.lcmp, 1) := by decide +kernel
theorem dX8_in_10 : decode cX8_in 10 = .ok (.ifCond .gt 7, 3) := by decide +kernel
theorem dX8_in_13 : decode cX8_in 13 = .ok (.iconst 1, 1) := by decide +kernel
theorem dX8_in_14 : decode cX8_in 14 = .ok (.goto 4, 3) := by decide +kernel
theorem dX8_in_17 : decode cX8_in 17 = .ok (.iconst 0, 1) := by decide +kernel
theorem dX8_in_18 : decode cX8_in 18 = .ok (.ireturn, 1) := by decide +kernel
theorem dX8_finding_0 : decode cX8_finding 0 = .ok (.aload_n 0, 1) := by decide +kernel
theorem dX8_finding_1 : decode cX8_finding 1 = .ok (.iload_n 1, 1) := by decide +kernel
theorem dX8_finding_2 : decode cX8_finding 2 = .ok (.putfield 51, 3) := by decide +kernel
theorem dX8_finding_5 : decode cX8_finding 5 = .ok (.ldc 54, 2) := by decide +kernel
theorem dX8_finding_7 : decode cX8_finding 7 = .ok (.iload_n 1, 1) := by decide +kernel
theorem dX8_finding_8 : decode cX8_finding 8 = .ok (.isub, 1) := by decide +kernel
theorem dX8_finding_9 : decode cX8_finding 9 = .ok (.ireturn, 1) := by decide +kernel
theorem dX8_isRow_0 : decode cX8_isRow 0 = .ok (.iload_n 0, 1) := by decide +kernel
theorem dX8_isRow_1 : decode cX8_isRow 1 = .ok (.i2l, 1) := by decide +kernel
theorem dX8_isRow_2 : decode cX8_isRow 2 = .ok (.lconst 0, 1) := by decide +kernel
theorem dX8_isRow_3 : decode cX8_isRow 3 = .ok (.ldc2_w 55, 3) := by decide +kernel
theorem dX8_isRow_6 : decode cX8_isRow 6 = .ok (.invokestatic 57, 3) := by decide +kernel
theorem dX8_isRow_9 : decode cX8_isRow 9 = .ok (.ireturn, 1) := by decide +kernel
theorem dX8_row_0 : decode cX8_row 0 = .ok (.aload_n 0, 1) := by decide +kernel
theorem dX8_row_1 : decode cX8_row 1 = .ok (.iconst 0, 1) := by decide +kernel
theorem dX8_row_2 : decode cX8_row 2 = .ok (.putfield 47, 3) := by decide +kernel
theorem dX8_row_5 : decode cX8_row 5 = .ok (.iload_n 1, 1) := by decide +kernel
theorem dX8_row_6 : decode cX8_row 6 = .ok (.invokestatic 61, 3) := by decide +kernel
theorem dX8_row_9 : decode cX8_row 9 = .ok (.ifCond .eq 21, 3) := by decide +kernel
theorem dX8_row_12 : decode cX8_row 12 = .ok (.iload_n 2, 1) := by decide +kernel
theorem dX8_row_13 : decode cX8_row 13 = .ok (.i2l, 1) := by decide +kernel
theorem dX8_row_14 : decode cX8_row 14 = .ok (.lconst 0, 1) := by decide +kernel
theorem dX8_row_15 : decode cX8_row 15 = .ok (.ldc2_w 65, 3) := by decide +kernel
theorem dX8_row_18 : decode cX8_row 18 = .ok (.invokestatic 57, 3) := by decide +kernel
theorem dX8_row_21 : decode cX8_row 21 = .ok (.ifCond .eq 9, 3) := by decide +kernel
theorem dX8_row_24 : decode cX8_row 24 = .ok (.iload_n 3, 1) := by decide +kernel
theorem dX8_row_25 : decode cX8_row 25 = .ok (.bipush 40, 2) := by decide +kernel
theorem dX8_row_27 : decode cX8_row 27 = .ok (.if_icmp .le 6, 3) := by decide +kernel
theorem dX8_row_30 : decode cX8_row 30 = .ok (.ldc 67, 2) := by decide +kernel
theorem dX8_row_32 : decode cX8_row 32 = .ok (.ireturn, 1) := by decide +kernel
theorem dX8_row_33 : decode cX8_row 33 = .ok (.aload_n 0, 1) := by decide +kernel
theorem dX8_row_34 : decode cX8_row 34 = .ok (.iconst 0, 1) := by decide +kernel
theorem dX8_row_35 : decode cX8_row 35 = .ok (.putfield 51, 3) := by decide +kernel
theorem dX8_row_38 : decode cX8_row 38 = .ok (.iload_n 3, 1) := by decide +kernel
theorem dX8_row_39 : decode cX8_row 39 = .ok (.ifCond .ge 9, 3) := by decide +kernel
theorem dX8_row_42 : decode cX8_row 42 = .ok (.aload_n 0, 1) := by decide +kernel
theorem dX8_row_43 : decode cX8_row 43 = .ok (.iconst 4, 1) := by decide +kernel
theorem dX8_row_44 : decode cX8_row 44 = .ok (.invokevirtual 68, 3) := by decide +kernel
theorem dX8_row_47 : decode cX8_row 47 = .ok (.ireturn, 1) := by decide +kernel
theorem dX8_row_48 : decode cX8_row 48 = .ok (.aload_n 0, 1) := by decide +kernel
theorem dX8_row_49 : decode cX8_row 49 = .ok (.getfield 7, 3) := by decide +kernel
theorem dX8_row_52 : decode cX8_row 52 = .ok (.iload_n 1, 1) := by decide +kernel
theorem dX8_row_53 : decode cX8_row 53 = .ok (.iload_n 2, 1) := by decide +kernel
theorem dX8_row_54 : decode cX8_row 54 = .ok (.iastore, 1) := by decide +kernel
theorem dX8_row_55 : decode cX8_row 55 = .ok (.aload_n 0, 1) := by decide +kernel
theorem dX8_row_56 : decode cX8_row 56 = .ok (.getfield 13, 3) := by decide +kernel
theorem dX8_row_59 : decode cX8_row 59 = .ok (.iload_n 1, 1) := by decide +kernel
theorem dX8_row_60 : decode cX8_row 60 = .ok (.iload_n 3, 1) := by decide +kernel
theorem dX8_row_61 : decode cX8_row 61 = .ok (.iastore, 1) := by decide +kernel
theorem dX8_row_62 : decode cX8_row 62 = .ok (.iconst 0, 1) := by decide +kernel
theorem dX8_row_63 : decode cX8_row 63 = .ok (.istore 4, 2) := by decide +kernel
theorem dX8_row_65 : decode cX8_row 65 = .ok (.iload 4, 2) := by decide +kernel
theorem dX8_row_67 : decode cX8_row 67 = .ok (.bipush 40, 2) := by decide +kernel
theorem dX8_row_69 : decode cX8_row 69 = .ok (.if_icmp .ge 22, 3) := by decide +kernel
theorem dX8_row_72 : decode cX8_row 72 = .ok (.aload_n 0, 1) := by decide +kernel
theorem dX8_row_73 : decode cX8_row 73 = .ok (.getfield 16, 3) := by decide +kernel
theorem dX8_row_76 : decode cX8_row 76 = .ok (.bipush 40, 2) := by decide +kernel
theorem dX8_row_78 : decode cX8_row 78 = .ok (.iload_n 1, 1) := by decide +kernel
theorem dX8_row_79 : decode cX8_row 79 = .ok (.imul, 1) := by decide +kernel
theorem dX8_row_80 : decode cX8_row 80 = .ok (.iload 4, 2) := by decide +kernel
theorem dX8_row_82 : decode cX8_row 82 = .ok (.iadd, 1) := by decide +kernel
theorem dX8_row_83 : decode cX8_row 83 = .ok (.iconst 0, 1) := by decide +kernel
theorem dX8_row_84 : decode cX8_row 84 = .ok (.iastore, 1) := by decide +kernel
theorem dX8_row_85 : decode cX8_row 85 = .ok (.iinc 4 1, 3) := by decide +kernel
theorem dX8_row_88 : decode cX8_row 88 = .ok (.goto (-23), 3) := by decide +kernel
theorem dX8_row_91 : decode cX8_row 91 = .ok (.iload_n 3, 1) := by decide +kernel
theorem dX8_row_92 : decode cX8_row 92 = .ok (.ireturn, 1) := by decide +kernel
theorem dX8_set_0 : decode cX8_set 0 = .ok (.aload_n 0, 1) := by decide +kernel
theorem dX8_set_1 : decode cX8_set 1 = .ok (.iconst 0, 1) := by decide +kernel
theorem dX8_set_2 : decode cX8_set 2 = .ok (.putfield 47, 3) := by decide +kernel
theorem dX8_set_5 : decode cX8_set 5 = .ok (.iload_n 1, 1) := by decide +kernel
theorem dX8_set_6 : decode cX8_set 6 = .ok (.invokestatic 61, 3) := by decide +kernel
theorem dX8_set_9 : decode cX8_set 9 = .ok (.ifCond .ne 6, 3) := by decide +kernel
theorem dX8_set_12 : decode cX8_set 12 = .ok (.ldc 67, 2) := by decide +kernel
theorem dX8_set_14 : decode cX8_set 14 = .ok (.ireturn, 1) := by decide +kernel
theorem dX8_set_15 : decode cX8_set 15 = .ok (.aload_n 0, 1) := by decide +kernel
theorem dX8_set_16 : decode cX8_set 16 = .ok (.iconst 0, 1) := by decide +kernel
theorem dX8_set_17 : decode cX8_set 17 = .ok (.putfield 51, 3) := by decide +kernel
theorem dX8_set_20 : decode cX8_set 20 = .ok (.aload_n 0, 1) := by decide +kernel
theorem dX8_set_21 : decode cX8_set 21 = .ok (.getfield 7, 3) := by decide +kernel
theorem dX8_set_24 : decode cX8_set 24 = .ok (.iload_n 1, 1) := by decide +kernel
theorem dX8_set_25 : decode cX8_set 25 = .ok (.iaload, 1) := by decide +kernel
theorem dX8_set_26 : decode cX8_set 26 = .ok (.ifCond .ge 9, 3) := by decide +kernel
theorem dX8_set_29 : decode cX8_set 29 = .ok (.aload_n 0, 1) := by decide +kernel
theorem dX8_set_30 : decode cX8_set 30 = .ok (.iconst 1, 1) := by decide +kernel
theorem dX8_set_31 : decode cX8_set 31 = .ok (.invokevirtual 68, 3) := by decide +kernel
theorem dX8_set_34 : decode cX8_set 34 = .ok (.ireturn, 1) := by decide +kernel
theorem dX8_set_35 : decode cX8_set 35 = .ok (.iload_n 2, 1) := by decide +kernel
theorem dX8_set_36 : decode cX8_set 36 = .ok (.i2l, 1) := by decide +kernel
theorem dX8_set_37 : decode cX8_set 37 = .ok (.lconst 0, 1) := by decide +kernel
theorem dX8_set_38 : decode cX8_set 38 = .ok (.aload_n 0, 1) := by decide +kernel
theorem dX8_set_39 : decode cX8_set 39 = .ok (.getfield 13, 3) := by decide +kernel
theorem dX8_set_42 : decode cX8_set 42 = .ok (.iload_n 1, 1) := by decide +kernel
theorem dX8_set_43 : decode cX8_set 43 = .ok (.iaload, 1) := by decide +kernel
theorem dX8_set_44 : decode cX8_set 44 = .ok (.iconst 1, 1) := by decide +kernel
theorem dX8_set_45 : decode cX8_set 45 = .ok (.isub, 1) := by decide +kernel
theorem dX8_set_46 : decode cX8_set 46 = .ok (.i2l, 1) := by decide +kernel
theorem dX8_set_47 : decode cX8_set 47 = .ok (.invokestatic 57, 3) := by decide +kernel
theorem dX8_set_50 : decode cX8_set 50 = .ok (.ifCond .ne 9, 3) := by decide +kernel
theorem dX8_set_53 : decode cX8_set 53 = .ok (.aload_n 0, 1) := by decide +kernel
theorem dX8_set_54 : decode cX8_set 54 = .ok (.iconst 2, 1) := by decide +kernel
theorem dX8_set_55 : decode cX8_set 55 = .ok (.invokevirtual 68, 3) := by decide +kernel
theorem dX8_set_58 : decode cX8_set 58 = .ok (.ireturn, 1) := by decide +kernel
theorem dX8_set_59 : decode cX8_set 59 = .ok (.aload_n 0, 1) := by decide +kernel
theorem dX8_set_60 : decode cX8_set 60 = .ok (.getfield 16, 3) := by decide +kernel
theorem dX8_set_63 : decode cX8_set 63 = .ok (.bipush 40, 2) := by decide +kernel
theorem dX8_set_65 : decode cX8_set 65 = .ok (.iload_n 1, 1) := by decide +kernel
theorem dX8_set_66 : decode cX8_set 66 = .ok (.imul, 1) := by decide +kernel
theorem dX8_set_67 : decode cX8_set 67 = .ok (.iload_n 2, 1) := by decide +kernel
theorem dX8_set_68 : decode cX8_set 68 = .ok (.iadd, 1) := by decide +kernel
theorem dX8_set_69 : decode cX8_set 69 = .ok (.aload_n 0, 1) := by decide +kernel
theorem dX8_set_70 : decode cX8_set 70 = .ok (.getfield 7, 3) := by decide +kernel
theorem dX8_set_73 : decode cX8_set 73 = .ok (.iload_n 1, 1) := by decide +kernel
theorem dX8_set_74 : decode cX8_set 74 = .ok (.iaload, 1) := by decide +kernel
theorem dX8_set_75 : decode cX8_set 75 = .ok (.ifCond .ne 8, 3) := by decide +kernel
theorem dX8_set_78 : decode cX8_set 78 = .ok (.iload_n 3, 1) := by decide +kernel
theorem dX8_set_79 : decode cX8_set 79 = .ok (.i2b, 1) := by decide +kernel
theorem dX8_set_80 : decode cX8_set 80 = .ok (.goto 19, 3) := by decide +kernel
theorem dX8_set_83 : decode cX8_set 83 = .ok (.aload_n 0, 1) := by decide +kernel
theorem dX8_set_84 : decode cX8_set 84 = .ok (.getfield 7, 3) := by decide +kernel
theorem dX8_set_87 : decode cX8_set 87 = .ok (.iload_n 1, 1) := by decide +kernel
theorem dX8_set_88 : decode cX8_set 88 = .ok (.iaload, 1) := by decide +kernel
theorem dX8_set_89 : decode cX8_set 89 = .ok (.iconst 1, 1) := by decide +kernel
theorem dX8_set_90 : decode cX8_set 90 = .ok (.if_icmp .ne 8, 3) := by decide +kernel
theorem dX8_set_93 : decode cX8_set 93 = .ok (.iload_n 3, 1) := by decide +kernel
theorem dX8_set_94 : decode cX8_set 94 = .ok (.i2s, 1) := by decide +kernel
theorem dX8_set_95 : decode cX8_set 95 = .ok (.goto 4, 3) := by decide +kernel
theorem dX8_set_98 : decode cX8_set 98 = .ok (.iload_n 3, 1) := by decide +kernel
theorem dX8_set_99 : decode cX8_set 99 = .ok (.iastore, 1) := by decide +kernel
theorem dX8_set_100 : decode cX8_set 100 = .ok (.aload_n 0, 1) := by decide +kernel
theorem dX8_set_101 : decode cX8_set 101 = .ok (.getfield 16, 3) := by decide +kernel
theorem dX8_set_104 : decode cX8_set 104 = .ok (.bipush 40, 2) := by decide +kernel
theorem dX8_set_106 : decode cX8_set 106 = .ok (.iload_n 1, 1) := by decide +kernel
theorem dX8_set_107 : decode cX8_set 107 = .ok (.imul, 1) := by decide +kernel
theorem dX8_set_108 : decode cX8_set 108 = .ok (.iload_n 2, 1) := by decide +kernel
theorem dX8_set_109 : decode cX8_set 109 = .ok (.iadd, 1) := by decide +kernel
theorem dX8_set_110 : decode cX8_set 110 = .ok (.iaload, 1) := by decide +kernel
theorem dX8_set_111 : decode cX8_set 111 = .ok (.ireturn, 1) := by decide +kernel
theorem dX8_copy_0 : decode cX8_copy 0 = .ok (.aload_n 0, 1) := by decide +kernel
theorem dX8_copy_1 : decode cX8_copy 1 = .ok (.iconst 0, 1) := by decide +kernel
theorem dX8_copy_2 : decode cX8_copy 2 = .ok (.putfield 47, 3) := by decide +kernel
theorem dX8_copy_5 : decode cX8_copy 5 = .ok (.iload_n 1, 1) := by decide +kernel
theorem dX8_copy_6 : decode cX8_copy 6 = .ok (.invokestatic 61, 3) := by decide +kernel
theorem dX8_copy_9 : decode cX8_copy 9 = .ok (.ifCond .eq 10, 3) := by decide +kernel
theorem dX8_copy_12 : decode cX8_copy 12 = .ok (.iload_n 3, 1) := by decide +kernel
theorem dX8_copy_13 : decode cX8_copy 13 = .ok (.invokestatic 61, 3) := by decide +kernel
theorem dX8_copy_16 : decode cX8_copy 16 = .ok (.ifCond .ne 6, 3) := by decide +kernel
theorem dX8_copy_19 : decode cX8_copy 19 = .ok (.ldc 67, 2) := by decide +kernel
theorem dX8_copy_21 : decode cX8_copy 21 = .ok (.ireturn, 1) := by decide +kernel
theorem dX8_copy_22 : decode cX8_copy 22 = .ok (.aload_n 0, 1) := by decide +kernel
theorem dX8_copy_23 : decode cX8_copy 23 = .ok (.iconst 0, 1) := by decide +kernel
theorem dX8_copy_24 : decode cX8_copy 24 = .ok (.putfield 51, 3) := by decide +kernel
theorem dX8_copy_27 : decode cX8_copy 27 = .ok (.aload_n 0, 1) := by decide +kernel
theorem dX8_copy_28 : decode cX8_copy 28 = .ok (.getfield 7, 3) := by decide +kernel
theorem dX8_copy_31 : decode cX8_copy 31 = .ok (.iload_n 1, 1) := by decide +kernel
theorem dX8_copy_32 : decode cX8_copy 32 = .ok (.iaload, 1) := by decide +kernel
theorem dX8_copy_33 : decode cX8_copy 33 = .ok (.ifCond .lt 12, 3) := by decide +kernel
theorem dX8_copy_36 : decode cX8_copy 36 = .ok (.aload_n 0, 1) := by decide +kernel
theorem dX8_copy_37 : decode cX8_copy 37 = .ok (.getfield 7, 3) := by decide +kernel
theorem dX8_copy_40 : decode cX8_copy 40 = .ok (.iload_n 3, 1) := by decide +kernel
theorem dX8_copy_41 : decode cX8_copy 41 = .ok (.iaload, 1) := by decide +kernel
theorem dX8_copy_42 : decode cX8_copy 42 = .ok (.ifCond .ge 9, 3) := by decide +kernel
theorem dX8_copy_45 : decode cX8_copy 45 = .ok (.aload_n 0, 1) := by decide +kernel
theorem dX8_copy_46 : decode cX8_copy 46 = .ok (.iconst 1, 1) := by decide +kernel
theorem dX8_copy_47 : decode cX8_copy 47 = .ok (.invokevirtual 68, 3) := by decide +kernel
theorem dX8_copy_50 : decode cX8_copy 50 = .ok (.ireturn, 1) := by decide +kernel
theorem dX8_copy_51 : decode cX8_copy 51 = .ok (.aload_n 0, 1) := by decide +kernel
theorem dX8_copy_52 : decode cX8_copy 52 = .ok (.getfield 7, 3) := by decide +kernel
theorem dX8_copy_55 : decode cX8_copy 55 = .ok (.iload_n 1, 1) := by decide +kernel
theorem dX8_copy_56 : decode cX8_copy 56 = .ok (.iaload, 1) := by decide +kernel
theorem dX8_copy_57 : decode cX8_copy 57 = .ok (.aload_n 0, 1) := by decide +kernel
theorem dX8_copy_58 : decode cX8_copy 58 = .ok (.getfield 7, 3) := by decide +kernel
theorem dX8_copy_61 : decode cX8_copy 61 = .ok (.iload_n 3, 1) := by decide +kernel
theorem dX8_copy_62 : decode cX8_copy 62 = .ok (.iaload, 1) := by decide +kernel
theorem dX8_copy_63 : decode cX8_copy 63 = .ok (.if_icmp .eq 9, 3) := by decide +kernel
theorem dX8_copy_66 : decode cX8_copy 66 = .ok (.aload_n 0, 1) := by decide +kernel
theorem dX8_copy_67 : decode cX8_copy 67 = .ok (.iconst 5, 1) := by decide +kernel
theorem dX8_copy_68 : decode cX8_copy 68 = .ok (.invokevirtual 68, 3) := by decide +kernel
theorem dX8_copy_71 : decode cX8_copy 71 = .ok (.ireturn, 1) := by decide +kernel
theorem dX8_copy_72 : decode cX8_copy 72 = .ok (.iload_n 2, 1) := by decide +kernel
theorem dX8_copy_73 : decode cX8_copy 73 = .ok (.ifCond .lt 48, 3) := by decide +kernel
theorem dX8_copy_76 : decode cX8_copy 76 = .ok (.iload 4, 2) := by decide +kernel
theorem dX8_copy_78 : decode cX8_copy 78 = .ok (.ifCond .lt 43, 3) := by decide +kernel
theorem dX8_copy_81 : decode cX8_copy 81 = .ok (.iload 5, 2) := by decide +kernel
theorem dX8_copy_83 : decode cX8_copy 83 = .ok (.ifCond .lt 38, 3) := by decide +kernel
theorem dX8_copy_86 : decode cX8_copy 86 = .ok (.iload_n 2, 1) := by decide +kernel
theorem dX8_copy_87 : decode cX8_copy 87 = .ok (.i2l, 1) := by decide +kernel
theorem dX8_copy_88 : decode cX8_copy 88 = .ok (.iload 5, 2) := by decide +kernel
theorem dX8_copy_90 : decode cX8_copy 90 = .ok (.i2l, 1) := by decide +kernel
theorem dX8_copy_91 : decode cX8_copy 91 = .ok (.ladd, 1) := by decide +kernel
theorem dX8_copy_92 : decode cX8_copy 92 = .ok (.aload_n 0, 1) := by decide +kernel
theorem dX8_copy_93 : decode cX8_copy 93 = .ok (.getfield 13, 3) := by decide +kernel
theorem dX8_copy_96 : decode cX8_copy 96 = .ok (.iload_n 1, 1) := by decide +kernel
theorem dX8_copy_97 : decode cX8_copy 97 = .ok (.iaload, 1) := by decide +kernel
theorem dX8_copy_98 : decode cX8_copy 98 = .ok (.i2l, 1) := by decide +kernel
theorem dX8_copy_99 : decode cX8_copy 99 = .ok (.lcmp, 1) := by decide +kernel
theorem dX8_copy_100 : decode cX8_copy 100 = .ok (.ifCond .gt 21, 3) := by decide +kernel
theorem dX8_copy_103 : decode cX8_copy 103 = .ok (.iload 4, 2) := by decide +kernel
theorem dX8_copy_105 : decode cX8_copy 105 = .ok (.i2l, 1) := by decide +kernel
theorem dX8_copy_106 : decode cX8_copy 106 = .ok (.iload 5, 2) := by decide +kernel
theorem dX8_copy_108 : decode cX8_copy 108 = .ok (.i2l, 1) := by decide +kernel
theorem dX8_copy_109 : decode cX8_copy 109 = .ok (.ladd, 1) := by decide +kernel
theorem dX8_copy_110 : decode cX8_copy 110 = .ok (.aload_n 0, 1) := by decide +kernel
theorem dX8_copy_111 : decode cX8_copy 111 = .ok (.getfield 13, 3) := by decide +kernel
theorem dX8_copy_114 : decode cX8_copy 114 = .ok (.iload_n 3, 1) := by decide +kernel
theorem dX8_copy_115 : decode cX8_copy 115 = .ok (.iaload, 1) := by decide +kernel
theorem dX8_copy_116 : decode cX8_copy 116 = .ok (.i2l, 1) := by decide +kernel
theorem dX8_copy_117 : decode cX8_copy 117 = .ok (.lcmp, 1) := by decide +kernel
theorem dX8_copy_118 : decode cX8_copy 118 = .ok (.ifCond .le 9, 3) := by decide +kernel
theorem dX8_copy_121 : decode cX8_copy 121 = .ok (.aload_n 0, 1) := by decide +kernel
theorem dX8_copy_122 : decode cX8_copy 122 = .ok (.iconst 2, 1) := by decide +kernel
theorem dX8_copy_123 : decode cX8_copy 123 = .ok (.invokevirtual 68, 3) := by decide +kernel
theorem dX8_copy_126 : decode cX8_copy 126 = .ok (.ireturn, 1) := by decide +kernel
theorem dX8_copy_127 : decode cX8_copy 127 = .ok (.iload_n 2, 1) := by decide +kernel
theorem dX8_copy_128 : decode cX8_copy 128 = .ok (.iload 4, 2) := by decide +kernel
theorem dX8_copy_130 : decode cX8_copy 130 = .ok (.if_icmp .lt 7, 3) := by decide +kernel
theorem dX8_copy_133 : decode cX8_copy 133 = .ok (.iconst 1, 1) := by decide +kernel
theorem dX8_copy_134 : decode cX8_copy 134 = .ok (.goto 4, 3) := by decide +kernel
theorem dX8_copy_137 : decode cX8_copy 137 = .ok (.iconst 0, 1) := by decide +kernel
theorem dX8_copy_138 : decode cX8_copy 138 = .ok (.istore 6, 2) := by decide +kernel
theorem dX8_copy_140 : decode cX8_copy 140 = .ok (.iconst 0, 1) := by decide +kernel
theorem dX8_copy_141 : decode cX8_copy 141 = .ok (.istore 7, 2) := by decide +kernel
theorem dX8_copy_143 : decode cX8_copy 143 = .ok (.iload 7, 2) := by decide +kernel
theorem dX8_copy_145 : decode cX8_copy 145 = .ok (.iload 5, 2) := by decide +kernel
theorem dX8_copy_147 : decode cX8_copy 147 = .ok (.if_icmp .ge 57, 3) := by decide +kernel
theorem dX8_copy_150 : decode cX8_copy 150 = .ok (.iload 6, 2) := by decide +kernel
theorem dX8_copy_152 : decode cX8_copy 152 = .ok (.ifCond .eq 8, 3) := by decide +kernel
theorem dX8_copy_155 : decode cX8_copy 155 = .ok (.iload 7, 2) := by decide +kernel
theorem dX8_copy_157 : decode cX8_copy 157 = .ok (.goto 10, 3) := by decide +kernel
theorem dX8_copy_160 : decode cX8_copy 160 = .ok (.iload 5, 2) := by decide +kernel
theorem dX8_copy_162 : decode cX8_copy 162 = .ok (.iconst 1, 1) := by decide +kernel
theorem dX8_copy_163 : decode cX8_copy 163 = .ok (.isub, 1) := by decide +kernel
theorem dX8_copy_164 : decode cX8_copy 164 = .ok (.iload 7, 2) := by decide +kernel
theorem dX8_copy_166 : decode cX8_copy 166 = .ok (.isub, 1) := by decide +kernel
theorem dX8_copy_167 : decode cX8_copy 167 = .ok (.istore 8, 2) := by decide +kernel
theorem dX8_copy_169 : decode cX8_copy 169 = .ok (.aload_n 0, 1) := by decide +kernel
theorem dX8_copy_170 : decode cX8_copy 170 = .ok (.getfield 16, 3) := by decide +kernel
theorem dX8_copy_173 : decode cX8_copy 173 = .ok (.bipush 40, 2) := by decide +kernel
theorem dX8_copy_175 : decode cX8_copy 175 = .ok (.iload_n 3, 1) := by decide +kernel
theorem dX8_copy_176 : decode cX8_copy 176 = .ok (.imul, 1) := by decide +kernel
theorem dX8_copy_177 : decode cX8_copy 177 = .ok (.iload 4, 2) := by decide +kernel
theorem dX8_copy_179 : decode cX8_copy 179 = .ok (.iadd, 1) := by decide +kernel
theorem dX8_copy_180 : decode cX8_copy 180 = .ok (.iload 8, 2) := by decide +kernel
theorem dX8_copy_182 : decode cX8_copy 182 = .ok (.iadd, 1) := by decide +kernel
theorem dX8_copy_183 : decode cX8_copy 183 = .ok (.aload_n 0, 1) := by decide +kernel
theorem dX8_copy_184 : decode cX8_copy 184 = .ok (.getfield 16, 3) := by decide +kernel
theorem dX8_copy_187 : decode cX8_copy 187 = .ok (.bipush 40, 2) := by decide +kernel
theorem dX8_copy_189 : decode cX8_copy 189 = .ok (.iload_n 1, 1) := by decide +kernel
theorem dX8_copy_190 : decode cX8_copy 190 = .ok (.imul, 1) := by decide +kernel
theorem dX8_copy_191 : decode cX8_copy 191 = .ok (.iload_n 2, 1) := by decide +kernel
theorem dX8_copy_192 : decode cX8_copy 192 = .ok (.iadd, 1) := by decide +kernel
theorem dX8_copy_193 : decode cX8_copy 193 = .ok (.iload 8, 2) := by decide +kernel
theorem dX8_copy_195 : decode cX8_copy 195 = .ok (.iadd, 1) := by decide +kernel
theorem dX8_copy_196 : decode cX8_copy 196 = .ok (.iaload, 1) := by decide +kernel
theorem dX8_copy_197 : decode cX8_copy 197 = .ok (.iastore, 1) := by decide +kernel
theorem dX8_copy_198 : decode cX8_copy 198 = .ok (.iinc 7 1, 3) := by decide +kernel
theorem dX8_copy_201 : decode cX8_copy 201 = .ok (.goto (-58), 3) := by decide +kernel
theorem dX8_copy_204 : decode cX8_copy 204 = .ok (.iload 5, 2) := by decide +kernel
theorem dX8_copy_206 : decode cX8_copy 206 = .ok (.ireturn, 1) := by decide +kernel
theorem dX8_drop_0 : decode cX8_drop 0 = .ok (.aload_n 0, 1) := by decide +kernel
theorem dX8_drop_1 : decode cX8_drop 1 = .ok (.iconst 0, 1) := by decide +kernel
theorem dX8_drop_2 : decode cX8_drop 2 = .ok (.putfield 47, 3) := by decide +kernel
theorem dX8_drop_5 : decode cX8_drop 5 = .ok (.iload_n 1, 1) := by decide +kernel
theorem dX8_drop_6 : decode cX8_drop 6 = .ok (.invokestatic 61, 3) := by decide +kernel
theorem dX8_drop_9 : decode cX8_drop 9 = .ok (.ifCond .ne 6, 3) := by decide +kernel
theorem dX8_drop_12 : decode cX8_drop 12 = .ok (.ldc 67, 2) := by decide +kernel
theorem dX8_drop_14 : decode cX8_drop 14 = .ok (.ireturn, 1) := by decide +kernel
theorem dX8_drop_15 : decode cX8_drop 15 = .ok (.aload_n 0, 1) := by decide +kernel
theorem dX8_drop_16 : decode cX8_drop 16 = .ok (.iconst 0, 1) := by decide +kernel
theorem dX8_drop_17 : decode cX8_drop 17 = .ok (.putfield 51, 3) := by decide +kernel
theorem dX8_drop_20 : decode cX8_drop 20 = .ok (.aload_n 0, 1) := by decide +kernel
theorem dX8_drop_21 : decode cX8_drop 21 = .ok (.getfield 7, 3) := by decide +kernel
theorem dX8_drop_24 : decode cX8_drop 24 = .ok (.iload_n 1, 1) := by decide +kernel
theorem dX8_drop_25 : decode cX8_drop 25 = .ok (.iaload, 1) := by decide +kernel
theorem dX8_drop_26 : decode cX8_drop 26 = .ok (.ifCond .ge 9, 3) := by decide +kernel
theorem dX8_drop_29 : decode cX8_drop 29 = .ok (.aload_n 0, 1) := by decide +kernel
theorem dX8_drop_30 : decode cX8_drop 30 = .ok (.iconst 1, 1) := by decide +kernel
theorem dX8_drop_31 : decode cX8_drop 31 = .ok (.invokevirtual 68, 3) := by decide +kernel
theorem dX8_drop_34 : decode cX8_drop 34 = .ok (.ireturn, 1) := by decide +kernel
theorem dX8_drop_35 : decode cX8_drop 35 = .ok (.aload_n 0, 1) := by decide +kernel
theorem dX8_drop_36 : decode cX8_drop 36 = .ok (.getfield 7, 3) := by decide +kernel
theorem dX8_drop_39 : decode cX8_drop 39 = .ok (.iload_n 1, 1) := by decide +kernel
theorem dX8_drop_40 : decode cX8_drop 40 = .ok (.iconst (-1), 1) := by decide +kernel
theorem dX8_drop_41 : decode cX8_drop 41 = .ok (.iastore, 1) := by decide +kernel
theorem dX8_drop_42 : decode cX8_drop 42 = .ok (.aload_n 0, 1) := by decide +kernel
theorem dX8_drop_43 : decode cX8_drop 43 = .ok (.getfield 13, 3) := by decide +kernel
theorem dX8_drop_46 : decode cX8_drop 46 = .ok (.iload_n 1, 1) := by decide +kernel
theorem dX8_drop_47 : decode cX8_drop 47 = .ok (.iaload, 1) := by decide +kernel
theorem dX8_drop_48 : decode cX8_drop 48 = .ok (.ireturn, 1) := by decide +kernel
theorem dX8_feed_0 : decode cX8_feed 0 = .ok (.aload_n 0, 1) := by decide +kernel
theorem dX8_feed_1 : decode cX8_feed 1 = .ok (.iconst 0, 1) := by decide +kernel
theorem dX8_feed_2 : decode cX8_feed 2 = .ok (.putfield 47, 3) := by decide +kernel
theorem dX8_feed_5 : decode cX8_feed 5 = .ok (.iload_n 1, 1) := by decide +kernel
theorem dX8_feed_6 : decode cX8_feed 6 = .ok (.i2l, 1) := by decide +kernel
theorem dX8_feed_7 : decode cX8_feed 7 = .ok (.lconst 0, 1) := by decide +kernel
theorem dX8_feed_8 : decode cX8_feed 8 = .ok (.ldc2_w 72, 3) := by decide +kernel
theorem dX8_feed_11 : decode cX8_feed 11 = .ok (.invokestatic 57, 3) := by decide +kernel
theorem dX8_feed_14 : decode cX8_feed 14 = .ok (.ifCond .ne 6, 3) := by decide +kernel
theorem dX8_feed_17 : decode cX8_feed 17 = .ok (.ldc 67, 2) := by decide +kernel
theorem dX8_feed_19 : decode cX8_feed 19 = .ok (.ireturn, 1) := by decide +kernel
theorem dX8_feed_20 : decode cX8_feed 20 = .ok (.aload_n 0, 1) := by decide +kernel
theorem dX8_feed_21 : decode cX8_feed 21 = .ok (.getfield 74, 3) := by decide +kernel
theorem dX8_feed_24 : decode cX8_feed 24 = .ok (.bipush 120, 2) := by decide +kernel
theorem dX8_feed_26 : decode cX8_feed 26 = .ok (.if_icmp .ne 6, 3) := by decide +kernel
theorem dX8_feed_29 : decode cX8_feed 29 = .ok (.ldc 77, 2) := by decide +kernel
theorem dX8_feed_31 : decode cX8_feed 31 = .ok (.ireturn, 1) := by decide +kernel
theorem dX8_feed_32 : decode cX8_feed 32 = .ok (.aload_n 0, 1) := by decide +kernel
theorem dX8_feed_33 : decode cX8_feed 33 = .ok (.getfield 31, 3) := by decide +kernel
theorem dX8_feed_36 : decode cX8_feed 36 = .ok (.aload_n 0, 1) := by decide +kernel
theorem dX8_feed_37 : decode cX8_feed 37 = .ok (.getfield 74, 3) := by decide +kernel
theorem dX8_feed_40 : decode cX8_feed 40 = .ok (.iload_n 1, 1) := by decide +kernel
theorem dX8_feed_41 : decode cX8_feed 41 = .ok (.iastore, 1) := by decide +kernel
theorem dX8_feed_42 : decode cX8_feed 42 = .ok (.aload_n 0, 1) := by decide +kernel
theorem dX8_feed_43 : decode cX8_feed 43 = .ok (.dup, 1) := by decide +kernel
theorem dX8_feed_44 : decode cX8_feed 44 = .ok (.getfield 74, 3) := by decide +kernel
theorem dX8_feed_47 : decode cX8_feed 47 = .ok (.iconst 1, 1) := by decide +kernel
theorem dX8_feed_48 : decode cX8_feed 48 = .ok (.iadd, 1) := by decide +kernel
theorem dX8_feed_49 : decode cX8_feed 49 = .ok (.putfield 74, 3) := by decide +kernel
theorem dX8_feed_52 : decode cX8_feed 52 = .ok (.aload_n 0, 1) := by decide +kernel
theorem dX8_feed_53 : decode cX8_feed 53 = .ok (.getfield 74, 3) := by decide +kernel
theorem dX8_feed_56 : decode cX8_feed 56 = .ok (.ireturn, 1) := by decide +kernel
theorem dX8_bad_0 : decode cX8_bad 0 = .ok (.aload_n 0, 1) := by decide +kernel
theorem dX8_bad_1 : decode cX8_bad 1 = .ok (.getfield 78, 3) := by decide +kernel
theorem dX8_bad_4 : decode cX8_bad 4 = .ok (.ifCond .ne 16, 3) := by decide +kernel
theorem dX8_bad_7 : decode cX8_bad 7 = .ok (.aload_n 0, 1) := by decide +kernel
theorem dX8_bad_8 : decode cX8_bad 8 = .ok (.iload_n 1, 1) := by decide +kernel
theorem dX8_bad_9 : decode cX8_bad 9 = .ok (.putfield 78, 3) := by decide +kernel
theorem dX8_bad_12 : decode cX8_bad 12 = .ok (.aload_n 0, 1) := by decide +kernel
theorem dX8_bad_13 : decode cX8_bad 13 = .ok (.aload_n 0, 1) := by decide +kernel
theorem dX8_bad_14 : decode cX8_bad 14 = .ok (.getfield 81, 3) := by decide +kernel
theorem dX8_bad_17 : decode cX8_bad 17 = .ok (.putfield 84, 3) := by decide +kernel
theorem dX8_bad_20 : decode cX8_bad 20 = .ok (.return_, 1) := by decide +kernel
theorem dX8_nextToken_0 : decode cX8_nextToken 0 = .ok (.aload_n 0, 1) := by decide +kernel
theorem dX8_nextToken_1 : decode cX8_nextToken 1 = .ok (.aload_n 0, 1) := by decide +kernel
theorem dX8_nextToken_2 : decode cX8_nextToken 2 = .ok (.getfield 87, 3) := by decide +kernel
theorem dX8_nextToken_5 : decode cX8_nextToken 5 = .ok (.putfield 81, 3) := by decide +kernel
theorem dX8_nextToken_8 : decode cX8_nextToken 8 = .ok (.aload_n 0, 1) := by decide +kernel
theorem dX8_nextToken_9 : decode cX8_nextToken 9 = .ok (.aload_n 0, 1) := by decide +kernel
theorem dX8_nextToken_10 : decode cX8_nextToken 10 = .ok (.getfield 87, 3) := by decide +kernel
theorem dX8_nextToken_13 : decode cX8_nextToken 13 = .ok (.aload_n 0, 1) := by decide +kernel
theorem dX8_nextToken_14 : decode cX8_nextToken 14 = .ok (.getfield 74, 3) := by decide +kernel
theorem dX8_nextToken_17 : decode cX8_nextToken 17 = .ok (.if_icmp .ge 15, 3) := by decide +kernel
theorem dX8_nextToken_20 : decode cX8_nextToken 20 = .ok (.aload_n 0, 1) := by decide +kernel
theorem dX8_nextToken_21 : decode cX8_nextToken 21 = .ok (.getfield 31, 3) := by decide +kernel
theorem dX8_nextToken_24 : decode cX8_nextToken 24 = .ok (.aload_n 0, 1) := by decide +kernel
theorem dX8_nextToken_25 : decode cX8_nextToken 25 = .ok (.getfield 87, 3) := by decide +kernel
theorem dX8_nextToken_28 : decode cX8_nextToken 28 = .ok (.iaload, 1) := by decide +kernel
theorem dX8_nextToken_29 : decode cX8_nextToken 29 = .ok (.goto 5, 3) := by decide +kernel
theorem dX8_nextToken_32 : decode cX8_nextToken 32 = .ok (.ldc 90, 2) := by decide +kernel
theorem dX8_nextToken_34 : decode cX8_nextToken 34 = .ok (.putfield 91, 3) := by decide +kernel
theorem dX8_nextToken_37 : decode cX8_nextToken 37 = .ok (.aload_n 0, 1) := by decide +kernel
theorem dX8_nextToken_38 : decode cX8_nextToken 38 = .ok (.aload_n 0, 1) := by decide +kernel
theorem dX8_nextToken_39 : decode cX8_nextToken 39 = .ok (.getfield 87, 3) := by decide +kernel
theorem dX8_nextToken_42 : decode cX8_nextToken 42 = .ok (.aload_n 0, 1) := by decide +kernel
theorem dX8_nextToken_43 : decode cX8_nextToken 43 = .ok (.getfield 74, 3) := by decide +kernel
theorem dX8_nextToken_46 : decode cX8_nextToken 46 = .ok (.if_icmp .ne 7, 3) := by decide +kernel
theorem dX8_nextToken_49 : decode cX8_nextToken 49 = .ok (.iconst 1, 1) := by decide +kernel
theorem dX8_nextToken_50 : decode cX8_nextToken 50 = .ok (.goto 68, 3) := by decide +kernel
theorem dX8_nextToken_53 : decode cX8_nextToken 53 = .ok (.aload_n 0, 1) := by decide +kernel
theorem dX8_nextToken_54 : decode cX8_nextToken 54 = .ok (.getfield 91, 3) := by decide +kernel
theorem dX8_nextToken_57 : decode cX8_nextToken 57 = .ok (.i2l, 1) := by decide +kernel
theorem dX8_nextToken_58 : decode cX8_nextToken 58 = .ok (.ldc2_w 94, 3) := by decide +kernel
theorem dX8_nextToken_61 : decode cX8_nextToken 61 = .ok (.ldc2_w 96, 3) := by decide +kernel
theorem dX8_nextToken_64 : decode cX8_nextToken 64 = .ok (.invokestatic 57, 3) := by decide +kernel
theorem dX8_nextToken_67 : decode cX8_nextToken 67 = .ok (.ifCond .eq 7, 3) := by decide +kernel
theorem dX8_nextToken_70 : decode cX8_nextToken 70 = .ok (.iconst 2, 1) := by decide +kernel
theorem dX8_nextToken_71 : decode cX8_nextToken 71 = .ok (.goto 47, 3) := by decide +kernel
theorem dX8_nextToken_74 : decode cX8_nextToken 74 = .ok (.aload_n 0, 1) := by decide +kernel
theorem dX8_nextToken_75 : decode cX8_nextToken 75 = .ok (.getfield 91, 3) := by decide +kernel
theorem dX8_nextToken_78 : decode cX8_nextToken 78 = .ok (.i2l, 1) := by decide +kernel
theorem dX8_nextToken_79 : decode cX8_nextToken 79 = .ok (.ldc2_w 98, 3) := by decide +kernel
theorem dX8_nextToken_82 : decode cX8_nextToken 82 = .ok (.ldc2_w 100, 3) := by decide +kernel
theorem dX8_nextToken_85 : decode cX8_nextToken 85 = .ok (.invokestatic 57, 3) := by decide +kernel
theorem dX8_nextToken_88 : decode cX8_nextToken 88 = .ok (.ifCond .eq 7, 3) := by decide +kernel
theorem dX8_nextToken_91 : decode cX8_nextToken 91 = .ok (.iconst 3, 1) := by decide +kernel
theorem dX8_nextToken_92 : decode cX8_nextToken 92 = .ok (.goto 26, 3) := by decide +kernel
theorem dX8_nextToken_95 : decode cX8_nextToken 95 = .ok (.aload_n 0, 1) := by decide +kernel
theorem dX8_nextToken_96 : decode cX8_nextToken 96 = .ok (.getfield 91, 3) := by decide +kernel
theorem dX8_nextToken_99 : decode cX8_nextToken 99 = .ok (.bipush 44, 2) := by decide +kernel
theorem dX8_nextToken_101 : decode cX8_nextToken 101 = .ok (.if_icmp .eq 12, 3) := by decide +kernel
theorem dX8_nextToken_104 : decode cX8_nextToken 104 = .ok (.aload_n 0, 1) := by decide +kernel
theorem dX8_nextToken_105 : decode cX8_nextToken 105 = .ok (.getfield 91, 3) := by decide +kernel
theorem dX8_nextToken_108 : decode cX8_nextToken 108 = .ok (.bipush 59, 2) := by decide +kernel
theorem dX8_nextToken_110 : decode cX8_nextToken 110 = .ok (.if_icmp .ne 7, 3) := by decide +kernel
theorem dX8_nextToken_113 : decode cX8_nextToken 113 = .ok (.iconst 4, 1) := by decide +kernel
theorem dX8_nextToken_114 : decode cX8_nextToken 114 = .ok (.goto 4, 3) := by decide +kernel
theorem dX8_nextToken_117 : decode cX8_nextToken 117 = .ok (.iconst 0, 1) := by decide +kernel
theorem dX8_nextToken_118 : decode cX8_nextToken 118 = .ok (.putfield 102, 3) := by decide +kernel
theorem dX8_nextToken_121 : decode cX8_nextToken 121 = .ok (.aload_n 0, 1) := by decide +kernel
theorem dX8_nextToken_122 : decode cX8_nextToken 122 = .ok (.dup, 1) := by decide +kernel
theorem dX8_nextToken_123 : decode cX8_nextToken 123 = .ok (.getfield 87, 3) := by decide +kernel
theorem dX8_nextToken_126 : decode cX8_nextToken 126 = .ok (.aload_n 0, 1) := by decide +kernel
theorem dX8_nextToken_127 : decode cX8_nextToken 127 = .ok (.getfield 87, 3) := by decide +kernel
theorem dX8_nextToken_130 : decode cX8_nextToken 130 = .ok (.aload_n 0, 1) := by decide +kernel
theorem dX8_nextToken_131 : decode cX8_nextToken 131 = .ok (.getfield 74, 3) := by decide +kernel
theorem dX8_nextToken_134 : decode cX8_nextToken 134 = .ok (.if_icmp .ge 7, 3) := by decide +kernel
theorem dX8_nextToken_137 : decode cX8_nextToken 137 = .ok (.iconst 1, 1) := by decide +kernel
theorem dX8_nextToken_138 : decode cX8_nextToken 138 = .ok (.goto 4, 3) := by decide +kernel
theorem dX8_nextToken_141 : decode cX8_nextToken 141 = .ok (.iconst 0, 1) := by decide +kernel
theorem dX8_nextToken_142 : decode cX8_nextToken 142 = .ok (.iadd, 1) := by decide +kernel
theorem dX8_nextToken_143 : decode cX8_nextToken 143 = .ok (.putfield 87, 3) := by decide +kernel
theorem dX8_nextToken_146 : decode cX8_nextToken 146 = .ok (.aload_n 0, 1) := by decide +kernel
theorem dX8_nextToken_147 : decode cX8_nextToken 147 = .ok (.getfield 102, 3) := by decide +kernel
theorem dX8_nextToken_150 : decode cX8_nextToken 150 = .ok (.iconst 3, 1) := by decide +kernel
theorem dX8_nextToken_151 : decode cX8_nextToken 151 = .ok (.if_icmp .ne 126, 3) := by decide +kernel
theorem dX8_nextToken_154 : decode cX8_nextToken 154 = .ok (.aload_n 0, 1) := by decide +kernel
theorem dX8_nextToken_155 : decode cX8_nextToken 155 = .ok (.dup, 1) := by decide +kernel
theorem dX8_nextToken_156 : decode cX8_nextToken 156 = .ok (.getfield 91, 3) := by decide +kernel
theorem dX8_nextToken_159 : decode cX8_nextToken 159 = .ok (.bipush 48, 2) := by decide +kernel
theorem dX8_nextToken_161 : decode cX8_nextToken 161 = .ok (.isub, 1) := by decide +kernel
theorem dX8_nextToken_162 : decode cX8_nextToken 162 = .ok (.putfield 91, 3) := by decide +kernel
theorem dX8_nextToken_165 : decode cX8_nextToken 165 = .ok (.aload_n 0, 1) := by decide +kernel
theorem dX8_nextToken_166 : decode cX8_nextToken 166 = .ok (.getfield 87, 3) := by decide +kernel
theorem dX8_nextToken_169 : decode cX8_nextToken 169 = .ok (.aload_n 0, 1) := by decide +kernel
theorem dX8_nextToken_170 : decode cX8_nextToken 170 = .ok (.getfield 74, 3) := by decide +kernel
theorem dX8_nextToken_173 : decode cX8_nextToken 173 = .ok (.if_icmp .ge 82, 3) := by decide +kernel
theorem dX8_nextToken_176 : decode cX8_nextToken 176 = .ok (.aload_n 0, 1) := by decide +kernel
theorem dX8_nextToken_177 : decode cX8_nextToken 177 = .ok (.getfield 31, 3) := by decide +kernel
theorem dX8_nextToken_180 : decode cX8_nextToken 180 = .ok (.aload_n 0, 1) := by decide +kernel
theorem dX8_nextToken_181 : decode cX8_nextToken 181 = .ok (.getfield 87, 3) := by decide +kernel
theorem dX8_nextToken_184 : decode cX8_nextToken 184 = .ok (.iaload, 1) := by decide +kernel
theorem dX8_nextToken_185 : decode cX8_nextToken 185 = .ok (.i2l, 1) := by decide +kernel
theorem dX8_nextToken_186 : decode cX8_nextToken 186 = .ok (.ldc2_w 98, 3) := by decide +kernel
theorem dX8_nextToken_189 : decode cX8_nextToken 189 = .ok (.ldc2_w 100, 3) := by decide +kernel
theorem dX8_nextToken_192 : decode cX8_nextToken 192 = .ok (.invokestatic 57, 3) := by decide +kernel
theorem dX8_nextToken_195 : decode cX8_nextToken 195 = .ok (.ifCond .eq 60, 3) := by decide +kernel
theorem dX8_nextToken_198 : decode cX8_nextToken 198 = .ok (.aload_n 0, 1) := by decide +kernel
theorem dX8_nextToken_199 : decode cX8_nextToken 199 = .ok (.aload_n 0, 1) := by decide +kernel
theorem dX8_nextToken_200 : decode cX8_nextToken 200 = .ok (.getfield 87, 3) := by decide +kernel
theorem dX8_nextToken_203 : decode cX8_nextToken 203 = .ok (.aload_n 0, 1) := by decide +kernel
theorem dX8_nextToken_204 : decode cX8_nextToken 204 = .ok (.getfield 81, 3) := by decide +kernel
theorem dX8_nextToken_207 : decode cX8_nextToken 207 = .ok (.isub, 1) := by decide +kernel
theorem dX8_nextToken_208 : decode cX8_nextToken 208 = .ok (.iconst 2, 1) := by decide +kernel
theorem dX8_nextToken_209 : decode cX8_nextToken 209 = .ok (.if_icmp .ge 26, 3) := by decide +kernel
theorem dX8_nextToken_212 : decode cX8_nextToken 212 = .ok (.bipush 10, 2) := by decide +kernel
theorem dX8_nextToken_214 : decode cX8_nextToken 214 = .ok (.aload_n 0, 1) := by decide +kernel
theorem dX8_nextToken_215 : decode cX8_nextToken 215 = .ok (.getfield 91, 3) := by decide +kernel
theorem dX8_nextToken_218 : decode cX8_nextToken 218 = .ok (.imul, 1) := by decide +kernel
theorem dX8_nextToken_219 : decode cX8_nextToken 219 = .ok (.aload_n 0, 1) := by decide +kernel
theorem dX8_nextToken_220 : decode cX8_nextToken 220 = .ok (.getfield 31, 3) := by decide +kernel
theorem dX8_nextToken_223 : decode cX8_nextToken 223 = .ok (.aload_n 0, 1) := by decide +kernel
theorem dX8_nextToken_224 : decode cX8_nextToken 224 = .ok (.getfield 87, 3) := by decide +kernel
theorem dX8_nextToken_227 : decode cX8_nextToken 227 = .ok (.iaload, 1) := by decide +kernel
theorem dX8_nextToken_228 : decode cX8_nextToken 228 = .ok (.iadd, 1) := by decide +kernel
theorem dX8_nextToken_229 : decode cX8_nextToken 229 = .ok (.bipush 48, 2) := by decide +kernel
theorem dX8_nextToken_231 : decode cX8_nextToken 231 = .ok (.isub, 1) := by decide +kernel
theorem dX8_nextToken_232 : decode cX8_nextToken 232 = .ok (.goto 7, 3) := by decide +kernel
theorem dX8_nextToken_235 : decode cX8_nextToken 235 = .ok (.aload_n 0, 1) := by decide +kernel
theorem dX8_nextToken_236 : decode cX8_nextToken 236 = .ok (.getfield 91, 3) := by decide +kernel
theorem dX8_nextToken_239 : decode cX8_nextToken 239 = .ok (.putfield 91, 3) := by decide +kernel
theorem dX8_nextToken_242 : decode cX8_nextToken 242 = .ok (.aload_n 0, 1) := by decide +kernel
theorem dX8_nextToken_243 : decode cX8_nextToken 243 = .ok (.dup, 1) := by decide +kernel
theorem dX8_nextToken_244 : decode cX8_nextToken 244 = .ok (.getfield 87, 3) := by decide +kernel
theorem dX8_nextToken_247 : decode cX8_nextToken 247 = .ok (.iconst 1, 1) := by decide +kernel
theorem dX8_nextToken_248 : decode cX8_nextToken 248 = .ok (.iadd, 1) := by decide +kernel
theorem dX8_nextToken_249 : decode cX8_nextToken 249 = .ok (.putfield 87, 3) := by decide +kernel
theorem dX8_nextToken_252 : decode cX8_nextToken 252 = .ok (.goto (-87), 3) := by decide +kernel
theorem dX8_nextToken_255 : decode cX8_nextToken 255 = .ok (.aload_n 0, 1) := by decide +kernel
theorem dX8_nextToken_256 : decode cX8_nextToken 256 = .ok (.aload_n 0, 1) := by decide +kernel
theorem dX8_nextToken_257 : decode cX8_nextToken 257 = .ok (.getfield 87, 3) := by decide +kernel
theorem dX8_nextToken_260 : decode cX8_nextToken 260 = .ok (.aload_n 0, 1) := by decide +kernel
theorem dX8_nextToken_261 : decode cX8_nextToken 261 = .ok (.getfield 81, 3) := by decide +kernel

theorem dX0_init_0 : decode cX0_init 0 = .ok (.aload_n 0, 1) := by decide +kernel
theorem dX0_init_1 : decode cX0_init 1 = .ok (.invokespecial 1, 3) := by decide +kernel
theorem dX0_init_4 : decode cX0_init 4 = .ok (.aload_n 0, 1) := by decide +kernel
theorem dX0_init_5 : decode cX0_init 5 = .ok (.bipush 24, 2) := by decide +kernel
theorem dX0_init_7 : decode cX0_init 7 = .ok (.bipush 80, 2) := by decide +kernel
theorem dX0_init_9 : decode cX0_init 9 = .ok (.multianewarray 11 2, 4) := by decide +kernel
theorem dX0_init_13 : decode cX0_init 13 = .ok (.putfield 13, 3) := by decide +kernel
theorem dX0_init_16 : decode cX0_init 16 = .ok (.aload_n 0, 1) := by decide +kernel
theorem dX0_init_17 : decode cX0_init 17 = .ok (.iconst 0, 1) := by decide +kernel
theorem dX0_init_18 : decode cX0_init 18 = .ok (.putfield 16, 3) := by decide +kernel
theorem dX0_init_21 : decode cX0_init 21 = .ok (.aload_n 0, 1) := by decide +kernel
theorem dX0_init_22 : decode cX0_init 22 = .ok (.iconst 0, 1) := by decide +kernel
theorem dX0_init_23 : decode cX0_init 23 = .ok (.putfield 20, 3) := by decide +kernel
theorem dX0_init_26 : decode cX0_init 26 = .ok (.return_, 1) := by decide +kernel
theorem dX0_keep_0 : decode cX0_keep 0 = .ok (.aload_n 1, 1) := by decide +kernel
theorem dX0_keep_1 : decode cX0_keep 1 = .ok (.iconst 0, 1) := by decide +kernel
theorem dX0_keep_2 : decode cX0_keep 2 = .ok (.aload_n 0, 1) := by decide +kernel
theorem dX0_keep_3 : decode cX0_keep 3 = .ok (.getfield 13, 3) := by decide +kernel
theorem dX0_keep_6 : decode cX0_keep 6 = .ok (.aload_n 0, 1) := by decide +kernel
theorem dX0_keep_7 : decode cX0_keep 7 = .ok (.getfield 16, 3) := by decide +kernel
theorem dX0_keep_10 : decode cX0_keep 10 = .ok (.aaload, 1) := by decide +kernel
theorem dX0_keep_11 : decode cX0_keep 11 = .ok (.iconst 0, 1) := by decide +kernel
theorem dX0_keep_12 : decode cX0_keep 12 = .ok (.bipush 80, 2) := by decide +kernel
theorem dX0_keep_14 : decode cX0_keep 14 = .ok (.invokestatic 23, 3) := by decide +kernel
theorem dX0_keep_17 : decode cX0_keep 17 = .ok (.aload_n 0, 1) := by decide +kernel
theorem dX0_keep_18 : decode cX0_keep 18 = .ok (.aload_n 0, 1) := by decide +kernel
theorem dX0_keep_19 : decode cX0_keep 19 = .ok (.getfield 16, 3) := by decide +kernel
theorem dX0_keep_22 : decode cX0_keep 22 = .ok (.iconst 1, 1) := by decide +kernel
theorem dX0_keep_23 : decode cX0_keep 23 = .ok (.iadd, 1) := by decide +kernel
theorem dX0_keep_24 : decode cX0_keep 24 = .ok (.bipush 24, 2) := by decide +kernel
theorem dX0_keep_26 : decode cX0_keep 26 = .ok (.if_icmp .ge 12, 3) := by decide +kernel
theorem dX0_keep_29 : decode cX0_keep 29 = .ok (.aload_n 0, 1) := by decide +kernel
theorem dX0_keep_30 : decode cX0_keep 30 = .ok (.getfield 16, 3) := by decide +kernel
theorem dX0_keep_33 : decode cX0_keep 33 = .ok (.iconst 1, 1) := by decide +kernel
theorem dX0_keep_34 : decode cX0_keep 34 = .ok (.iadd, 1) := by decide +kernel
theorem dX0_keep_35 : decode cX0_keep 35 = .ok (.goto 4, 3) := by decide +kernel
theorem dX0_keep_38 : decode cX0_keep 38 = .ok (.iconst 0, 1) := by decide +kernel
theorem dX0_keep_39 : decode cX0_keep 39 = .ok (.putfield 16, 3) := by decide +kernel
theorem dX0_keep_42 : decode cX0_keep 42 = .ok (.aload_n 0, 1) := by decide +kernel
theorem dX0_keep_43 : decode cX0_keep 43 = .ok (.aload_n 0, 1) := by decide +kernel
theorem dX0_keep_44 : decode cX0_keep 44 = .ok (.getfield 20, 3) := by decide +kernel
theorem dX0_keep_47 : decode cX0_keep 47 = .ok (.iconst 1, 1) := by decide +kernel
theorem dX0_keep_48 : decode cX0_keep 48 = .ok (.iadd, 1) := by decide +kernel
theorem dX0_keep_49 : decode cX0_keep 49 = .ok (.bipush 24, 2) := by decide +kernel
theorem dX0_keep_51 : decode cX0_keep 51 = .ok (.invokestatic 29, 3) := by decide +kernel
theorem dX0_keep_54 : decode cX0_keep 54 = .ok (.putfield 20, 3) := by decide +kernel
theorem dX0_keep_57 : decode cX0_keep 57 = .ok (.return_, 1) := by decide +kernel
theorem dX0_latest_0 : decode cX0_latest 0 = .ok (.aload_n 0, 1) := by decide +kernel
theorem dX0_latest_1 : decode cX0_latest 1 = .ok (.aload_n 0, 1) := by decide +kernel
theorem dX0_latest_2 : decode cX0_latest 2 = .ok (.getfield 16, 3) := by decide +kernel
theorem dX0_latest_5 : decode cX0_latest 5 = .ok (.ifCond .le 12, 3) := by decide +kernel
theorem dX0_latest_8 : decode cX0_latest 8 = .ok (.aload_n 0, 1) := by decide +kernel
theorem dX0_latest_9 : decode cX0_latest 9 = .ok (.getfield 16, 3) := by decide +kernel
theorem dX0_latest_12 : decode cX0_latest 12 = .ok (.iconst 1, 1) := by decide +kernel
theorem dX0_latest_13 : decode cX0_latest 13 = .ok (.isub, 1) := by decide +kernel
theorem dX0_latest_14 : decode cX0_latest 14 = .ok (.goto 5, 3) := by decide +kernel
theorem dX0_latest_17 : decode cX0_latest 17 = .ok (.bipush 23, 2) := by decide +kernel
theorem dX0_latest_19 : decode cX0_latest 19 = .ok (.putfield 16, 3) := by decide +kernel
theorem dX0_latest_22 : decode cX0_latest 22 = .ok (.aload_n 0, 1) := by decide +kernel
theorem dX0_latest_23 : decode cX0_latest 23 = .ok (.aload_n 0, 1) := by decide +kernel
theorem dX0_latest_24 : decode cX0_latest 24 = .ok (.getfield 20, 3) := by decide +kernel
theorem dX0_latest_27 : decode cX0_latest 27 = .ok (.iconst 1, 1) := by decide +kernel
theorem dX0_latest_28 : decode cX0_latest 28 = .ok (.isub, 1) := by decide +kernel
theorem dX0_latest_29 : decode cX0_latest 29 = .ok (.iconst 0, 1) := by decide +kernel
theorem dX0_latest_30 : decode cX0_latest 30 = .ok (.invokestatic 35, 3) := by decide +kernel
theorem dX0_latest_33 : decode cX0_latest 33 = .ok (.putfield 20, 3) := by decide +kernel
theorem dX0_latest_36 : decode cX0_latest 36 = .ok (.aload_n 0, 1) := by decide +kernel
theorem dX0_latest_37 : decode cX0_latest 37 = .ok (.getfield 13, 3) := by decide +kernel
theorem dX0_latest_40 : decode cX0_latest 40 = .ok (.aload_n 0, 1) := by decide +kernel
theorem dX0_latest_41 : decode cX0_latest 41 = .ok (.getfield 16, 3) := by decide +kernel
theorem dX0_latest_44 : decode cX0_latest 44 = .ok (.aaload, 1) := by decide +kernel
theorem dX0_latest_45 : decode cX0_latest 45 = .ok (.areturn, 1) := by decide +kernel
theorem dX0_forget_0 : decode cX0_forget 0 = .ok (.aload_n 0, 1) := by decide +kernel
theorem dX0_forget_1 : decode cX0_forget 1 = .ok (.iconst 0, 1) := by decide +kernel
theorem dX0_forget_2 : decode cX0_forget 2 = .ok (.putfield 20, 3) := by decide +kernel
theorem dX0_forget_5 : decode cX0_forget 5 = .ok (.return_, 1) := by decide +kernel
theorem dX1_init_0 : decode cX1_init 0 = .ok (.aload_n 0, 1) := by decide +kernel
theorem dX1_init_1 : decode cX1_init 1 = .ok (.invokespecial 1, 3) := by decide +kernel
theorem dX1_init_4 : decode cX1_init 4 = .ok (.aload_n 0, 1) := by decide +kernel
theorem dX1_init_5 : decode cX1_init 5 = .ok (.bipush 16, 2) := by decide +kernel
theorem dX1_init_7 : decode cX1_init 7 = .ok (.newarray .int, 2) := by decide +kernel
theorem dX1_init_9 : decode cX1_init 9 = .ok (.putfield 9, 3) := by decide +kernel
theorem dX1_init_12 : decode cX1_init 12 = .ok (.aload_n 0, 1) := by decide +kernel
theorem dX1_init_13 : decode cX1_init 13 = .ok (.iconst 0, 1) := by decide +kernel
theorem dX1_init_14 : decode cX1_init 14 = .ok (.putfield 13, 3) := by decide +kernel
theorem dX1_init_17 : decode cX1_init 17 = .ok (.return_, 1) := by decide +kernel
theorem dX1_answer_0 : decode cX1_answer 0 = .ok (.aload_n 0, 1) := by decide +kernel
theorem dX1_answer_1 : decode cX1_answer 1 = .ok (.iconst 0, 1) := by decide +kernel
theorem dX1_answer_2 : decode cX1_answer 2 = .ok (.putfield 13, 3) := by decide +kernel
theorem dX1_answer_5 : decode cX1_answer 5 = .ok (.iload_n 3, 1) := by decide +kernel
theorem dX1_answer_6 : decode cX1_answer 6 = .ok (.ifCond .ne 13, 3) := by decide +kernel
theorem dX1_answer_9 : decode cX1_answer 9 = .ok (.aload_n 0, 1) := by decide +kernel
theorem dX1_answer_10 : decode cX1_answer 10 = .ok (.aload_n 1, 1) := by decide +kernel
theorem dX1_answer_11 : decode cX1_answer 11 = .ok (.iload_n 2, 1) := by decide +kernel
theorem dX1_answer_12 : decode cX1_answer 12 = .ok (.iconst 0, 1) := by decide +kernel
theorem dX1_answer_13 : decode cX1_answer 13 = .ok (.invokevirtual 17, 3) := by decide +kernel
theorem dX1_answer_16 : decode cX1_answer 16 = .ok (.goto 10, 3) := by decide +kernel
theorem dX1_answer_19 : decode cX1_answer 19 = .ok (.aload_n 0, 1) := by decide +kernel
theorem dX1_answer_20 : decode cX1_answer 20 = .ok (.aload_n 1, 1) := by decide +kernel
theorem dX1_answer_21 : decode cX1_answer 21 = .ok (.iload_n 2, 1) := by decide +kernel
theorem dX1_answer_22 : decode cX1_answer 22 = .ok (.iconst 0, 1) := by decide +kernel
theorem dX1_answer_23 : decode cX1_answer 23 = .ok (.invokevirtual 21, 3) := by decide +kernel
theorem dX1_answer_26 : decode cX1_answer 26 = .ok (.ireturn, 1) := by decide +kernel
theorem dX1_sizeOf_0 : decode cX1_sizeOf 0 = .ok (.aload_n 0, 1) := by decide +kernel
theorem dX1_sizeOf_1 : decode cX1_sizeOf 1 = .ok (.getstatic 24, 3) := by decide +kernel
theorem dX1_sizeOf_4 : decode cX1_sizeOf 4 = .ok (.aload_n 1, 1) := by decide +kernel
theorem dX1_sizeOf_5 : decode cX1_sizeOf 5 = .ok (.getfield 27, 3) := by decide +kernel
theorem dX1_sizeOf_8 : decode cX1_sizeOf 8 = .ok (.iconst 5, 1) := by decide +kernel
theorem dX1_sizeOf_9 : decode cX1_sizeOf 9 = .ok (.iload_n 2, 1) := by decide +kernel
theorem dX1_sizeOf_10 : decode cX1_sizeOf 10 = .ok (.iadd, 1) := by decide +kernel
theorem dX1_sizeOf_11 : decode cX1_sizeOf 11 = .ok (.iaload, 1) := by decide +kernel
theorem dX1_sizeOf_12 : decode cX1_sizeOf 12 = .ok (.iaload, 1) := by decide +kernel
theorem dX1_sizeOf_13 : decode cX1_sizeOf 13 = .ok (.aload_n 1, 1) := by decide +kernel
theorem dX1_sizeOf_14 : decode cX1_sizeOf 14 = .ok (.iload_n 2, 1) := by decide +kernel
theorem dX1_sizeOf_15 : decode cX1_sizeOf 15 = .ok (.iload_n 3, 1) := by decide +kernel
theorem dX1_sizeOf_16 : decode cX1_sizeOf 16 = .ok (.invokevirtual 32, 3) := by decide +kernel
theorem dX1_sizeOf_19 : decode cX1_sizeOf 19 = .ok (.ireturn, 1) := by decide +kernel
theorem dX1_markOf_0 : decode cX1_markOf 0 = .ok (.aload_n 0, 1) := by decide +kernel
theorem dX1_markOf_1 : decode cX1_markOf 1 = .ok (.getstatic 36, 3) := by decide +kernel
theorem dX1_markOf_4 : decode cX1_markOf 4 = .ok (.aload_n 1, 1) := by decide +kernel
theorem dX1_markOf_5 : decode cX1_markOf 5 = .ok (.getfield 27, 3) := by decide +kernel
theorem dX1_markOf_8 : decode cX1_markOf 8 = .ok (.iconst 5, 1) := by decide +kernel
theorem dX1_markOf_9 : decode cX1_markOf 9 = .ok (.iload_n 2, 1) := by decide +kernel
theorem dX1_markOf_10 : decode cX1_markOf 10 = .ok (.iadd, 1) := by decide +kernel
theorem dX1_markOf_11 : decode cX1_markOf 11 = .ok (.iaload, 1) := by decide +kernel
theorem dX1_markOf_12 : decode cX1_markOf 12 = .ok (.iaload, 1) := by decide +kernel
theorem dX1_markOf_13 : decode cX1_markOf 13 = .ok (.aload_n 1, 1) := by decide +kernel
theorem dX1_markOf_14 : decode cX1_markOf 14 = .ok (.iload_n 2, 1) := by decide +kernel
theorem dX1_markOf_15 : decode cX1_markOf 15 = .ok (.iload_n 3, 1) := by decide +kernel
theorem dX1_markOf_16 : decode cX1_markOf 16 = .ok (.invokevirtual 32, 3) := by decide +kernel
theorem dX1_markOf_19 : decode cX1_markOf 19 = .ok (.ireturn, 1) := by decide +kernel
theorem dX1_give_0 : decode cX1_give 0 = .ok (.iload 4, 2) := by decide +kernel
theorem dX1_give_2 : decode cX1_give 2 = .ok (.bipush 8, 2) := by decide +kernel
theorem dX1_give_4 : decode cX1_give 4 = .ok (.if_icmp .le 5, 3) := by decide +kernel
theorem dX1_give_7 : decode cX1_give 7 = .ok (.iconst 0, 1) := by decide +kernel
theorem dX1_give_8 : decode cX1_give 8 = .ok (.ireturn, 1) := by decide +kernel
theorem dX1_give_9 : decode cX1_give 9 = .ok (.aload_n 0, 1) := by decide +kernel
theorem dX1_give_10 : decode cX1_give 10 = .ok (.iload_n 1, 1) := by decide +kernel
theorem dX1_give_11 : decode cX1_give 11 = .ok (.invokevirtual 39, 3) := by decide +kernel
theorem dX1_give_14 : decode cX1_give 14 = .ok (.iload 4, 2) := by decide +kernel
theorem dX1_give_16 : decode cX1_give 16 = .ok (.iconst 1, 1) := by decide +kernel
theorem dX1_give_17 : decode cX1_give 17 = .ok (.iadd, 1) := by decide +kernel
theorem dX1_give_18 : decode cX1_give 18 = .ok (.istore 5, 2) := by decide +kernel
theorem dX1_give_20 : decode cX1_give 20 = .ok (.iload_n 1, 1) := by decide +kernel
theorem dX1_give_21 : decode cX1_give 21 = .ok (.tableswitch 216 10 24 #[75, 85, 105, 118, 132, 216, 216, 216, 216, 216, 145, 147, 168, 183, 203], 75) := by decide +kernel
theorem dX1_give_96 : decode cX1_give 96 = .ok (.aload_n 2, 1) := by decide +kernel
theorem dX1_give_97 : decode cX1_give 97 = .ok (.getfield 27, 3) := by decide +kernel
theorem dX1_give_100 : decode cX1_give 100 = .ok (.bipush 26, 2) := by decide +kernel
theorem dX1_give_102 : decode cX1_give 102 = .ok (.iload_n 3, 1) := by decide +kernel
theorem dX1_give_103 : decode cX1_give 103 = .ok (.iadd, 1) := by decide +kernel
theorem dX1_give_104 : decode cX1_give 104 = .ok (.iaload, 1) := by decide +kernel
theorem dX1_give_105 : decode cX1_give 105 = .ok (.ireturn, 1) := by decide +kernel
theorem dX1_give_106 : decode cX1_give 106 = .ok (.aload_n 0, 1) := by decide +kernel
theorem dX1_give_107 : decode cX1_give 107 = .ok (.bipush 10, 2) := by decide +kernel
theorem dX1_give_109 : decode cX1_give 109 = .ok (.aload_n 2, 1) := by decide +kernel
theorem dX1_give_110 : decode cX1_give 110 = .ok (.iload_n 3, 1) := by decide +kernel
theorem dX1_give_111 : decode cX1_give 111 = .ok (.iload 5, 2) := by decide +kernel
theorem dX1_give_113 : decode cX1_give 113 = .ok (.invokevirtual 32, 3) := by decide +kernel
theorem dX1_give_116 : decode cX1_give 116 = .ok (.aload_n 0, 1) := by decide +kernel
theorem dX1_give_117 : decode cX1_give 117 = .ok (.aload_n 2, 1) := by decide +kernel
theorem dX1_give_118 : decode cX1_give 118 = .ok (.iload_n 3, 1) := by decide +kernel
theorem dX1_give_119 : decode cX1_give 119 = .ok (.iload 5, 2) := by decide +kernel
theorem dX1_give_121 : decode cX1_give 121 = .ok (.invokevirtual 21, 3) := by decide +kernel
theorem dX1_give_124 : decode cX1_give 124 = .ok (.iadd, 1) := by decide +kernel
theorem dX1_give_125 : decode cX1_give 125 = .ok (.ireturn, 1) := by decide +kernel
theorem dX1_give_126 : decode cX1_give 126 = .ok (.iconst 0, 1) := by decide +kernel
theorem dX1_give_127 : decode cX1_give 127 = .ok (.aload_n 0, 1) := by decide +kernel
theorem dX1_give_128 : decode cX1_give 128 = .ok (.bipush 11, 2) := by decide +kernel
theorem dX1_give_130 : decode cX1_give 130 = .ok (.aload_n 2, 1) := by decide +kernel
theorem dX1_give_131 : decode cX1_give 131 = .ok (.iload_n 3, 1) := by decide +kernel
theorem dX1_give_132 : decode cX1_give 132 = .ok (.iload 5, 2) := by decide +kernel
theorem dX1_give_134 : decode cX1_give 134 = .ok (.invokevirtual 32, 3) := by decide +kernel
theorem dX1_give_137 : decode cX1_give 137 = .ok (.isub, 1) := by decide +kernel
theorem dX1_give_138 : decode cX1_give 138 = .ok (.ireturn, 1) := by decide +kernel
theorem dX1_give_139 : decode cX1_give 139 = .ok (.aload_n 0, 1) := by decide +kernel
theorem dX1_give_140 : decode cX1_give 140 = .ok (.bipush 10, 2) := by decide +kernel
theorem dX1_give_142 : decode cX1_give 142 = .ok (.aload_n 2, 1) := by decide +kernel
theorem dX1_give_143 : decode cX1_give 143 = .ok (.iload_n 3, 1) := by decide +kernel
theorem dX1_give_144 : decode cX1_give 144 = .ok (.iload 5, 2) := by decide +kernel
theorem dX1_give_146 : decode cX1_give 146 = .ok (.invokevirtual 32, 3) := by decide +kernel
theorem dX1_give_149 : decode cX1_give 149 = .ok (.bipush 100, 2) := by decide +kernel
theorem dX1_give_151 : decode cX1_give 151 = .ok (.isub, 1) := by decide +kernel
theorem dX1_give_152 : decode cX1_give 152 = .ok (.ireturn, 1) := by decide +kernel
theorem dX1_give_153 : decode cX1_give 153 = .ok (.iconst 2, 1) := by decide +kernel
theorem dX1_give_154 : decode cX1_give 154 = .ok (.aload_n 0, 1) := by decide +kernel
theorem dX1_give_155 : decode cX1_give 155 = .ok (.bipush 13, 2) := by decide +kernel
theorem dX1_give_157 : decode cX1_give 157 = .ok (.aload_n 2, 1) := by decide +kernel
theorem dX1_give_158 : decode cX1_give 158 = .ok (.iload_n 3, 1) := by decide +kernel
theorem dX1_give_159 : decode cX1_give 159 = .ok (.iload 5, 2) := by decide +kernel
theorem dX1_give_161 : decode cX1_give 161 = .ok (.invokevirtual 32, 3) := by decide +kernel
theorem dX1_give_164 : decode cX1_give 164 = .ok (.imul, 1) := by decide +kernel
theorem dX1_give_165 : decode cX1_give 165 = .ok (.ireturn, 1) := by decide +kernel
theorem dX1_give_166 : decode cX1_give 166 = .ok (.iload_n 3, 1) := by decide +kernel
theorem dX1_give_167 : decode cX1_give 167 = .ok (.ireturn, 1) := by decide +kernel
theorem dX1_give_168 : decode cX1_give 168 = .ok (.aload_n 0, 1) := by decide +kernel
theorem dX1_give_169 : decode cX1_give 169 = .ok (.bipush 20, 2) := by decide +kernel
theorem dX1_give_171 : decode cX1_give 171 = .ok (.aload_n 2, 1) := by decide +kernel
theorem dX1_give_172 : decode cX1_give 172 = .ok (.iload_n 3, 1) := by decide +kernel
theorem dX1_give_173 : decode cX1_give 173 = .ok (.iload 5, 2) := by decide +kernel
theorem dX1_give_175 : decode cX1_give 175 = .ok (.invokevirtual 32, 3) := by decide +kernel
theorem dX1_give_178 : decode cX1_give 178 = .ok (.aload_n 2, 1) := by decide +kernel
theorem dX1_give_179 : decode cX1_give 179 = .ok (.getfield 27, 3) := by decide +kernel
theorem dX1_give_182 : decode cX1_give 182 = .ok (.bipush 33, 2) := by decide +kernel
theorem dX1_give_184 : decode cX1_give 184 = .ok (.iload_n 3, 1) := by decide +kernel
theorem dX1_give_185 : decode cX1_give 185 = .ok (.iadd, 1) := by decide +kernel
theorem dX1_give_186 : decode cX1_give 186 = .ok (.iaload, 1) := by decide +kernel
theorem dX1_give_187 : decode cX1_give 187 = .ok (.iadd, 1) := by decide +kernel
theorem dX1_give_188 : decode cX1_give 188 = .ok (.ireturn, 1) := by decide +kernel
theorem dX1_give_189 : decode cX1_give 189 = .ok (.aload_n 0, 1) := by decide +kernel
theorem dX1_give_190 : decode cX1_give 190 = .ok (.bipush 21, 2) := by decide +kernel
theorem dX1_give_192 : decode cX1_give 192 = .ok (.aload_n 2, 1) := by decide +kernel
theorem dX1_give_193 : decode cX1_give 193 = .ok (.iload_n 3, 1) := by decide +kernel
theorem dX1_give_194 : decode cX1_give 194 = .ok (.iload 5, 2) := by decide +kernel
theorem dX1_give_196 : decode cX1_give 196 = .ok (.invokevirtual 32, 3) := by decide +kernel
theorem dX1_give_199 : decode cX1_give 199 = .ok (.sipush 1000, 3) := by decide +kernel
theorem dX1_give_202 : decode cX1_give 202 = .ok (.isub, 1) := by decide +kernel
theorem dX1_give_203 : decode cX1_give 203 = .ok (.ireturn, 1) := by decide +kernel
theorem dX1_give_204 : decode cX1_give 204 = .ok (.aload_n 0, 1) := by decide +kernel
theorem dX1_give_205 : decode cX1_give 205 = .ok (.bipush 20, 2) := by decide +kernel
theorem dX1_give_207 : decode cX1_give 207 = .ok (.aload_n 2, 1) := by decide +kernel
theorem dX1_give_208 : decode cX1_give 208 = .ok (.iload_n 3, 1) := by decide +kernel
theorem dX1_give_209 : decode cX1_give 209 = .ok (.iload 5, 2) := by decide +kernel
theorem dX1_give_211 : decode cX1_give 211 = .ok (.invokevirtual 32, 3) := by decide +kernel
theorem dX1_give_214 : decode cX1_give 214 = .ok (.aload_n 0, 1) := by decide +kernel
theorem dX1_give_215 : decode cX1_give 215 = .ok (.aload_n 2, 1) := by decide +kernel
theorem dX1_give_216 : decode cX1_give 216 = .ok (.iload_n 3, 1) := by decide +kernel
theorem dX1_give_217 : decode cX1_give 217 = .ok (.iload 5, 2) := by decide +kernel
theorem dX1_give_219 : decode cX1_give 219 = .ok (.invokevirtual 17, 3) := by decide +kernel
theorem dX1_give_222 : decode cX1_give 222 = .ok (.isub, 1) := by decide +kernel
theorem dX1_give_223 : decode cX1_give 223 = .ok (.ireturn, 1) := by decide +kernel
theorem dX1_give_224 : decode cX1_give 224 = .ok (.iconst 2, 1) := by decide +kernel
theorem dX1_give_225 : decode cX1_give 225 = .ok (.aload_n 0, 1) := by decide +kernel
theorem dX1_give_226 : decode cX1_give 226 = .ok (.bipush 21, 2) := by decide +kernel
theorem dX1_give_228 : decode cX1_give 228 = .ok (.aload_n 2, 1) := by decide +kernel
theorem dX1_give_229 : decode cX1_give 229 = .ok (.iload_n 3, 1) := by decide +kernel
theorem dX1_give_230 : decode cX1_give 230 = .ok (.iload 5, 2) := by decide +kernel
theorem dX1_give_232 : decode cX1_give 232 = .ok (.invokevirtual 32, 3) := by decide +kernel
theorem dX1_give_235 : decode cX1_give 235 = .ok (.imul, 1) := by decide +kernel
theorem dX1_give_236 : decode cX1_give 236 = .ok (.ireturn, 1) := by decide +kernel
theorem dX1_give_237 : decode cX1_give 237 = .ok (.iconst 0, 1) := by decide +kernel
theorem dX1_give_238 : decode cX1_give 238 = .ok (.ireturn, 1) := by decide +kernel
theorem dX1_leave_0 : decode cX1_leave 0 = .ok (.aload_n 0, 1) := by decide +kernel
theorem dX1_leave_1 : decode cX1_leave 1 = .ok (.getfield 13, 3) := by decide +kernel
theorem dX1_leave_4 : decode cX1_leave 4 = .ok (.bipush 16, 2) := by decide +kernel
theorem dX1_leave_6 : decode cX1_leave 6 = .ok (.if_icmp .ge 23, 3) := by decide +kernel
theorem dX1_leave_9 : decode cX1_leave 9 = .ok (.aload_n 0, 1) := by decide +kernel
theorem dX1_leave_10 : decode cX1_leave 10 = .ok (.getfield 9, 3) := by decide +kernel
theorem dX1_leave_13 : decode cX1_leave 13 = .ok (.aload_n 0, 1) := by decide +kernel
theorem dX1_leave_14 : decode cX1_leave 14 = .ok (.getfield 13, 3) := by decide +kernel
theorem dX1_leave_17 : decode cX1_leave 17 = .ok (.iload_n 1, 1) := by decide +kernel
theorem dX1_leave_18 : decode cX1_leave 18 = .ok (.iastore, 1) := by decide +kernel
theorem dX1_leave_19 : decode cX1_leave 19 = .ok (.aload_n 0, 1) := by decide +kernel
theorem dX1_leave_20 : decode cX1_leave 20 = .ok (.dup, 1) := by decide +kernel
theorem dX1_leave_21 : decode cX1_leave 21 = .ok (.getfield 13, 3) := by decide +kernel
theorem dX1_leave_24 : decode cX1_leave 24 = .ok (.iconst 1, 1) := by decide +kernel
theorem dX1_leave_25 : decode cX1_leave 25 = .ok (.iadd, 1) := by decide +kernel
theorem dX1_leave_26 : decode cX1_leave 26 = .ok (.putfield 13, 3) := by decide +kernel
theorem dX1_leave_29 : decode cX1_leave 29 = .ok (.return_, 1) := by decide +kernel
theorem dX2_init_0 : decode cX2_init 0 = .ok (.aload_n 0, 1) := by decide +kernel
theorem dX2_init_1 : decode cX2_init 1 = .ok (.invokespecial 5, 3) := by decide +kernel
theorem dX2_init_4 : decode cX2_init 4 = .ok (.aload_n 0, 1) := by decide +kernel
theorem dX2_init_5 : decode cX2_init 5 = .ok (.new 1, 3) := by decide +kernel
theorem dX2_init_8 : decode cX2_init 8 = .ok (.dup, 1) := by decide +kernel
theorem dX2_init_9 : decode cX2_init 9 = .ok (.invokespecial 11, 3) := by decide +kernel
theorem dX2_init_12 : decode cX2_init 12 = .ok (.putfield 12, 3) := by decide +kernel
theorem dX2_init_15 : decode cX2_init 15 = .ok (.aload_n 0, 1) := by decide +kernel
theorem dX2_init_16 : decode cX2_init 16 = .ok (.new 1, 3) := by decide +kernel
theorem dX2_init_19 : decode cX2_init 19 = .ok (.dup, 1) := by decide +kernel
theorem dX2_init_20 : decode cX2_init 20 = .ok (.invokespecial 11, 3) := by decide +kernel
theorem dX2_init_23 : decode cX2_init 23 = .ok (.putfield 18, 3) := by decide +kernel
theorem dX2_init_26 : decode cX2_init 26 = .ok (.return_, 1) := by decide +kernel
theorem dX2_begin_0 : decode cX2_begin 0 = .ok (.aload_n 0, 1) := by decide +kernel
theorem dX2_begin_1 : decode cX2_begin 1 = .ok (.getfield 18, 3) := by decide +kernel
theorem dX2_begin_4 : decode cX2_begin 4 = .ok (.aload_n 0, 1) := by decide +kernel
theorem dX2_begin_5 : decode cX2_begin 5 = .ok (.getfield 12, 3) := by decide +kernel
theorem dX2_begin_8 : decode cX2_begin 8 = .ok (.getfield 21, 3) := by decide +kernel
theorem dX2_begin_11 : decode cX2_begin 11 = .ok (.invokevirtual 25, 3) := by decide +kernel
theorem dX2_begin_14 : decode cX2_begin 14 = .ok (.return_, 1) := by decide +kernel
theorem dX2_firstOnTrial_0 : decode cX2_firstOnTrial 0 = .ok (.iconst 1, 1) := by decide +kernel
theorem dX2_firstOnTrial_1 : decode cX2_firstOnTrial 1 = .ok (.istore_n 3, 1) := by decide +kernel
theorem dX2_firstOnTrial_2 : decode cX2_firstOnTrial 2 = .ok (.iload_n 3, 1) := by decide +kernel
theorem dX2_firstOnTrial_3 : decode cX2_firstOnTrial 3 = .ok (.iload_n 2, 1) := by decide +kernel
theorem dX2_firstOnTrial_4 : decode cX2_firstOnTrial 4 = .ok (.if_icmp .gt 35, 3) := by decide +kernel
theorem dX2_firstOnTrial_7 : decode cX2_firstOnTrial 7 = .ok (.aload_n 0, 1) := by decide +kernel
theorem dX2_firstOnTrial_8 : decode cX2_firstOnTrial 8 = .ok (.getfield 18, 3) := by decide +kernel
theorem dX2_firstOnTrial_11 : decode cX2_firstOnTrial 11 = .ok (.invokevirtual 29, 3) := by decide +kernel
theorem dX2_firstOnTrial_14 : decode cX2_firstOnTrial 14 = .ok (.ifCond .eq 5, 3) := by decide +kernel
theorem dX2_firstOnTrial_17 : decode cX2_firstOnTrial 17 = .ok (.iconst 0, 1) := by decide +kernel
theorem dX2_firstOnTrial_18 : decode cX2_firstOnTrial 18 = .ok (.ireturn, 1) := by decide +kernel
theorem dX2_firstOnTrial_19 : decode cX2_firstOnTrial 19 = .ok (.aload_n 0, 1) := by decide +kernel
theorem dX2_firstOnTrial_20 : decode cX2_firstOnTrial 20 = .ok (.getfield 18, 3) := by decide +kernel
theorem dX2_firstOnTrial_23 : decode cX2_firstOnTrial 23 = .ok (.invokevirtual 33, 3) := by decide +kernel
theorem dX2_firstOnTrial_26 : decode cX2_firstOnTrial 26 = .ok (.iload_n 1, 1) := by decide +kernel
theorem dX2_firstOnTrial_27 : decode cX2_firstOnTrial 27 = .ok (.iand, 1) := by decide +kernel
theorem dX2_firstOnTrial_28 : decode cX2_firstOnTrial 28 = .ok (.ifCond .eq 5, 3) := by decide +kernel
theorem dX2_firstOnTrial_31 : decode cX2_firstOnTrial 31 = .ok (.iload_n 3, 1) := by decide +kernel
theorem dX2_firstOnTrial_32 : decode cX2_firstOnTrial 32 = .ok (.ireturn, 1) := by decide +kernel
theorem dX2_firstOnTrial_33 : decode cX2_firstOnTrial 33 = .ok (.iinc 3 1, 3) := by decide +kernel
theorem dX2_firstOnTrial_36 : decode cX2_firstOnTrial 36 = .ok (.goto (-34), 3) := by decide +kernel
theorem dX2_firstOnTrial_39 : decode cX2_firstOnTrial 39 = .ok (.iconst 0, 1) := by decide +kernel
theorem dX2_firstOnTrial_40 : decode cX2_firstOnTrial 40 = .ok (.ireturn, 1) := by decide +kernel
theorem dX2_soundHeard_0 : decode cX2_soundHeard 0 = .ok (.aload_n 0, 1) := by decide +kernel
theorem dX2_soundHeard_1 : decode cX2_soundHeard 1 = .ok (.invokevirtual 37, 3) := by decide +kernel
theorem dX2_soundHeard_4 : decode cX2_soundHeard 4 = .ok (.iconst 0, 1) := by decide +kernel
theorem dX2_soundHeard_5 : decode cX2_soundHeard 5 = .ok (.istore_n 3, 1) := by decide +kernel
theorem dX2_soundHeard_6 : decode cX2_soundHeard 6 = .ok (.iload_n 3, 1) := by decide +kernel
theorem dX2_soundHeard_7 : decode cX2_soundHeard 7 = .ok (.iload_n 2, 1) := by decide +kernel
theorem dX2_soundHeard_8 : decode cX2_soundHeard 8 = .ok (.if_icmp .ge 17, 3) := by decide +kernel
theorem dX2_soundHeard_11 : decode cX2_soundHeard 11 = .ok (.aload_n 0, 1) := by decide +kernel
theorem dX2_soundHeard_12 : decode cX2_soundHeard 12 = .ok (.getfield 18, 3) := by decide +kernel
theorem dX2_soundHeard_15 : decode cX2_soundHeard 15 = .ok (.invokevirtual 33, 3) := by decide +kernel
theorem dX2_soundHeard_18 : decode cX2_soundHeard 18 = .ok (.pop, 1) := by decide +kernel
theorem dX2_soundHeard_19 : decode cX2_soundHeard 19 = .ok (.iinc 3 1, 3) := by decide +kernel
theorem dX2_soundHeard_22 : decode cX2_soundHeard 22 = .ok (.goto (-16), 3) := by decide +kernel
theorem dX2_soundHeard_25 : decode cX2_soundHeard 25 = .ok (.aload_n 0, 1) := by decide +kernel
theorem dX2_soundHeard_26 : decode cX2_soundHeard 26 = .ok (.getfield 18, 3) := by decide +kernel
theorem dX2_soundHeard_29 : decode cX2_soundHeard 29 = .ok (.getfield 40, 3) := by decide +kernel
theorem dX2_soundHeard_32 : decode cX2_soundHeard 32 = .ok (.iload_n 1, 1) := by decide +kernel
theorem dX2_soundHeard_33 : decode cX2_soundHeard 33 = .ok (.iaload, 1) := by decide +kernel
theorem dX2_soundHeard_34 : decode cX2_soundHeard 34 = .ok (.ireturn, 1) := by decide +kernel
theorem dX2_firstHearing_0 : decode cX2_firstHearing 0 = .ok (.aload_n 0, 1) := by decide +kernel
theorem dX2_firstHearing_1 : decode cX2_firstHearing 1 = .ok (.invokevirtual 37, 3) := by decide +kernel
theorem dX2_firstHearing_4 : decode cX2_firstHearing 4 = .ok (.aload_n 0, 1) := by decide +kernel
theorem dX2_firstHearing_5 : decode cX2_firstHearing 5 = .ok (.iconst 1, 1) := by decide +kernel
theorem dX2_firstHearing_6 : decode cX2_firstHearing 6 = .ok (.iload_n 1, 1) := by decide +kernel
theorem dX2_firstHearing_7 : decode cX2_firstHearing 7 = .ok (.ishl, 1) := by decide +kernel
theorem dX2_firstHearing_8 : decode cX2_firstHearing 8 = .ok (.iload_n 2, 1) := by decide +kernel
theorem dX2_firstHearing_9 : decode cX2_firstHearing 9 = .ok (.invokevirtual 43, 3) := by decide +kernel
theorem dX2_firstHearing_12 : decode cX2_firstHearing 12 = .ok (.istore_n 3, 1) := by decide +kernel
theorem dX2_firstHearing_13 : decode cX2_firstHearing 13 = .ok (.iload_n 3, 1) := by decide +kernel
theorem dX2_firstHearing_14 : decode cX2_firstHearing 14 = .ok (.ifCond .ne 8, 3) := by decide +kernel
theorem dX2_firstHearing_17 : decode cX2_firstHearing 17 = .ok (.ldc 47, 2) := by decide +kernel
theorem dX2_firstHearing_19 : decode cX2_firstHearing 19 = .ok (.goto 4, 3) := by decide +kernel
theorem dX2_firstHearing_22 : decode cX2_firstHearing 22 = .ok (.iload_n 3, 1) := by decide +kernel
theorem dX2_firstHearing_23 : decode cX2_firstHearing 23 = .ok (.ireturn, 1) := by decide +kernel
theorem dX2_hornsThatHear_0 : decode cX2_hornsThatHear 0 = .ok (.aload_n 0, 1) := by decide +kernel
theorem dX2_hornsThatHear_1 : decode cX2_hornsThatHear 1 = .ok (.invokevirtual 37, 3) := by decide +kernel
theorem dX2_hornsThatHear_4 : decode cX2_hornsThatHear 4 = .ok (.iconst 0, 1) := by decide +kernel
theorem dX2_hornsThatHear_5 : decode cX2_hornsThatHear 5 = .ok (.istore_n 2, 1) := by decide +kernel
theorem dX2_hornsThatHear_6 : decode cX2_hornsThatHear 6 = .ok (.iconst 0, 1) := by decide +kernel
theorem dX2_hornsThatHear_7 : decode cX2_hornsThatHear 7 = .ok (.istore_n 3, 1) := by decide +kernel
theorem dX2_hornsThatHear_8 : decode cX2_hornsThatHear 8 = .ok (.iload_n 3, 1) := by decide +kernel
theorem dX2_hornsThatHear_9 : decode cX2_hornsThatHear 9 = .ok (.iload_n 1, 1) := by decide +kernel
theorem dX2_hornsThatHear_10 : decode cX2_hornsThatHear 10 = .ok (.if_icmp .ge 19, 3) := by decide +kernel
theorem dX2_hornsThatHear_13 : decode cX2_hornsThatHear 13 = .ok (.iload_n 2, 1) := by decide +kernel
theorem dX2_hornsThatHear_14 : decode cX2_hornsThatHear 14 = .ok (.aload_n 0, 1) := by decide +kernel
theorem dX2_hornsThatHear_15 : decode cX2_hornsThatHear 15 = .ok (.getfield 18, 3) := by decide +kernel
theorem dX2_hornsThatHear_18 : decode cX2_hornsThatHear 18 = .ok (.invokevirtual 33, 3) := by decide +kernel
theorem dX2_hornsThatHear_21 : decode cX2_hornsThatHear 21 = .ok (.ior, 1) := by decide +kernel
theorem dX2_hornsThatHear_22 : decode cX2_hornsThatHear 22 = .ok (.istore_n 2, 1) := by decide +kernel
theorem dX2_hornsThatHear_23 : decode cX2_hornsThatHear 23 = .ok (.iinc 3 1, 3) := by decide +kernel
theorem dX2_hornsThatHear_26 : decode cX2_hornsThatHear 26 = .ok (.goto (-18), 3) := by decide +kernel
theorem dX2_hornsThatHear_29 : decode cX2_hornsThatHear 29 = .ok (.iload_n 2, 1) := by decide +kernel
theorem dX2_hornsThatHear_30 : decode cX2_hornsThatHear 30 = .ok (.ireturn, 1) := by decide +kernel
theorem dX2_breathsToSilence_0 : decode cX2_breathsToSilence 0 = .ok (.aload_n 0, 1) := by decide +kernel
theorem dX2_breathsToSilence_1 : decode cX2_breathsToSilence 1 = .ok (.invokevirtual 37, 3) := by decide +kernel
theorem dX2_breathsToSilence_4 : decode cX2_breathsToSilence 4 = .ok (.iconst 0, 1) := by decide +kernel
theorem dX2_breathsToSilence_5 : decode cX2_breathsToSilence 5 = .ok (.istore_n 2, 1) := by decide +kernel
theorem dX2_breathsToSilence_6 : decode cX2_breathsToSilence 6 = .ok (.iload_n 2, 1) := by decide +kernel
theorem dX2_breathsToSilence_7 : decode cX2_breathsToSilence 7 = .ok (.iload_n 1, 1) := by decide +kernel
theorem dX2_breathsToSilence_8 : decode cX2_breathsToSilence 8 = .ok (.if_icmp .ge 29, 3) := by decide +kernel
theorem dX2_breathsToSilence_11 : decode cX2_breathsToSilence 11 = .ok (.aload_n 0, 1) := by decide +kernel
theorem dX2_breathsToSilence_12 : decode cX2_breathsToSilence 12 = .ok (.getfield 18, 3) := by decide +kernel
theorem dX2_breathsToSilence_15 : decode cX2_breathsToSilence 15 = .ok (.invokevirtual 29, 3) := by decide +kernel
theorem dX2_breathsToSilence_18 : decode cX2_breathsToSilence 18 = .ok (.ifCond .eq 5, 3) := by decide +kernel
theorem dX2_breathsToSilence_21 : decode cX2_breathsToSilence 21 = .ok (.iload_n 2, 1) := by decide +kernel
theorem dX2_breathsToSilence_22 : decode cX2_breathsToSilence 22 = .ok (.ireturn, 1) := by decide +kernel
theorem dX2_breathsToSilence_23 : decode cX2_breathsToSilence 23 = .ok (.aload_n 0, 1) := by decide +kernel
theorem dX2_breathsToSilence_24 : decode cX2_breathsToSilence 24 = .ok (.getfield 18, 3) := by decide +kernel
theorem dX2_breathsToSilence_27 : decode cX2_breathsToSilence 27 = .ok (.invokevirtual 33, 3) := by decide +kernel
theorem dX2_breathsToSilence_30 : decode cX2_breathsToSilence 30 = .ok (.pop, 1) := by decide +kernel
theorem dX2_breathsToSilence_31 : decode cX2_breathsToSilence 31 = .ok (.iinc 2 1, 3) := by decide +kernel
theorem dX2_breathsToSilence_34 : decode cX2_breathsToSilence 34 = .ok (.goto (-28), 3) := by decide +kernel
theorem dX2_breathsToSilence_37 : decode cX2_breathsToSilence 37 = .ok (.aload_n 0, 1) := by decide +kernel
theorem dX2_breathsToSilence_38 : decode cX2_breathsToSilence 38 = .ok (.getfield 18, 3) := by decide +kernel
theorem dX2_breathsToSilence_41 : decode cX2_breathsToSilence 41 = .ok (.invokevirtual 29, 3) := by decide +kernel
theorem dX2_breathsToSilence_44 : decode cX2_breathsToSilence 44 = .ok (.ifCond .eq 7, 3) := by decide +kernel
theorem dX2_breathsToSilence_47 : decode cX2_breathsToSilence 47 = .ok (.iload_n 1, 1) := by decide +kernel
theorem dX2_breathsToSilence_48 : decode cX2_breathsToSilence 48 = .ok (.goto 5, 3) := by decide +kernel
theorem dX2_breathsToSilence_51 : decode cX2_breathsToSilence 51 = .ok (.ldc 47, 2) := by decide +kernel
theorem dX2_breathsToSilence_53 : decode cX2_breathsToSilence 53 = .ok (.ireturn, 1) := by decide +kernel
theorem dX2_fewestTurned_0 : decode cX2_fewestTurned 0 = .ok (.ldc 47, 2) := by decide +kernel
theorem dX2_fewestTurned_2 : decode cX2_fewestTurned 2 = .ok (.istore 6, 2) := by decide +kernel
theorem dX2_fewestTurned_4 : decode cX2_fewestTurned 4 = .ok (.iconst 0, 1) := by decide +kernel
theorem dX2_fewestTurned_5 : decode cX2_fewestTurned 5 = .ok (.istore 7, 2) := by decide +kernel
theorem dX2_fewestTurned_7 : decode cX2_fewestTurned 7 = .ok (.iload 7, 2) := by decide +kernel
theorem dX2_fewestTurned_9 : decode cX2_fewestTurned 9 = .ok (.sipush 128, 3) := by decide +kernel
theorem dX2_fewestTurned_12 : decode cX2_fewestTurned 12 = .ok (.if_icmp .ge 69, 3) := by decide +kernel
theorem dX2_fewestTurned_15 : decode cX2_fewestTurned 15 = .ok (.iload 6, 2) := by decide +kernel
theorem dX2_fewestTurned_17 : decode cX2_fewestTurned 17 = .ok (.ldc 47, 2) := by decide +kernel
theorem dX2_fewestTurned_19 : decode cX2_fewestTurned 19 = .ok (.if_icmp .eq 16, 3) := by decide +kernel
theorem dX2_fewestTurned_22 : decode cX2_fewestTurned 22 = .ok (.iload 7, 2) := by decide +kernel
theorem dX2_fewestTurned_24 : decode cX2_fewestTurned 24 = .ok (.invokestatic 48, 3) := by decide +kernel
theorem dX2_fewestTurned_27 : decode cX2_fewestTurned 27 = .ok (.iload 6, 2) := by decide +kernel
theorem dX2_fewestTurned_29 : decode cX2_fewestTurned 29 = .ok (.invokestatic 48, 3) := by decide +kernel
theorem dX2_fewestTurned_32 : decode cX2_fewestTurned 32 = .ok (.if_icmp .ge 7, 3) := by decide +kernel
theorem dX2_fewestTurned_35 : decode cX2_fewestTurned 35 = .ok (.iconst 1, 1) := by decide +kernel
theorem dX2_fewestTurned_36 : decode cX2_fewestTurned 36 = .ok (.goto 4, 3) := by decide +kernel
theorem dX2_fewestTurned_39 : decode cX2_fewestTurned 39 = .ok (.iconst 0, 1) := by decide +kernel
theorem dX2_fewestTurned_40 : decode cX2_fewestTurned 40 = .ok (.istore 8, 2) := by decide +kernel
theorem dX2_fewestTurned_42 : decode cX2_fewestTurned 42 = .ok (.iload 8, 2) := by decide +kernel
theorem dX2_fewestTurned_44 : decode cX2_fewestTurned 44 = .ok (.ifCond .eq 31, 3) := by decide +kernel
theorem dX2_fewestTurned_47 : decode cX2_fewestTurned 47 = .ok (.iload 7, 2) := by decide +kernel
theorem dX2_fewestTurned_49 : decode cX2_fewestTurned 49 = .ok (.iload_n 1, 1) := by decide +kernel
theorem dX2_fewestTurned_50 : decode cX2_fewestTurned 50 = .ok (.iconst (-1), 1) := by decide +kernel
theorem dX2_fewestTurned_51 : decode cX2_fewestTurned 51 = .ok (.ixor, 1) := by decide +kernel
theorem dX2_fewestTurned_52 : decode cX2_fewestTurned 52 = .ok (.iand, 1) := by decide +kernel
theorem dX2_fewestTurned_53 : decode cX2_fewestTurned 53 = .ok (.ifCond .ne 22, 3) := by decide +kernel
theorem dX2_fewestTurned_56 : decode cX2_fewestTurned 56 = .ok (.aload_n 0, 1) := by decide +kernel
theorem dX2_fewestTurned_57 : decode cX2_fewestTurned 57 = .ok (.iload 7, 2) := by decide +kernel
theorem dX2_fewestTurned_59 : decode cX2_fewestTurned 59 = .ok (.iload_n 2, 1) := by decide +kernel
theorem dX2_fewestTurned_60 : decode cX2_fewestTurned 60 = .ok (.iload_n 3, 1) := by decide +kernel
theorem dX2_fewestTurned_61 : decode cX2_fewestTurned 61 = .ok (.iload 4, 2) := by decide +kernel
theorem dX2_fewestTurned_63 : decode cX2_fewestTurned 63 = .ok (.invokevirtual 54, 3) := by decide +kernel
theorem dX2_fewestTurned_66 : decode cX2_fewestTurned 66 = .ok (.iload 5, 2) := by decide +kernel
theorem dX2_fewestTurned_68 : decode cX2_fewestTurned 68 = .ok (.if_icmp .ne 7, 3) := by decide +kernel
theorem dX2_fewestTurned_71 : decode cX2_fewestTurned 71 = .ok (.iload 7, 2) := by decide +kernel
theorem dX2_fewestTurned_73 : decode cX2_fewestTurned 73 = .ok (.istore 6, 2) := by decide +kernel
theorem dX2_fewestTurned_75 : decode cX2_fewestTurned 75 = .ok (.iinc 7 1, 3) := by decide +kernel
theorem dX2_fewestTurned_78 : decode cX2_fewestTurned 78 = .ok (.goto (-71), 3) := by decide +kernel
theorem dX2_fewestTurned_81 : decode cX2_fewestTurned 81 = .ok (.iload 6, 2) := by decide +kernel
theorem dX2_fewestTurned_83 : decode cX2_fewestTurned 83 = .ok (.ireturn, 1) := by decide +kernel
theorem dX2_hearsWhenTurned_0 : decode cX2_hearsWhenTurned 0 = .ok (.aload_n 0, 1) := by decide +kernel
theorem dX2_hearsWhenTurned_1 : decode cX2_hearsWhenTurned 1 = .ok (.invokevirtual 37, 3) := by decide +kernel
theorem dX2_hearsWhenTurned_4 : decode cX2_hearsWhenTurned 4 = .ok (.aload_n 0, 1) := by decide +kernel
theorem dX2_hearsWhenTurned_5 : decode cX2_hearsWhenTurned 5 = .ok (.getfield 18, 3) := by decide +kernel
theorem dX2_hearsWhenTurned_8 : decode cX2_hearsWhenTurned 8 = .ok (.getfield 21, 3) := by decide +kernel
theorem dX2_hearsWhenTurned_11 : decode cX2_hearsWhenTurned 11 = .ok (.iconst 3, 1) := by decide +kernel
theorem dX2_hearsWhenTurned_12 : decode cX2_hearsWhenTurned 12 = .ok (.dup2, 1) := by decide +kernel
theorem dX2_hearsWhenTurned_13 : decode cX2_hearsWhenTurned 13 = .ok (.iaload, 1) := by decide +kernel
theorem dX2_hearsWhenTurned_14 : decode cX2_hearsWhenTurned 14 = .ok (.iload_n 1, 1) := by decide +kernel
theorem dX2_hearsWhenTurned_15 : decode cX2_hearsWhenTurned 15 = .ok (.ixor, 1) := by decide +kernel
theorem dX2_hearsWhenTurned_16 : decode cX2_hearsWhenTurned 16 = .ok (.iastore, 1) := by decide +kernel
theorem dX2_hearsWhenTurned_17 : decode cX2_hearsWhenTurned 17 = .ok (.aload_n 0, 1) := by decide +kernel
theorem dX2_hearsWhenTurned_18 : decode cX2_hearsWhenTurned 18 = .ok (.getfield 18, 3) := by decide +kernel
theorem dX2_hearsWhenTurned_21 : decode cX2_hearsWhenTurned 21 = .ok (.iload_n 2, 1) := by decide +kernel
theorem dX2_hearsWhenTurned_22 : decode cX2_hearsWhenTurned 22 = .ok (.iconst 0, 1) := by decide +kernel
theorem dX2_hearsWhenTurned_23 : decode cX2_hearsWhenTurned 23 = .ok (.bipush 50, 2) := by decide +kernel
theorem dX2_hearsWhenTurned_25 : decode cX2_hearsWhenTurned 25 = .ok (.invokevirtual 58, 3) := by decide +kernel
theorem dX2_hearsWhenTurned_28 : decode cX2_hearsWhenTurned 28 = .ok (.pop, 1) := by decide +kernel
theorem dX2_hearsWhenTurned_29 : decode cX2_hearsWhenTurned 29 = .ok (.aload_n 0, 1) := by decide +kernel
theorem dX2_hearsWhenTurned_30 : decode cX2_hearsWhenTurned 30 = .ok (.iload_n 3, 1) := by decide +kernel
theorem dX2_hearsWhenTurned_31 : decode cX2_hearsWhenTurned 31 = .ok (.iload 4, 2) := by decide +kernel
theorem dX2_hearsWhenTurned_33 : decode cX2_hearsWhenTurned 33 = .ok (.invokevirtual 43, 3) := by decide +kernel
theorem dX2_hearsWhenTurned_36 : decode cX2_hearsWhenTurned 36 = .ok (.ifCond .le 7, 3) := by decide +kernel
theorem dX2_hearsWhenTurned_39 : decode cX2_hearsWhenTurned 39 = .ok (.iconst 1, 1) := by decide +kernel
theorem dX2_hearsWhenTurned_40 : decode cX2_hearsWhenTurned 40 = .ok (.goto 4, 3) := by decide +kernel
theorem dX2_hearsWhenTurned_43 : decode cX2_hearsWhenTurned 43 = .ok (.iconst 0, 1) := by decide +kernel
theorem dX2_hearsWhenTurned_44 : decode cX2_hearsWhenTurned 44 = .ok (.ireturn, 1) := by decide +kernel
theorem dX2_leastLoudness_0 : decode cX2_leastLoudness 0 = .ok (.iconst 1, 1) := by decide +kernel
theorem dX2_leastLoudness_1 : decode cX2_leastLoudness 1 = .ok (.istore 4, 2) := by decide +kernel
theorem dX2_leastLoudness_3 : decode cX2_leastLoudness 3 = .ok (.iload 4, 2) := by decide +kernel
theorem dX2_leastLoudness_5 : decode cX2_leastLoudness 5 = .ok (.bipush 99, 2) := by decide +kernel
theorem dX2_leastLoudness_7 : decode cX2_leastLoudness 7 = .ok (.if_icmp .gt 39, 3) := by decide +kernel
theorem dX2_leastLoudness_10 : decode cX2_leastLoudness 10 = .ok (.aload_n 0, 1) := by decide +kernel
theorem dX2_leastLoudness_11 : decode cX2_leastLoudness 11 = .ok (.invokevirtual 37, 3) := by decide +kernel
theorem dX2_leastLoudness_14 : decode cX2_leastLoudness 14 = .ok (.aload_n 0, 1) := by decide +kernel
theorem dX2_leastLoudness_15 : decode cX2_leastLoudness 15 = .ok (.getfield 18, 3) := by decide +kernel
theorem dX2_leastLoudness_18 : decode cX2_leastLoudness 18 = .ok (.iload_n 1, 1) := by decide +kernel
theorem dX2_leastLoudness_19 : decode cX2_leastLoudness 19 = .ok (.iconst 0, 1) := by decide +kernel
theorem dX2_leastLoudness_20 : decode cX2_leastLoudness 20 = .ok (.iload 4, 2) := by decide +kernel
theorem dX2_leastLoudness_22 : decode cX2_leastLoudness 22 = .ok (.invokevirtual 58, 3) := by decide +kernel
theorem dX2_leastLoudness_25 : decode cX2_leastLoudness 25 = .ok (.pop, 1) := by decide +kernel
theorem dX2_leastLoudness_26 : decode cX2_leastLoudness 26 = .ok (.aload_n 0, 1) := by decide +kernel
theorem dX2_leastLoudness_27 : decode cX2_leastLoudness 27 = .ok (.iconst 1, 1) := by decide +kernel
theorem dX2_leastLoudness_28 : decode cX2_leastLoudness 28 = .ok (.iload_n 2, 1) := by decide +kernel
theorem dX2_leastLoudness_29 : decode cX2_leastLoudness 29 = .ok (.ishl, 1) := by decide +kernel
theorem dX2_leastLoudness_30 : decode cX2_leastLoudness 30 = .ok (.iload_n 3, 1) := by decide +kernel
theorem dX2_leastLoudness_31 : decode cX2_leastLoudness 31 = .ok (.invokevirtual 43, 3) := by decide +kernel
theorem dX2_leastLoudness_34 : decode cX2_leastLoudness 34 = .ok (.ifCond .le 6, 3) := by decide +kernel
theorem dX2_leastLoudness_37 : decode cX2_leastLoudness 37 = .ok (.iload 4, 2) := by decide +kernel
theorem dX2_leastLoudness_39 : decode cX2_leastLoudness 39 = .ok (.ireturn, 1) := by decide +kernel
theorem dX2_leastLoudness_40 : decode cX2_leastLoudness 40 = .ok (.iinc 4 1, 3) := by decide +kernel
theorem dX2_leastLoudness_43 : decode cX2_leastLoudness 43 = .ok (.goto (-40), 3) := by decide +kernel
theorem dX2_leastLoudness_46 : decode cX2_leastLoudness 46 = .ok (.ldc 47, 2) := by decide +kernel
theorem dX2_leastLoudness_48 : decode cX2_leastLoudness 48 = .ok (.ireturn, 1) := by decide +kernel
theorem dX2_wordsToSay_0 : decode cX2_wordsToSay 0 = .ok (.iconst 0, 1) := by decide +kernel
theorem dX2_wordsToSay_1 : decode cX2_wordsToSay 1 = .ok (.istore 5, 2) := by decide +kernel
theorem dX2_wordsToSay_3 : decode cX2_wordsToSay 3 = .ok (.iconst 0, 1) := by decide +kernel
theorem dX2_wordsToSay_4 : decode cX2_wordsToSay 4 = .ok (.istore 6, 2) := by decide +kernel
theorem dX2_wordsToSay_6 : decode cX2_wordsToSay 6 = .ok (.iload 6, 2) := by decide +kernel
theorem dX2_wordsToSay_8 : decode cX2_wordsToSay 8 = .ok (.bipush 10, 2) := by decide +kernel
theorem dX2_wordsToSay_10 : decode cX2_wordsToSay 10 = .ok (.if_icmp .ge 46, 3) := by decide +kernel
theorem dX2_wordsToSay_13 : decode cX2_wordsToSay 13 = .ok (.aload_n 0, 1) := by decide +kernel
theorem dX2_wordsToSay_14 : decode cX2_wordsToSay 14 = .ok (.invokevirtual 37, 3) := by decide +kernel
theorem dX2_wordsToSay_17 : decode cX2_wordsToSay 17 = .ok (.aload_n 0, 1) := by decide +kernel
theorem dX2_wordsToSay_18 : decode cX2_wordsToSay 18 = .ok (.getfield 18, 3) := by decide +kernel
theorem dX2_wordsToSay_21 : decode cX2_wordsToSay 21 = .ok (.iload_n 1, 1) := by decide +kernel
theorem dX2_wordsToSay_22 : decode cX2_wordsToSay 22 = .ok (.iload 6, 2) := by decide +kernel
theorem dX2_wordsToSay_24 : decode cX2_wordsToSay 24 = .ok (.bipush 60, 2) := by decide +kernel
theorem dX2_wordsToSay_26 : decode cX2_wordsToSay 26 = .ok (.invokevirtual 58, 3) := by decide +kernel
theorem dX2_wordsToSay_29 : decode cX2_wordsToSay 29 = .ok (.pop, 1) := by decide +kernel
theorem dX2_wordsToSay_30 : decode cX2_wordsToSay 30 = .ok (.aload_n 0, 1) := by decide +kernel
theorem dX2_wordsToSay_31 : decode cX2_wordsToSay 31 = .ok (.iload_n 2, 1) := by decide +kernel
theorem dX2_wordsToSay_32 : decode cX2_wordsToSay 32 = .ok (.iload_n 3, 1) := by decide +kernel
theorem dX2_wordsToSay_33 : decode cX2_wordsToSay 33 = .ok (.iload 4, 2) := by decide +kernel
theorem dX2_wordsToSay_35 : decode cX2_wordsToSay 35 = .ok (.invokevirtual 62, 3) := by decide +kernel
theorem dX2_wordsToSay_38 : decode cX2_wordsToSay 38 = .ok (.ifCond .eq 12, 3) := by decide +kernel
theorem dX2_wordsToSay_41 : decode cX2_wordsToSay 41 = .ok (.iload 5, 2) := by decide +kernel
theorem dX2_wordsToSay_43 : decode cX2_wordsToSay 43 = .ok (.iconst 1, 1) := by decide +kernel
theorem dX2_wordsToSay_44 : decode cX2_wordsToSay 44 = .ok (.iload 6, 2) := by decide +kernel
theorem dX2_wordsToSay_46 : decode cX2_wordsToSay 46 = .ok (.ishl, 1) := by decide +kernel
theorem dX2_wordsToSay_47 : decode cX2_wordsToSay 47 = .ok (.ior, 1) := by decide +kernel
theorem dX2_wordsToSay_48 : decode cX2_wordsToSay 48 = .ok (.istore 5, 2) := by decide +kernel
theorem dX2_wordsToSay_50 : decode cX2_wordsToSay 50 = .ok (.iinc 6 1, 3) := by decide +kernel
theorem dX2_wordsToSay_53 : decode cX2_wordsToSay 53 = .ok (.goto (-47), 3) := by decide +kernel
theorem dX2_wordsToSay_56 : decode cX2_wordsToSay 56 = .ok (.iload 5, 2) := by decide +kernel
theorem dX2_wordsToSay_58 : decode cX2_wordsToSay 58 = .ok (.ireturn, 1) := by decide +kernel
theorem dX2_hearsWord_0 : decode cX2_hearsWord 0 = .ok (.iconst 0, 1) := by decide +kernel
theorem dX2_hearsWord_1 : decode cX2_hearsWord 1 = .ok (.istore 4, 2) := by decide +kernel
theorem dX2_hearsWord_3 : decode cX2_hearsWord 3 = .ok (.iload 4, 2) := by decide +kernel
theorem dX2_hearsWord_5 : decode cX2_hearsWord 5 = .ok (.iload_n 3, 1) := by decide +kernel
theorem dX2_hearsWord_6 : decode cX2_hearsWord 6 = .ok (.if_icmp .ge 28, 3) := by decide +kernel
theorem dX2_hearsWord_9 : decode cX2_hearsWord 9 = .ok (.aload_n 0, 1) := by decide +kernel
theorem dX2_hearsWord_10 : decode cX2_hearsWord 10 = .ok (.getfield 18, 3) := by decide +kernel
theorem dX2_hearsWord_13 : decode cX2_hearsWord 13 = .ok (.invokevirtual 33, 3) := by decide +kernel
theorem dX2_hearsWord_16 : decode cX2_hearsWord 16 = .ok (.pop, 1) := by decide +kernel
theorem dX2_hearsWord_17 : decode cX2_hearsWord 17 = .ok (.aload_n 0, 1) := by decide +kernel
theorem dX2_hearsWord_18 : decode cX2_hearsWord 18 = .ok (.iload_n 1, 1) := by decide +kernel
theorem dX2_hearsWord_19 : decode cX2_hearsWord 19 = .ok (.invokevirtual 66, 3) := by decide +kernel
theorem dX2_hearsWord_22 : decode cX2_hearsWord 22 = .ok (.iload_n 2, 1) := by decide +kernel
theorem dX2_hearsWord_23 : decode cX2_hearsWord 23 = .ok (.if_icmp .ne 5, 3) := by decide +kernel
theorem dX2_hearsWord_26 : decode cX2_hearsWord 26 = .ok (.iconst 1, 1) := by decide +kernel
theorem dX2_hearsWord_27 : decode cX2_hearsWord 27 = .ok (.ireturn, 1) := by decide +kernel
theorem dX2_hearsWord_28 : decode cX2_hearsWord 28 = .ok (.iinc 4 1, 3) := by decide +kernel
theorem dX2_hearsWord_31 : decode cX2_hearsWord 31 = .ok (.goto (-28), 3) := by decide +kernel
theorem dX2_hearsWord_34 : decode cX2_hearsWord 34 = .ok (.iconst 0, 1) := by decide +kernel
theorem dX2_hearsWord_35 : decode cX2_hearsWord 35 = .ok (.ireturn, 1) := by decide +kernel
theorem dX2_wordHeard_0 : decode cX2_wordHeard 0 = .ok (.aload_n 0, 1) := by decide +kernel
theorem dX2_wordHeard_1 : decode cX2_wordHeard 1 = .ok (.getfield 18, 3) := by decide +kernel
theorem dX2_wordHeard_4 : decode cX2_wordHeard 4 = .ok (.getfield 40, 3) := by decide +kernel
theorem dX2_wordHeard_7 : decode cX2_wordHeard 7 = .ok (.iload_n 1, 1) := by decide +kernel
theorem dX2_wordHeard_8 : decode cX2_wordHeard 8 = .ok (.iaload, 1) := by decide +kernel
theorem dX2_wordHeard_9 : decode cX2_wordHeard 9 = .ok (.istore_n 2, 1) := by decide +kernel
theorem dX2_wordHeard_10 : decode cX2_wordHeard 10 = .ok (.iload_n 2, 1) := by decide +kernel
theorem dX2_wordHeard_11 : decode cX2_wordHeard 11 = .ok (.ifCond .ne 7, 3) := by decide +kernel
theorem dX2_wordHeard_14 : decode cX2_wordHeard 14 = .ok (.iconst (-1), 1) := by decide +kernel
theorem dX2_wordHeard_15 : decode cX2_wordHeard 15 = .ok (.goto 7, 3) := by decide +kernel
theorem dX2_wordHeard_18 : decode cX2_wordHeard 18 = .ok (.iload_n 2, 1) := by decide +kernel
theorem dX2_wordHeard_19 : decode cX2_wordHeard 19 = .ok (.invokestatic 69, 3) := by decide +kernel
theorem dX2_wordHeard_22 : decode cX2_wordHeard 22 = .ok (.ireturn, 1) := by decide +kernel
theorem dX2_breathsRound_0 : decode cX2_breathsRound 0 = .ok (.aload_n 0, 1) := by decide +kernel
theorem dX2_breathsRound_1 : decode cX2_breathsRound 1 = .ok (.invokevirtual 37, 3) := by decide +kernel
theorem dX2_breathsRound_4 : decode cX2_breathsRound 4 = .ok (.aload_n 0, 1) := by decide +kernel
theorem dX2_breathsRound_5 : decode cX2_breathsRound 5 = .ok (.getfield 18, 3) := by decide +kernel
theorem dX2_breathsRound_8 : decode cX2_breathsRound 8 = .ok (.invokevirtual 72, 3) := by decide +kernel
theorem dX2_breathsRound_11 : decode cX2_breathsRound 11 = .ok (.aload_n 0, 1) := by decide +kernel
theorem dX2_breathsRound_12 : decode cX2_breathsRound 12 = .ok (.getfield 18, 3) := by decide +kernel
theorem dX2_breathsRound_15 : decode cX2_breathsRound 15 = .ok (.iload_n 1, 1) := by decide +kernel
theorem dX2_breathsRound_16 : decode cX2_breathsRound 16 = .ok (.iconst 0, 1) := by decide +kernel
theorem dX2_breathsRound_17 : decode cX2_breathsRound 17 = .ok (.bipush 90, 2) := by decide +kernel
theorem dX2_breathsRound_19 : decode cX2_breathsRound 19 = .ok (.invokevirtual 58, 3) := by decide +kernel
theorem dX2_breathsRound_22 : decode cX2_breathsRound 22 = .ok (.pop, 1) := by decide +kernel
theorem dX2_breathsRound_23 : decode cX2_breathsRound 23 = .ok (.aload_n 0, 1) := by decide +kernel
theorem dX2_breathsRound_24 : decode cX2_breathsRound 24 = .ok (.iconst 1, 1) := by decide +kernel
theorem dX2_breathsRound_25 : decode cX2_breathsRound 25 = .ok (.iload_n 1, 1) := by decide +kernel
theorem dX2_breathsRound_26 : decode cX2_breathsRound 26 = .ok (.ishl, 1) := by decide +kernel
theorem dX2_breathsRound_27 : decode cX2_breathsRound 27 = .ok (.iload_n 2, 1) := by decide +kernel
theorem dX2_breathsRound_28 : decode cX2_breathsRound 28 = .ok (.invokevirtual 43, 3) := by decide +kernel
theorem dX2_breathsRound_31 : decode cX2_breathsRound 31 = .ok (.istore_n 3, 1) := by decide +kernel
theorem dX2_breathsRound_32 : decode cX2_breathsRound 32 = .ok (.iload_n 3, 1) := by decide +kernel
theorem dX2_breathsRound_33 : decode cX2_breathsRound 33 = .ok (.ifCond .ne 8, 3) := by decide +kernel
theorem dX2_breathsRound_36 : decode cX2_breathsRound 36 = .ok (.ldc 47, 2) := by decide +kernel
theorem dX2_breathsRound_38 : decode cX2_breathsRound 38 = .ok (.goto 4, 3) := by decide +kernel
theorem dX2_breathsRound_41 : decode cX2_breathsRound 41 = .ok (.iload_n 3, 1) := by decide +kernel
theorem dX2_breathsRound_42 : decode cX2_breathsRound 42 = .ok (.ireturn, 1) := by decide +kernel
theorem dX2_fewestPipes_0 : decode cX2_fewestPipes 0 = .ok (.iconst 1, 1) := by decide +kernel
theorem dX2_fewestPipes_1 : decode cX2_fewestPipes 1 = .ok (.iload_n 1, 1) := by decide +kernel
theorem dX2_fewestPipes_2 : decode cX2_fewestPipes 2 = .ok (.ishl, 1) := by decide +kernel
theorem dX2_fewestPipes_3 : decode cX2_fewestPipes 3 = .ok (.istore_n 3, 1) := by decide +kernel
theorem dX2_fewestPipes_4 : decode cX2_fewestPipes 4 = .ok (.iconst 0, 1) := by decide +kernel
theorem dX2_fewestPipes_5 : decode cX2_fewestPipes 5 = .ok (.istore 4, 2) := by decide +kernel
theorem dX2_fewestPipes_7 : decode cX2_fewestPipes 7 = .ok (.iload 4, 2) := by decide +kernel
theorem dX2_fewestPipes_9 : decode cX2_fewestPipes 9 = .ok (.bipush 6, 2) := by decide +kernel
theorem dX2_fewestPipes_11 : decode cX2_fewestPipes 11 = .ok (.if_icmp .ge 29, 3) := by decide +kernel
theorem dX2_fewestPipes_14 : decode cX2_fewestPipes 14 = .ok (.iload_n 3, 1) := by decide +kernel
theorem dX2_fewestPipes_15 : decode cX2_fewestPipes 15 = .ok (.iload_n 2, 1) := by decide +kernel
theorem dX2_fewestPipes_16 : decode cX2_fewestPipes 16 = .ok (.ishr, 1) := by decide +kernel
theorem dX2_fewestPipes_17 : decode cX2_fewestPipes 17 = .ok (.iconst 1, 1) := by decide +kernel
theorem dX2_fewestPipes_18 : decode cX2_fewestPipes 18 = .ok (.iand, 1) := by decide +kernel
theorem dX2_fewestPipes_19 : decode cX2_fewestPipes 19 = .ok (.iconst 1, 1) := by decide +kernel
theorem dX2_fewestPipes_20 : decode cX2_fewestPipes 20 = .ok (.if_icmp .ne 6, 3) := by decide +kernel
theorem dX2_fewestPipes_23 : decode cX2_fewestPipes 23 = .ok (.iload 4, 2) := by decide +kernel
theorem dX2_fewestPipes_25 : decode cX2_fewestPipes 25 = .ok (.ireturn, 1) := by decide +kernel
theorem dX2_fewestPipes_26 : decode cX2_fewestPipes 26 = .ok (.iload_n 3, 1) := by decide +kernel
theorem dX2_fewestPipes_27 : decode cX2_fewestPipes 27 = .ok (.aload_n 0, 1) := by decide +kernel
theorem dX2_fewestPipes_28 : decode cX2_fewestPipes 28 = .ok (.iload_n 3, 1) := by decide +kernel
theorem dX2_fewestPipes_29 : decode cX2_fewestPipes 29 = .ok (.invokevirtual 75, 3) := by decide +kernel
theorem dX2_fewestPipes_32 : decode cX2_fewestPipes 32 = .ok (.ior, 1) := by decide +kernel
theorem dX2_fewestPipes_33 : decode cX2_fewestPipes 33 = .ok (.istore_n 3, 1) := by decide +kernel
theorem dX2_fewestPipes_34 : decode cX2_fewestPipes 34 = .ok (.iinc 4 1, 3) := by decide +kernel
theorem dX2_fewestPipes_37 : decode cX2_fewestPipes 37 = .ok (.goto (-30), 3) := by decide +kernel
theorem dX2_fewestPipes_40 : decode cX2_fewestPipes 40 = .ok (.ldc 47, 2) := by decide +kernel
theorem dX2_fewestPipes_42 : decode cX2_fewestPipes 42 = .ok (.ireturn, 1) := by decide +kernel
theorem dX2_nextTo_0 : decode cX2_nextTo 0 = .ok (.iconst 0, 1) := by decide +kernel
theorem dX2_nextTo_1 : decode cX2_nextTo 1 = .ok (.istore_n 2, 1) := by decide +kernel
theorem dX2_nextTo_2 : decode cX2_nextTo 2 = .ok (.iconst 0, 1) := by decide +kernel
theorem dX2_nextTo_3 : decode cX2_nextTo 3 = .ok (.istore_n 3, 1) := by decide +kernel
theorem dX2_nextTo_4 : decode cX2_nextTo 4 = .ok (.iload_n 3, 1) := by decide +kernel
theorem dX2_nextTo_5 : decode cX2_nextTo 5 = .ok (.aload_n 0, 1) := by decide +kernel
theorem dX2_nextTo_6 : decode cX2_nextTo 6 = .ok (.getfield 12, 3) := by decide +kernel
theorem dX2_nextTo_9 : decode cX2_nextTo 9 = .ok (.getfield 21, 3) := by decide +kernel
theorem dX2_nextTo_12 : decode cX2_nextTo 12 = .ok (.iconst 2, 1) := by decide +kernel
theorem dX2_nextTo_13 : decode cX2_nextTo 13 = .ok (.iaload, 1) := by decide +kernel
theorem dX2_nextTo_14 : decode cX2_nextTo 14 = .ok (.if_icmp .ge 57, 3) := by decide +kernel
theorem dX2_nextTo_17 : decode cX2_nextTo 17 = .ok (.aload_n 0, 1) := by decide +kernel
theorem dX2_nextTo_18 : decode cX2_nextTo 18 = .ok (.getfield 12, 3) := by decide +kernel
theorem dX2_nextTo_21 : decode cX2_nextTo 21 = .ok (.iload_n 3, 1) := by decide +kernel
theorem dX2_nextTo_22 : decode cX2_nextTo 22 = .ok (.invokevirtual 78, 3) := by decide +kernel
theorem dX2_nextTo_25 : decode cX2_nextTo 25 = .ok (.ifCond .eq 40, 3) := by decide +kernel
theorem dX2_nextTo_28 : decode cX2_nextTo 28 = .ok (.iload_n 1, 1) := by decide +kernel
theorem dX2_nextTo_29 : decode cX2_nextTo 29 = .ok (.aload_n 0, 1) := by decide +kernel
theorem dX2_nextTo_30 : decode cX2_nextTo 30 = .ok (.getfield 12, 3) := by decide +kernel
theorem dX2_nextTo_33 : decode cX2_nextTo 33 = .ok (.getfield 21, 3) := by decide +kernel
theorem dX2_nextTo_36 : decode cX2_nextTo 36 = .ok (.bipush 12, 2) := by decide +kernel
theorem dX2_nextTo_38 : decode cX2_nextTo 38 = .ok (.iload_n 3, 1) := by decide +kernel
theorem dX2_nextTo_39 : decode cX2_nextTo 39 = .ok (.iadd, 1) := by decide +kernel
theorem dX2_nextTo_40 : decode cX2_nextTo 40 = .ok (.iaload, 1) := by decide +kernel
theorem dX2_nextTo_41 : decode cX2_nextTo 41 = .ok (.ishr, 1) := by decide +kernel
theorem dX2_nextTo_42 : decode cX2_nextTo 42 = .ok (.iconst 1, 1) := by decide +kernel
theorem dX2_nextTo_43 : decode cX2_nextTo 43 = .ok (.iand, 1) := by decide +kernel
theorem dX2_nextTo_44 : decode cX2_nextTo 44 = .ok (.iconst 1, 1) := by decide +kernel
theorem dX2_nextTo_45 : decode cX2_nextTo 45 = .ok (.if_icmp .ne 20, 3) := by decide +kernel
theorem dX2_nextTo_48 : decode cX2_nextTo 48 = .ok (.iload_n 2, 1) := by decide +kernel
theorem dX2_nextTo_49 : decode cX2_nextTo 49 = .ok (.iconst 1, 1) := by decide +kernel
theorem dX2_nextTo_50 : decode cX2_nextTo 50 = .ok (.aload_n 0, 1) := by decide +kernel
theorem dX2_nextTo_51 : decode cX2_nextTo 51 = .ok (.getfield 12, 3) := by decide +kernel
theorem dX2_nextTo_54 : decode cX2_nextTo 54 = .ok (.getfield 21, 3) := by decide +kernel
theorem dX2_nextTo_57 : decode cX2_nextTo 57 = .ok (.bipush 19, 2) := by decide +kernel
theorem dX2_nextTo_59 : decode cX2_nextTo 59 = .ok (.iload_n 3, 1) := by decide +kernel
theorem dX2_nextTo_60 : decode cX2_nextTo 60 = .ok (.iadd, 1) := by decide +kernel
theorem dX2_nextTo_61 : decode cX2_nextTo 61 = .ok (.iaload, 1) := by decide +kernel
theorem dX2_nextTo_62 : decode cX2_nextTo 62 = .ok (.ishl, 1) := by decide +kernel
theorem dX2_nextTo_63 : decode cX2_nextTo 63 = .ok (.ior, 1) := by decide +kernel
theorem dX2_nextTo_64 : decode cX2_nextTo 64 = .ok (.istore_n 2, 1) := by decide +kernel
theorem dX2_nextTo_65 : decode cX2_nextTo 65 = .ok (.iinc 3 1, 3) := by decide +kernel
theorem dX2_nextTo_68 : decode cX2_nextTo 68 = .ok (.goto (-64), 3) := by decide +kernel
theorem dX2_nextTo_71 : decode cX2_nextTo 71 = .ok (.iload_n 2, 1) := by decide +kernel
theorem dX2_nextTo_72 : decode cX2_nextTo 72 = .ok (.ireturn, 1) := by decide +kernel
theorem dX2_whatFits_0 : decode cX2_whatFits 0 = .ok (.iload_n 2, 1) := by decide +kernel
theorem dX2_whatFits_1 : decode cX2_whatFits 1 = .ok (.ifCond .ne 7, 3) := by decide +kernel
theorem dX2_whatFits_4 : decode cX2_whatFits 4 = .ok (.iconst 1, 1) := by decide +kernel
theorem dX2_whatFits_5 : decode cX2_whatFits 5 = .ok (.goto 4, 3) := by decide +kernel
theorem dX2_whatFits_8 : decode cX2_whatFits 8 = .ok (.iconst 0, 1) := by decide +kernel
theorem dX2_whatFits_9 : decode cX2_whatFits 9 = .ok (.istore 7, 2) := by decide +kernel
theorem dX2_whatFits_11 : decode cX2_whatFits 11 = .ok (.iload_n 2, 1) := by decide +kernel
theorem dX2_whatFits_12 : decode cX2_whatFits 12 = .ok (.ifCond .ne 7, 3) := by decide +kernel
theorem dX2_whatFits_15 : decode cX2_whatFits 15 = .ok (.iconst 5, 1) := by decide +kernel
theorem dX2_whatFits_16 : decode cX2_whatFits 16 = .ok (.goto 14, 3) := by decide +kernel
theorem dX2_whatFits_19 : decode cX2_whatFits 19 = .ok (.iload_n 2, 1) := by decide +kernel
theorem dX2_whatFits_20 : decode cX2_whatFits 20 = .ok (.iconst 1, 1) := by decide +kernel
theorem dX2_whatFits_21 : decode cX2_whatFits 21 = .ok (.if_icmp .ne 8, 3) := by decide +kernel
theorem dX2_whatFits_24 : decode cX2_whatFits 24 = .ok (.bipush 9, 2) := by decide +kernel
theorem dX2_whatFits_26 : decode cX2_whatFits 26 = .ok (.goto 4, 3) := by decide +kernel
theorem dX2_whatFits_29 : decode cX2_whatFits 29 = .ok (.iconst 1, 1) := by decide +kernel
theorem dX2_whatFits_30 : decode cX2_whatFits 30 = .ok (.istore 8, 2) := by decide +kernel
theorem dX2_whatFits_32 : decode cX2_whatFits 32 = .ok (.iconst 0, 1) := by decide +kernel
theorem dX2_whatFits_33 : decode cX2_whatFits 33 = .ok (.istore 9, 2) := by decide +kernel
theorem dX2_whatFits_35 : decode cX2_whatFits 35 = .ok (.iload 7, 2) := by decide +kernel
theorem dX2_whatFits_37 : decode cX2_whatFits 37 = .ok (.istore 10, 2) := by decide +kernel
theorem dX2_whatFits_39 : decode cX2_whatFits 39 = .ok (.iload 10, 2) := by decide +kernel
theorem dX2_whatFits_41 : decode cX2_whatFits 41 = .ok (.iload 8, 2) := by decide +kernel
theorem dX2_whatFits_43 : decode cX2_whatFits 43 = .ok (.if_icmp .gt 44, 3) := by decide +kernel
theorem dX2_whatFits_46 : decode cX2_whatFits 46 = .ok (.aload_n 0, 1) := by decide +kernel
theorem dX2_whatFits_47 : decode cX2_whatFits 47 = .ok (.invokevirtual 37, 3) := by decide +kernel
theorem dX2_whatFits_50 : decode cX2_whatFits 50 = .ok (.aload_n 0, 1) := by decide +kernel
theorem dX2_whatFits_51 : decode cX2_whatFits 51 = .ok (.iload_n 1, 1) := by decide +kernel
theorem dX2_whatFits_52 : decode cX2_whatFits 52 = .ok (.iload_n 2, 1) := by decide +kernel
theorem dX2_whatFits_53 : decode cX2_whatFits 53 = .ok (.iload 10, 2) := by decide +kernel
theorem dX2_whatFits_55 : decode cX2_whatFits 55 = .ok (.invokevirtual 84, 3) := by decide +kernel
theorem dX2_whatFits_58 : decode cX2_whatFits 58 = .ok (.aload_n 0, 1) := by decide +kernel
theorem dX2_whatFits_59 : decode cX2_whatFits 59 = .ok (.iload_n 3, 1) := by decide +kernel
theorem dX2_whatFits_60 : decode cX2_whatFits 60 = .ok (.aload 4, 2) := by decide +kernel
theorem dX2_whatFits_62 : decode cX2_whatFits 62 = .ok (.iload 5, 2) := by decide +kernel
theorem dX2_whatFits_64 : decode cX2_whatFits 64 = .ok (.iload 6, 2) := by decide +kernel
theorem dX2_whatFits_66 : decode cX2_whatFits 66 = .ok (.invokevirtual 88, 3) := by decide +kernel
theorem dX2_whatFits_69 : decode cX2_whatFits 69 = .ok (.ifCond .eq 12, 3) := by decide +kernel
theorem dX2_whatFits_72 : decode cX2_whatFits 72 = .ok (.iload 9, 2) := by decide +kernel
theorem dX2_whatFits_74 : decode cX2_whatFits 74 = .ok (.iconst 1, 1) := by decide +kernel
theorem dX2_whatFits_75 : decode cX2_whatFits 75 = .ok (.iload 10, 2) := by decide +kernel
theorem dX2_whatFits_77 : decode cX2_whatFits 77 = .ok (.ishl, 1) := by decide +kernel
theorem dX2_whatFits_78 : decode cX2_whatFits 78 = .ok (.ior, 1) := by decide +kernel
theorem dX2_whatFits_79 : decode cX2_whatFits 79 = .ok (.istore 9, 2) := by decide +kernel
theorem dX2_whatFits_81 : decode cX2_whatFits 81 = .ok (.iinc 10 1, 3) := by decide +kernel
theorem dX2_whatFits_84 : decode cX2_whatFits 84 = .ok (.goto (-45), 3) := by decide +kernel
theorem dX2_whatFits_87 : decode cX2_whatFits 87 = .ok (.iload 9, 2) := by decide +kernel
theorem dX2_whatFits_89 : decode cX2_whatFits 89 = .ok (.ireturn, 1) := by decide +kernel
theorem dX2_suppose_0 : decode cX2_suppose 0 = .ok (.iload_n 2, 1) := by decide +kernel
theorem dX2_suppose_1 : decode cX2_suppose 1 = .ok (.ifCond .ne 18, 3) := by decide +kernel
theorem dX2_suppose_4 : decode cX2_suppose 4 = .ok (.aload_n 0, 1) := by decide +kernel
theorem dX2_suppose_5 : decode cX2_suppose 5 = .ok (.getfield 18, 3) := by decide +kernel
theorem dX2_suppose_8 : decode cX2_suppose 8 = .ok (.getfield 21, 3) := by decide +kernel
theorem dX2_suppose_11 : decode cX2_suppose 11 = .ok (.iconst 5, 1) := by decide +kernel
theorem dX2_suppose_12 : decode cX2_suppose 12 = .ok (.iload_n 1, 1) := by decide +kernel
theorem dX2_suppose_13 : decode cX2_suppose 13 = .ok (.iadd, 1) := by decide +kernel
theorem dX2_suppose_14 : decode cX2_suppose 14 = .ok (.iload_n 3, 1) := by decide +kernel
theorem dX2_suppose_15 : decode cX2_suppose 15 = .ok (.iastore, 1) := by decide +kernel
theorem dX2_suppose_16 : decode cX2_suppose 16 = .ok (.goto 52, 3) := by decide +kernel
theorem dX2_suppose_19 : decode cX2_suppose 19 = .ok (.iload_n 2, 1) := by decide +kernel
theorem dX2_suppose_20 : decode cX2_suppose 20 = .ok (.iconst 1, 1) := by decide +kernel
theorem dX2_suppose_21 : decode cX2_suppose 21 = .ok (.if_icmp .ne 19, 3) := by decide +kernel
theorem dX2_suppose_24 : decode cX2_suppose 24 = .ok (.aload_n 0, 1) := by decide +kernel
theorem dX2_suppose_25 : decode cX2_suppose 25 = .ok (.getfield 18, 3) := by decide +kernel
theorem dX2_suppose_28 : decode cX2_suppose 28 = .ok (.getfield 21, 3) := by decide +kernel
theorem dX2_suppose_31 : decode cX2_suppose 31 = .ok (.bipush 33, 2) := by decide +kernel
theorem dX2_suppose_33 : decode cX2_suppose 33 = .ok (.iload_n 1, 1) := by decide +kernel
theorem dX2_suppose_34 : decode cX2_suppose 34 = .ok (.iadd, 1) := by decide +kernel
theorem dX2_suppose_35 : decode cX2_suppose 35 = .ok (.iload_n 3, 1) := by decide +kernel
theorem dX2_suppose_36 : decode cX2_suppose 36 = .ok (.iastore, 1) := by decide +kernel
theorem dX2_suppose_37 : decode cX2_suppose 37 = .ok (.goto 31, 3) := by decide +kernel
theorem dX2_suppose_40 : decode cX2_suppose 40 = .ok (.aload_n 0, 1) := by decide +kernel
theorem dX2_suppose_41 : decode cX2_suppose 41 = .ok (.getfield 18, 3) := by decide +kernel
theorem dX2_suppose_44 : decode cX2_suppose 44 = .ok (.getfield 21, 3) := by decide +kernel
theorem dX2_suppose_47 : decode cX2_suppose 47 = .ok (.iconst 3, 1) := by decide +kernel
theorem dX2_suppose_48 : decode cX2_suppose 48 = .ok (.aload_n 0, 1) := by decide +kernel
theorem dX2_suppose_49 : decode cX2_suppose 49 = .ok (.getfield 18, 3) := by decide +kernel
theorem dX2_suppose_52 : decode cX2_suppose 52 = .ok (.getfield 21, 3) := by decide +kernel
theorem dX2_suppose_55 : decode cX2_suppose 55 = .ok (.iconst 3, 1) := by decide +kernel
theorem dX2_suppose_56 : decode cX2_suppose 56 = .ok (.iaload, 1) := by decide +kernel
theorem dX2_suppose_57 : decode cX2_suppose 57 = .ok (.iconst 1, 1) := by decide +kernel
theorem dX2_suppose_58 : decode cX2_suppose 58 = .ok (.iload_n 1, 1) := by decide +kernel
theorem dX2_suppose_59 : decode cX2_suppose 59 = .ok (.ishl, 1) := by decide +kernel
theorem dX2_suppose_60 : decode cX2_suppose 60 = .ok (.iconst (-1), 1) := by decide +kernel
theorem dX2_suppose_61 : decode cX2_suppose 61 = .ok (.ixor, 1) := by decide +kernel
theorem dX2_suppose_62 : decode cX2_suppose 62 = .ok (.iand, 1) := by decide +kernel
theorem dX2_suppose_63 : decode cX2_suppose 63 = .ok (.iload_n 3, 1) := by decide +kernel
theorem dX2_suppose_64 : decode cX2_suppose 64 = .ok (.iload_n 1, 1) := by decide +kernel
theorem dX2_suppose_65 : decode cX2_suppose 65 = .ok (.ishl, 1) := by decide +kernel
theorem dX2_suppose_66 : decode cX2_suppose 66 = .ok (.ior, 1) := by decide +kernel
theorem dX2_suppose_67 : decode cX2_suppose 67 = .ok (.iastore, 1) := by decide +kernel
theorem dX2_suppose_68 : decode cX2_suppose 68 = .ok (.return_, 1) := by decide +kernel
theorem dX2_isHeardAsTold_0 : decode cX2_isHeardAsTold 0 = .ok (.iload_n 3, 1) := by decide +kernel
theorem dX2_isHeardAsTold_1 : decode cX2_isHeardAsTold 1 = .ok (.istore 5, 2) := by decide +kernel
theorem dX2_isHeardAsTold_3 : decode cX2_isHeardAsTold 3 = .ok (.iload 5, 2) := by decide +kernel
theorem dX2_isHeardAsTold_5 : decode cX2_isHeardAsTold 5 = .ok (.iload_n 3, 1) := by decide +kernel
theorem dX2_isHeardAsTold_6 : decode cX2_isHeardAsTold 6 = .ok (.iload 4, 2) := by decide +kernel
theorem dX2_isHeardAsTold_8 : decode cX2_isHeardAsTold 8 = .ok (.iadd, 1) := by decide +kernel
theorem dX2_isHeardAsTold_9 : decode cX2_isHeardAsTold 9 = .ok (.if_icmp .ge 43, 3) := by decide +kernel
theorem dX2_isHeardAsTold_12 : decode cX2_isHeardAsTold 12 = .ok (.aload_n 0, 1) := by decide +kernel
theorem dX2_isHeardAsTold_13 : decode cX2_isHeardAsTold 13 = .ok (.getfield 18, 3) := by decide +kernel
theorem dX2_isHeardAsTold_16 : decode cX2_isHeardAsTold 16 = .ok (.invokevirtual 33, 3) := by decide +kernel
theorem dX2_isHeardAsTold_19 : decode cX2_isHeardAsTold 19 = .ok (.pop, 1) := by decide +kernel
theorem dX2_isHeardAsTold_20 : decode cX2_isHeardAsTold 20 = .ok (.iload 5, 2) := by decide +kernel
theorem dX2_isHeardAsTold_22 : decode cX2_isHeardAsTold 22 = .ok (.ifCond .lt 22, 3) := by decide +kernel
theorem dX2_isHeardAsTold_25 : decode cX2_isHeardAsTold 25 = .ok (.iload 5, 2) := by decide +kernel
theorem dX2_isHeardAsTold_27 : decode cX2_isHeardAsTold 27 = .ok (.aload_n 2, 1) := by decide +kernel
theorem dX2_isHeardAsTold_28 : decode cX2_isHeardAsTold 28 = .ok (.arraylength, 1) := by decide +kernel
theorem dX2_isHeardAsTold_29 : decode cX2_isHeardAsTold 29 = .ok (.if_icmp .ge 15, 3) := by decide +kernel
theorem dX2_isHeardAsTold_32 : decode cX2_isHeardAsTold 32 = .ok (.aload_n 0, 1) := by decide +kernel
theorem dX2_isHeardAsTold_33 : decode cX2_isHeardAsTold 33 = .ok (.iload_n 1, 1) := by decide +kernel
theorem dX2_isHeardAsTold_34 : decode cX2_isHeardAsTold 34 = .ok (.invokevirtual 66, 3) := by decide +kernel
theorem dX2_isHeardAsTold_37 : decode cX2_isHeardAsTold 37 = .ok (.aload_n 2, 1) := by decide +kernel
theorem dX2_isHeardAsTold_38 : decode cX2_isHeardAsTold 38 = .ok (.iload 5, 2) := by decide +kernel
theorem dX2_isHeardAsTold_40 : decode cX2_isHeardAsTold 40 = .ok (.iaload, 1) := by decide +kernel
theorem dX2_isHeardAsTold_41 : decode cX2_isHeardAsTold 41 = .ok (.if_icmp .eq 5, 3) := by decide +kernel
theorem dX2_isHeardAsTold_44 : decode cX2_isHeardAsTold 44 = .ok (.iconst 0, 1) := by decide +kernel
theorem dX2_isHeardAsTold_45 : decode cX2_isHeardAsTold 45 = .ok (.ireturn, 1) := by decide +kernel
theorem dX2_isHeardAsTold_46 : decode cX2_isHeardAsTold 46 = .ok (.iinc 5 1, 3) := by decide +kernel
theorem dX2_isHeardAsTold_49 : decode cX2_isHeardAsTold 49 = .ok (.goto (-46), 3) := by decide +kernel
theorem dX2_isHeardAsTold_52 : decode cX2_isHeardAsTold 52 = .ok (.iconst 1, 1) := by decide +kernel
theorem dX2_isHeardAsTold_53 : decode cX2_isHeardAsTold 53 = .ok (.ireturn, 1) := by decide +kernel
theorem dX2_hornsSpokenAt_0 : decode cX2_hornsSpokenAt 0 = .ok (.aload_n 0, 1) := by decide +kernel
theorem dX2_hornsSpokenAt_1 : decode cX2_hornsSpokenAt 1 = .ok (.invokevirtual 37, 3) := by decide +kernel
theorem dX2_hornsSpokenAt_4 : decode cX2_hornsSpokenAt 4 = .ok (.aload_n 0, 1) := by decide +kernel
theorem dX2_hornsSpokenAt_5 : decode cX2_hornsSpokenAt 5 = .ok (.iload_n 1, 1) := by decide +kernel
theorem dX2_hornsSpokenAt_6 : decode cX2_hornsSpokenAt 6 = .ok (.aload_n 3, 1) := by decide +kernel
theorem dX2_hornsSpokenAt_7 : decode cX2_hornsSpokenAt 7 = .ok (.iload 4, 2) := by decide +kernel
theorem dX2_hornsSpokenAt_9 : decode cX2_hornsSpokenAt 9 = .ok (.iload 5, 2) := by decide +kernel
theorem dX2_hornsSpokenAt_11 : decode cX2_hornsSpokenAt 11 = .ok (.invokevirtual 88, 3) := by decide +kernel
theorem dX2_hornsSpokenAt_14 : decode cX2_hornsSpokenAt 14 = .ok (.ifCond .eq 8, 3) := by decide +kernel
theorem dX2_hornsSpokenAt_17 : decode cX2_hornsSpokenAt 17 = .ok (.bipush 64, 2) := by decide +kernel
theorem dX2_hornsSpokenAt_19 : decode cX2_hornsSpokenAt 19 = .ok (.goto 4, 3) := by decide +kernel
theorem dX2_hornsSpokenAt_22 : decode cX2_hornsSpokenAt 22 = .ok (.iconst 0, 1) := by decide +kernel
theorem dX2_hornsSpokenAt_23 : decode cX2_hornsSpokenAt 23 = .ok (.istore 6, 2) := by decide +kernel
theorem dX2_hornsSpokenAt_25 : decode cX2_hornsSpokenAt 25 = .ok (.iconst 0, 1) := by decide +kernel
theorem dX2_hornsSpokenAt_26 : decode cX2_hornsSpokenAt 26 = .ok (.istore 7, 2) := by decide +kernel
theorem dX2_hornsSpokenAt_28 : decode cX2_hornsSpokenAt 28 = .ok (.iload 7, 2) := by decide +kernel
theorem dX2_hornsSpokenAt_30 : decode cX2_hornsSpokenAt 30 = .ok (.aload_n 0, 1) := by decide +kernel
theorem dX2_hornsSpokenAt_31 : decode cX2_hornsSpokenAt 31 = .ok (.getfield 12, 3) := by decide +kernel
theorem dX2_hornsSpokenAt_34 : decode cX2_hornsSpokenAt 34 = .ok (.getfield 21, 3) := by decide +kernel
theorem dX2_hornsSpokenAt_37 : decode cX2_hornsSpokenAt 37 = .ok (.iconst 0, 1) := by decide +kernel
theorem dX2_hornsSpokenAt_38 : decode cX2_hornsSpokenAt 38 = .ok (.iaload, 1) := by decide +kernel
theorem dX2_hornsSpokenAt_39 : decode cX2_hornsSpokenAt 39 = .ok (.if_icmp .ge 48, 3) := by decide +kernel
theorem dX2_hornsSpokenAt_42 : decode cX2_hornsSpokenAt 42 = .ok (.aload_n 0, 1) := by decide +kernel
theorem dX2_hornsSpokenAt_43 : decode cX2_hornsSpokenAt 43 = .ok (.invokevirtual 37, 3) := by decide +kernel
theorem dX2_hornsSpokenAt_46 : decode cX2_hornsSpokenAt 46 = .ok (.aload_n 0, 1) := by decide +kernel
theorem dX2_hornsSpokenAt_47 : decode cX2_hornsSpokenAt 47 = .ok (.getfield 18, 3) := by decide +kernel
theorem dX2_hornsSpokenAt_50 : decode cX2_hornsSpokenAt 50 = .ok (.iload 7, 2) := by decide +kernel
theorem dX2_hornsSpokenAt_52 : decode cX2_hornsSpokenAt 52 = .ok (.iload_n 2, 1) := by decide +kernel
theorem dX2_hornsSpokenAt_53 : decode cX2_hornsSpokenAt 53 = .ok (.bipush 60, 2) := by decide +kernel
theorem dX2_hornsSpokenAt_55 : decode cX2_hornsSpokenAt 55 = .ok (.invokevirtual 58, 3) := by decide +kernel
theorem dX2_hornsSpokenAt_58 : decode cX2_hornsSpokenAt 58 = .ok (.pop, 1) := by decide +kernel
theorem dX2_hornsSpokenAt_59 : decode cX2_hornsSpokenAt 59 = .ok (.aload_n 0, 1) := by decide +kernel
theorem dX2_hornsSpokenAt_60 : decode cX2_hornsSpokenAt 60 = .ok (.iload_n 1, 1) := by decide +kernel
theorem dX2_hornsSpokenAt_61 : decode cX2_hornsSpokenAt 61 = .ok (.aload_n 3, 1) := by decide +kernel
theorem dX2_hornsSpokenAt_62 : decode cX2_hornsSpokenAt 62 = .ok (.iload 4, 2) := by decide +kernel
theorem dX2_hornsSpokenAt_64 : decode cX2_hornsSpokenAt 64 = .ok (.iload 5, 2) := by decide +kernel
theorem dX2_hornsSpokenAt_66 : decode cX2_hornsSpokenAt 66 = .ok (.invokevirtual 88, 3) := by decide +kernel
theorem dX2_hornsSpokenAt_69 : decode cX2_hornsSpokenAt 69 = .ok (.ifCond .eq 12, 3) := by decide +kernel
theorem dX2_hornsSpokenAt_72 : decode cX2_hornsSpokenAt 72 = .ok (.iload 6, 2) := by decide +kernel
theorem dX2_hornsSpokenAt_74 : decode cX2_hornsSpokenAt 74 = .ok (.iconst 1, 1) := by decide +kernel
theorem dX2_hornsSpokenAt_75 : decode cX2_hornsSpokenAt 75 = .ok (.iload 7, 2) := by decide +kernel
theorem dX2_hornsSpokenAt_77 : decode cX2_hornsSpokenAt 77 = .ok (.ishl, 1) := by decide +kernel
theorem dX2_hornsSpokenAt_78 : decode cX2_hornsSpokenAt 78 = .ok (.ior, 1) := by decide +kernel
theorem dX2_hornsSpokenAt_79 : decode cX2_hornsSpokenAt 79 = .ok (.istore 6, 2) := by decide +kernel
theorem dX2_hornsSpokenAt_81 : decode cX2_hornsSpokenAt 81 = .ok (.iinc 7 1, 3) := by decide +kernel
theorem dX2_hornsSpokenAt_84 : decode cX2_hornsSpokenAt 84 = .ok (.goto (-56), 3) := by decide +kernel
theorem dX2_hornsSpokenAt_87 : decode cX2_hornsSpokenAt 87 = .ok (.iload 6, 2) := by decide +kernel
theorem dX2_hornsSpokenAt_89 : decode cX2_hornsSpokenAt 89 = .ok (.ireturn, 1) := by decide +kernel
theorem dX2_coldPipes_0 : decode cX2_coldPipes 0 = .ok (.aload_n 0, 1) := by decide +kernel
theorem dX2_coldPipes_1 : decode cX2_coldPipes 1 = .ok (.invokevirtual 37, 3) := by decide +kernel
theorem dX2_coldPipes_4 : decode cX2_coldPipes 4 = .ok (.aload_n 0, 1) := by decide +kernel
theorem dX2_coldPipes_5 : decode cX2_coldPipes 5 = .ok (.invokevirtual 92, 3) := by decide +kernel
theorem dX2_coldPipes_8 : decode cX2_coldPipes 8 = .ok (.istore_n 2, 1) := by decide +kernel
theorem dX2_coldPipes_9 : decode cX2_coldPipes 9 = .ok (.iconst 0, 1) := by decide +kernel
theorem dX2_coldPipes_10 : decode cX2_coldPipes 10 = .ok (.istore_n 3, 1) := by decide +kernel
theorem dX2_coldPipes_11 : decode cX2_coldPipes 11 = .ok (.iload_n 3, 1) := by decide +kernel
theorem dX2_coldPipes_12 : decode cX2_coldPipes 12 = .ok (.iload_n 1, 1) := by decide +kernel
theorem dX2_coldPipes_13 : decode cX2_coldPipes 13 = .ok (.if_icmp .ge 24, 3) := by decide +kernel
theorem dX2_coldPipes_16 : decode cX2_coldPipes 16 = .ok (.aload_n 0, 1) := by decide +kernel
theorem dX2_coldPipes_17 : decode cX2_coldPipes 17 = .ok (.getfield 18, 3) := by decide +kernel
theorem dX2_coldPipes_20 : decode cX2_coldPipes 20 = .ok (.invokevirtual 33, 3) := by decide +kernel
theorem dX2_coldPipes_23 : decode cX2_coldPipes 23 = .ok (.pop, 1) := by decide +kernel
theorem dX2_coldPipes_24 : decode cX2_coldPipes 24 = .ok (.iload_n 2, 1) := by decide +kernel
theorem dX2_coldPipes_25 : decode cX2_coldPipes 25 = .ok (.aload_n 0, 1) := by decide +kernel
theorem dX2_coldPipes_26 : decode cX2_coldPipes 26 = .ok (.invokevirtual 92, 3) := by decide +kernel
theorem dX2_coldPipes_29 : decode cX2_coldPipes 29 = .ok (.iand, 1) := by decide +kernel
theorem dX2_coldPipes_30 : decode cX2_coldPipes 30 = .ok (.istore_n 2, 1) := by decide +kernel
theorem dX2_coldPipes_31 : decode cX2_coldPipes 31 = .ok (.iinc 3 1, 3) := by decide +kernel
theorem dX2_coldPipes_34 : decode cX2_coldPipes 34 = .ok (.goto (-23), 3) := by decide +kernel
theorem dX2_coldPipes_37 : decode cX2_coldPipes 37 = .ok (.iload_n 2, 1) := by decide +kernel
theorem dX2_coldPipes_38 : decode cX2_coldPipes 38 = .ok (.ireturn, 1) := by decide +kernel
theorem dX2_emptyPipes_0 : decode cX2_emptyPipes 0 = .ok (.iconst 0, 1) := by decide +kernel
theorem dX2_emptyPipes_1 : decode cX2_emptyPipes 1 = .ok (.istore_n 1, 1) := by decide +kernel
theorem dX2_emptyPipes_2 : decode cX2_emptyPipes 2 = .ok (.iconst 0, 1) := by decide +kernel
theorem dX2_emptyPipes_3 : decode cX2_emptyPipes 3 = .ok (.istore_n 2, 1) := by decide +kernel
theorem dX2_emptyPipes_4 : decode cX2_emptyPipes 4 = .ok (.iload_n 2, 1) := by decide +kernel
theorem dX2_emptyPipes_5 : decode cX2_emptyPipes 5 = .ok (.aload_n 0, 1) := by decide +kernel
theorem dX2_emptyPipes_6 : decode cX2_emptyPipes 6 = .ok (.getfield 18, 3) := by decide +kernel
theorem dX2_emptyPipes_9 : decode cX2_emptyPipes 9 = .ok (.getfield 21, 3) := by decide +kernel
theorem dX2_emptyPipes_12 : decode cX2_emptyPipes 12 = .ok (.iconst 2, 1) := by decide +kernel
theorem dX2_emptyPipes_13 : decode cX2_emptyPipes 13 = .ok (.iaload, 1) := by decide +kernel
theorem dX2_emptyPipes_14 : decode cX2_emptyPipes 14 = .ok (.if_icmp .ge 26, 3) := by decide +kernel
theorem dX2_emptyPipes_17 : decode cX2_emptyPipes 17 = .ok (.aload_n 0, 1) := by decide +kernel
theorem dX2_emptyPipes_18 : decode cX2_emptyPipes 18 = .ok (.getfield 18, 3) := by decide +kernel
theorem dX2_emptyPipes_21 : decode cX2_emptyPipes 21 = .ok (.iload_n 2, 1) := by decide +kernel
theorem dX2_emptyPipes_22 : decode cX2_emptyPipes 22 = .ok (.invokevirtual 95, 3) := by decide +kernel
theorem dX2_emptyPipes_25 : decode cX2_emptyPipes 25 = .ok (.ifCond .ne 9, 3) := by decide +kernel
theorem dX2_emptyPipes_28 : decode cX2_emptyPipes 28 = .ok (.iload_n 1, 1) := by decide +kernel
theorem dX2_emptyPipes_29 : decode cX2_emptyPipes 29 = .ok (.iconst 1, 1) := by decide +kernel
theorem dX2_emptyPipes_30 : decode cX2_emptyPipes 30 = .ok (.iload_n 2, 1) := by decide +kernel
theorem dX2_emptyPipes_31 : decode cX2_emptyPipes 31 = .ok (.ishl, 1) := by decide +kernel
theorem dX2_emptyPipes_32 : decode cX2_emptyPipes 32 = .ok (.ior, 1) := by decide +kernel
theorem dX2_emptyPipes_33 : decode cX2_emptyPipes 33 = .ok (.istore_n 1, 1) := by decide +kernel
theorem dX2_emptyPipes_34 : decode cX2_emptyPipes 34 = .ok (.iinc 2 1, 3) := by decide +kernel
theorem dX2_emptyPipes_37 : decode cX2_emptyPipes 37 = .ok (.goto (-33), 3) := by decide +kernel
theorem dX2_emptyPipes_40 : decode cX2_emptyPipes 40 = .ok (.iload_n 1, 1) := by decide +kernel
theorem dX2_emptyPipes_41 : decode cX2_emptyPipes 41 = .ok (.ireturn, 1) := by decide +kernel
theorem dX2_likelihood_0 : decode cX2_likelihood 0 = .ok (.aload_n 0, 1) := by decide +kernel
theorem dX2_likelihood_1 : decode cX2_likelihood 1 = .ok (.getfield 12, 3) := by decide +kernel
theorem dX2_likelihood_4 : decode cX2_likelihood 4 = .ok (.getfield 21, 3) := by decide +kernel
theorem dX2_likelihood_7 : decode cX2_likelihood 7 = .ok (.iconst 3, 1) := by decide +kernel
theorem dX2_likelihood_8 : decode cX2_likelihood 8 = .ok (.iaload, 1) := by decide +kernel
theorem dX2_likelihood_9 : decode cX2_likelihood 9 = .ok (.istore 5, 2) := by decide +kernel
theorem dX2_likelihood_11 : decode cX2_likelihood 11 = .ok (.bipush 10, 2) := by decide +kernel
theorem dX2_likelihood_13 : decode cX2_likelihood 13 = .ok (.iload 5, 2) := by decide +kernel
theorem dX2_likelihood_15 : decode cX2_likelihood 15 = .ok (.invokestatic 48, 3) := by decide +kernel
theorem dX2_likelihood_18 : decode cX2_likelihood 18 = .ok (.invokestatic 98, 3) := by decide +kernel
theorem dX2_likelihood_21 : decode cX2_likelihood 21 = .ok (.lstore 6, 2) := by decide +kernel
theorem dX2_likelihood_23 : decode cX2_likelihood 23 = .ok (.lconst 0, 1) := by decide +kernel
theorem dX2_likelihood_24 : decode cX2_likelihood 24 = .ok (.lstore 8, 2) := by decide +kernel
theorem dX2_likelihood_26 : decode cX2_likelihood 26 = .ok (.iconst 0, 1) := by decide +kernel
theorem dX2_likelihood_27 : decode cX2_likelihood 27 = .ok (.istore 10, 2) := by decide +kernel
theorem dX2_likelihood_29 : decode cX2_likelihood 29 = .ok (.iload 10, 2) := by decide +kernel
theorem dX2_likelihood_31 : decode cX2_likelihood 31 = .ok (.sipush 128, 3) := by decide +kernel
theorem dX2_likelihood_34 : decode cX2_likelihood 34 = .ok (.if_icmp .ge 79, 3) := by decide +kernel
theorem dX2_likelihood_37 : decode cX2_likelihood 37 = .ok (.iload 10, 2) := by decide +kernel
theorem dX2_likelihood_39 : decode cX2_likelihood 39 = .ok (.iload 5, 2) := by decide +kernel
theorem dX2_likelihood_41 : decode cX2_likelihood 41 = .ok (.iconst (-1), 1) := by decide +kernel
theorem dX2_likelihood_42 : decode cX2_likelihood 42 = .ok (.ixor, 1) := by decide +kernel
theorem dX2_likelihood_43 : decode cX2_likelihood 43 = .ok (.iand, 1) := by decide +kernel
theorem dX2_likelihood_44 : decode cX2_likelihood 44 = .ok (.ifCond .ne 63, 3) := by decide +kernel
theorem dX2_likelihood_47 : decode cX2_likelihood 47 = .ok (.iload 10, 2) := by decide +kernel
theorem dX2_likelihood_49 : decode cX2_likelihood 49 = .ok (.invokestatic 48, 3) := by decide +kernel
theorem dX2_likelihood_52 : decode cX2_likelihood 52 = .ok (.istore 11, 2) := by decide +kernel
theorem dX2_likelihood_54 : decode cX2_likelihood 54 = .ok (.iload_n 3, 1) := by decide +kernel
theorem dX2_likelihood_55 : decode cX2_likelihood 55 = .ok (.iload 11, 2) := by decide +kernel
theorem dX2_likelihood_57 : decode cX2_likelihood 57 = .ok (.invokestatic 98, 3) := by decide +kernel
theorem dX2_likelihood_60 : decode cX2_likelihood 60 = .ok (.bipush 10, 2) := by decide +kernel
theorem dX2_likelihood_62 : decode cX2_likelihood 62 = .ok (.iload_n 3, 1) := by decide +kernel
theorem dX2_likelihood_63 : decode cX2_likelihood 63 = .ok (.isub, 1) := by decide +kernel
theorem dX2_likelihood_64 : decode cX2_likelihood 64 = .ok (.iload 5, 2) := by decide +kernel
theorem dX2_likelihood_66 : decode cX2_likelihood 66 = .ok (.invokestatic 48, 3) := by decide +kernel
theorem dX2_likelihood_69 : decode cX2_likelihood 69 = .ok (.iload 11, 2) := by decide +kernel
theorem dX2_likelihood_71 : decode cX2_likelihood 71 = .ok (.isub, 1) := by decide +kernel
theorem dX2_likelihood_72 : decode cX2_likelihood 72 = .ok (.invokestatic 98, 3) := by decide +kernel
theorem dX2_likelihood_75 : decode cX2_likelihood 75 = .ok (.lmul, 1) := by decide +kernel
theorem dX2_likelihood_76 : decode cX2_likelihood 76 = .ok (.lstore 12, 2) := by decide +kernel
theorem dX2_likelihood_78 : decode cX2_likelihood 78 = .ok (.lload 8, 2) := by decide +kernel
theorem dX2_likelihood_80 : decode cX2_likelihood 80 = .ok (.lload 12, 2) := by decide +kernel
theorem dX2_likelihood_82 : decode cX2_likelihood 82 = .ok (.lconst 0, 1) := by decide +kernel
theorem dX2_likelihood_83 : decode cX2_likelihood 83 = .ok (.lcmp, 1) := by decide +kernel
theorem dX2_likelihood_84 : decode cX2_likelihood 84 = .ok (.ifCond .le 19, 3) := by decide +kernel
theorem dX2_likelihood_87 : decode cX2_likelihood 87 = .ok (.aload_n 0, 1) := by decide +kernel
theorem dX2_likelihood_88 : decode cX2_likelihood 88 = .ok (.iload 10, 2) := by decide +kernel
theorem dX2_likelihood_90 : decode cX2_likelihood 90 = .ok (.iload_n 1, 1) := by decide +kernel
theorem dX2_likelihood_91 : decode cX2_likelihood 91 = .ok (.iload_n 2, 1) := by decide +kernel
theorem dX2_likelihood_92 : decode cX2_likelihood 92 = .ok (.invokevirtual 102, 3) := by decide +kernel
theorem dX2_likelihood_95 : decode cX2_likelihood 95 = .ok (.ifCond .eq 8, 3) := by decide +kernel
theorem dX2_likelihood_98 : decode cX2_likelihood 98 = .ok (.lload 12, 2) := by decide +kernel
theorem dX2_likelihood_100 : decode cX2_likelihood 100 = .ok (.goto 4, 3) := by decide +kernel
theorem dX2_likelihood_103 : decode cX2_likelihood 103 = .ok (.lconst 0, 1) := by decide +kernel
theorem dX2_likelihood_104 : decode cX2_likelihood 104 = .ok (.ladd, 1) := by decide +kernel
theorem dX2_likelihood_105 : decode cX2_likelihood 105 = .ok (.lstore 8, 2) := by decide +kernel
theorem dX2_likelihood_107 : decode cX2_likelihood 107 = .ok (.iinc 10 1, 3) := by decide +kernel
theorem dX2_likelihood_110 : decode cX2_likelihood 110 = .ok (.goto (-81), 3) := by decide +kernel
theorem dX2_likelihood_113 : decode cX2_likelihood 113 = .ok (.lload 6, 2) := by decide +kernel
theorem dX2_likelihood_115 : decode cX2_likelihood 115 = .ok (.lload 8, 2) := by decide +kernel
theorem dX2_likelihood_117 : decode cX2_likelihood 117 = .ok (.invokestatic 105, 3) := by decide +kernel
theorem dX2_likelihood_120 : decode cX2_likelihood 120 = .ok (.lstore 10, 2) := by decide +kernel
theorem dX2_likelihood_122 : decode cX2_likelihood 122 = .ok (.lload 10, 2) := by decide +kernel
theorem dX2_likelihood_124 : decode cX2_likelihood 124 = .ok (.lconst 1, 1) := by decide +kernel
theorem dX2_likelihood_125 : decode cX2_likelihood 125 = .ok (.lcmp, 1) := by decide +kernel
theorem dX2_likelihood_126 : decode cX2_likelihood 126 = .ok (.ifCond .ge 14, 3) := by decide +kernel
theorem dX2_likelihood_129 : decode cX2_likelihood 129 = .ok (.iload 4, 2) := by decide +kernel
theorem dX2_likelihood_131 : decode cX2_likelihood 131 = .ok (.ifCond .eq 7, 3) := by decide +kernel
theorem dX2_likelihood_134 : decode cX2_likelihood 134 = .ok (.lconst 0, 1) := by decide +kernel
theorem dX2_likelihood_135 : decode cX2_likelihood 135 = .ok (.goto 4, 3) := by decide +kernel
theorem dX2_likelihood_138 : decode cX2_likelihood 138 = .ok (.lconst 1, 1) := by decide +kernel
theorem dX2_likelihood_139 : decode cX2_likelihood 139 = .ok (.lreturn, 1) := by decide +kernel
theorem dX2_likelihood_140 : decode cX2_likelihood 140 = .ok (.iload 4, 2) := by decide +kernel
theorem dX2_likelihood_142 : decode cX2_likelihood 142 = .ok (.ifCond .eq 11, 3) := by decide +kernel
theorem dX2_likelihood_145 : decode cX2_likelihood 145 = .ok (.lload 8, 2) := by decide +kernel
theorem dX2_likelihood_147 : decode cX2_likelihood 147 = .ok (.lload 10, 2) := by decide +kernel
theorem dX2_likelihood_149 : decode cX2_likelihood 149 = .ok (.ldiv, 1) := by decide +kernel
theorem dX2_likelihood_150 : decode cX2_likelihood 150 = .ok (.goto 8, 3) := by decide +kernel
theorem dX2_likelihood_153 : decode cX2_likelihood 153 = .ok (.lload 6, 2) := by decide +kernel
theorem dX2_likelihood_155 : decode cX2_likelihood 155 = .ok (.lload 10, 2) := by decide +kernel
theorem dX2_likelihood_157 : decode cX2_likelihood 157 = .ok (.ldiv, 1) := by decide +kernel
theorem dX2_likelihood_158 : decode cX2_likelihood 158 = .ok (.lreturn, 1) := by decide +kernel
theorem dX2_hearsWithShut_0 : decode cX2_hearsWithShut 0 = .ok (.aload_n 0, 1) := by decide +kernel
theorem dX2_hearsWithShut_1 : decode cX2_hearsWithShut 1 = .ok (.invokevirtual 37, 3) := by decide +kernel
theorem dX2_hearsWithShut_4 : decode cX2_hearsWithShut 4 = .ok (.aload_n 0, 1) := by decide +kernel
theorem dX2_hearsWithShut_5 : decode cX2_hearsWithShut 5 = .ok (.getfield 18, 3) := by decide +kernel
theorem dX2_hearsWithShut_8 : decode cX2_hearsWithShut 8 = .ok (.getfield 21, 3) := by decide +kernel
theorem dX2_hearsWithShut_11 : decode cX2_hearsWithShut 11 = .ok (.iconst 3, 1) := by decide +kernel
theorem dX2_hearsWithShut_12 : decode cX2_hearsWithShut 12 = .ok (.dup2, 1) := by decide +kernel
theorem dX2_hearsWithShut_13 : decode cX2_hearsWithShut 13 = .ok (.iaload, 1) := by decide +kernel
theorem dX2_hearsWithShut_14 : decode cX2_hearsWithShut 14 = .ok (.iload_n 1, 1) := by decide +kernel
theorem dX2_hearsWithShut_15 : decode cX2_hearsWithShut 15 = .ok (.iconst (-1), 1) := by decide +kernel
theorem dX2_hearsWithShut_16 : decode cX2_hearsWithShut 16 = .ok (.ixor, 1) := by decide +kernel
theorem dX2_hearsWithShut_17 : decode cX2_hearsWithShut 17 = .ok (.iand, 1) := by decide +kernel
theorem dX2_hearsWithShut_18 : decode cX2_hearsWithShut 18 = .ok (.iastore, 1) := by decide +kernel
theorem dX2_hearsWithShut_19 : decode cX2_hearsWithShut 19 = .ok (.aload_n 0, 1) := by decide +kernel
theorem dX2_hearsWithShut_20 : decode cX2_hearsWithShut 20 = .ok (.iconst 1, 1) := by decide +kernel
theorem dX2_hearsWithShut_21 : decode cX2_hearsWithShut 21 = .ok (.iload_n 2, 1) := by decide +kernel
theorem dX2_hearsWithShut_22 : decode cX2_hearsWithShut 22 = .ok (.ishl, 1) := by decide +kernel
theorem dX2_hearsWithShut_23 : decode cX2_hearsWithShut 23 = .ok (.iload_n 3, 1) := by decide +kernel
theorem dX2_hearsWithShut_24 : decode cX2_hearsWithShut 24 = .ok (.invokevirtual 43, 3) := by decide +kernel
theorem dX2_hearsWithShut_27 : decode cX2_hearsWithShut 27 = .ok (.ifCond .le 7, 3) := by decide +kernel
theorem dX2_hearsWithShut_30 : decode cX2_hearsWithShut 30 = .ok (.iconst 1, 1) := by decide +kernel
theorem dX2_hearsWithShut_31 : decode cX2_hearsWithShut 31 = .ok (.goto 4, 3) := by decide +kernel
theorem dX2_hearsWithShut_34 : decode cX2_hearsWithShut 34 = .ok (.iconst 0, 1) := by decide +kernel
theorem dX2_hearsWithShut_35 : decode cX2_hearsWithShut 35 = .ok (.ireturn, 1) := by decide +kernel
theorem dX2_power_0 : decode cX2_power 0 = .ok (.lconst 1, 1) := by decide +kernel
theorem dX2_power_1 : decode cX2_power 1 = .ok (.lstore_n 2, 1) := by decide +kernel
theorem dX2_power_2 : decode cX2_power 2 = .ok (.iconst 0, 1) := by decide +kernel
theorem dX2_power_3 : decode cX2_power 3 = .ok (.istore 4, 2) := by decide +kernel
theorem dX2_power_5 : decode cX2_power 5 = .ok (.iload 4, 2) := by decide +kernel
theorem dX2_power_7 : decode cX2_power 7 = .ok (.iload_n 1, 1) := by decide +kernel
theorem dX2_power_8 : decode cX2_power 8 = .ok (.if_icmp .ge 14, 3) := by decide +kernel
theorem dX2_power_11 : decode cX2_power 11 = .ok (.lload_n 2, 1) := by decide +kernel
theorem dX2_power_12 : decode cX2_power 12 = .ok (.iload_n 0, 1) := by decide +kernel
theorem dX2_power_13 : decode cX2_power 13 = .ok (.i2l, 1) := by decide +kernel
theorem dX2_power_14 : decode cX2_power 14 = .ok (.lmul, 1) := by decide +kernel
theorem dX2_power_15 : decode cX2_power 15 = .ok (.lstore_n 2, 1) := by decide +kernel
theorem dX2_power_16 : decode cX2_power 16 = .ok (.iinc 4 1, 3) := by decide +kernel
theorem dX2_power_19 : decode cX2_power 19 = .ok (.goto (-14), 3) := by decide +kernel
theorem dX2_power_22 : decode cX2_power 22 = .ok (.lload_n 2, 1) := by decide +kernel
theorem dX2_power_23 : decode cX2_power 23 = .ok (.lreturn, 1) := by decide +kernel
theorem dX2_commonDivisor_0 : decode cX2_commonDivisor 0 = .ok (.lload_n 0, 1) := by decide +kernel
theorem dX2_commonDivisor_1 : decode cX2_commonDivisor 1 = .ok (.lstore 4, 2) := by decide +kernel
theorem dX2_commonDivisor_3 : decode cX2_commonDivisor 3 = .ok (.lload_n 2, 1) := by decide +kernel
theorem dX2_commonDivisor_4 : decode cX2_commonDivisor 4 = .ok (.lstore 6, 2) := by decide +kernel
theorem dX2_commonDivisor_6 : decode cX2_commonDivisor 6 = .ok (.iconst 0, 1) := by decide +kernel
theorem dX2_commonDivisor_7 : decode cX2_commonDivisor 7 = .ok (.istore 8, 2) := by decide +kernel
theorem dX2_commonDivisor_9 : decode cX2_commonDivisor 9 = .ok (.iload 8, 2) := by decide +kernel
theorem dX2_commonDivisor_11 : decode cX2_commonDivisor 11 = .ok (.bipush 100, 2) := by decide +kernel
theorem dX2_commonDivisor_13 : decode cX2_commonDivisor 13 = .ok (.if_icmp .ge 31, 3) := by decide +kernel
theorem dX2_commonDivisor_16 : decode cX2_commonDivisor 16 = .ok (.lload 6, 2) := by decide +kernel
theorem dX2_commonDivisor_18 : decode cX2_commonDivisor 18 = .ok (.lconst 0, 1) := by decide +kernel
theorem dX2_commonDivisor_19 : decode cX2_commonDivisor 19 = .ok (.lcmp, 1) := by decide +kernel
theorem dX2_commonDivisor_20 : decode cX2_commonDivisor 20 = .ok (.ifCond .eq 24, 3) := by decide +kernel
theorem dX2_commonDivisor_23 : decode cX2_commonDivisor 23 = .ok (.lload 4, 2) := by decide +kernel
theorem dX2_commonDivisor_25 : decode cX2_commonDivisor 25 = .ok (.lload 6, 2) := by decide +kernel
theorem dX2_commonDivisor_27 : decode cX2_commonDivisor 27 = .ok (.lrem, 1) := by decide +kernel
theorem dX2_commonDivisor_28 : decode cX2_commonDivisor 28 = .ok (.lstore 9, 2) := by decide +kernel
theorem dX2_commonDivisor_30 : decode cX2_commonDivisor 30 = .ok (.lload 6, 2) := by decide +kernel
theorem dX2_commonDivisor_32 : decode cX2_commonDivisor 32 = .ok (.lstore 4, 2) := by decide +kernel
theorem dX2_commonDivisor_34 : decode cX2_commonDivisor 34 = .ok (.lload 9, 2) := by decide +kernel
theorem dX2_commonDivisor_36 : decode cX2_commonDivisor 36 = .ok (.lstore 6, 2) := by decide +kernel
theorem dX2_commonDivisor_38 : decode cX2_commonDivisor 38 = .ok (.iinc 8 1, 3) := by decide +kernel
theorem dX2_commonDivisor_41 : decode cX2_commonDivisor 41 = .ok (.goto (-32), 3) := by decide +kernel
theorem dX2_commonDivisor_44 : decode cX2_commonDivisor 44 = .ok (.lload 4, 2) := by decide +kernel
theorem dX2_commonDivisor_46 : decode cX2_commonDivisor 46 = .ok (.lreturn, 1) := by decide +kernel
theorem dX2_sitting_0 : decode cX2_sitting 0 = .ok (.aload_n 0, 1) := by decide +kernel
theorem dX2_sitting_1 : decode cX2_sitting 1 = .ok (.invokevirtual 37, 3) := by decide +kernel
theorem dX2_sitting_4 : decode cX2_sitting 4 = .ok (.aload_n 0, 1) := by decide +kernel
theorem dX2_sitting_5 : decode cX2_sitting 5 = .ok (.getfield 18, 3) := by decide +kernel
theorem dX2_sitting_8 : decode cX2_sitting 8 = .ok (.getfield 21, 3) := by decide +kernel
theorem dX2_sitting_11 : decode cX2_sitting 11 = .ok (.iconst 0, 1) := by decide +kernel
theorem dX2_sitting_12 : decode cX2_sitting 12 = .ok (.iaload, 1) := by decide +kernel
theorem dX2_sitting_13 : decode cX2_sitting 13 = .ok (.istore 4, 2) := by decide +kernel
theorem dX2_sitting_15 : decode cX2_sitting 15 = .ok (.iload_n 2, 1) := by decide +kernel
theorem dX2_sitting_16 : decode cX2_sitting 16 = .ok (.i2l, 1) := by decide +kernel
theorem dX2_sitting_17 : decode cX2_sitting 17 = .ok (.lstore 5, 2) := by decide +kernel
theorem dX2_sitting_19 : decode cX2_sitting 19 = .ok (.iconst 0, 1) := by decide +kernel
theorem dX2_sitting_20 : decode cX2_sitting 20 = .ok (.istore 7, 2) := by decide +kernel
theorem dX2_sitting_22 : decode cX2_sitting 22 = .ok (.iconst 0, 1) := by decide +kernel
theorem dX2_sitting_23 : decode cX2_sitting 23 = .ok (.istore 8, 2) := by decide +kernel
theorem dX2_sitting_25 : decode cX2_sitting 25 = .ok (.iload 8, 2) := by decide +kernel
theorem dX2_sitting_27 : decode cX2_sitting 27 = .ok (.iload_n 1, 1) := by decide +kernel
theorem dX2_sitting_28 : decode cX2_sitting 28 = .ok (.if_icmp .ge 76, 3) := by decide +kernel
theorem dX2_sitting_31 : decode cX2_sitting 31 = .ok (.lload 5, 2) := by decide +kernel
theorem dX2_sitting_33 : decode cX2_sitting 33 = .ok (.ldc2_w 109, 3) := by decide +kernel
theorem dX2_sitting_36 : decode cX2_sitting 36 = .ok (.lmul, 1) := by decide +kernel
theorem dX2_sitting_37 : decode cX2_sitting 37 = .ok (.ldc2_w 111, 3) := by decide +kernel
theorem dX2_sitting_40 : decode cX2_sitting 40 = .ok (.lrem, 1) := by decide +kernel
theorem dX2_sitting_41 : decode cX2_sitting 41 = .ok (.lstore 5, 2) := by decide +kernel
theorem dX2_sitting_43 : decode cX2_sitting 43 = .ok (.lload 5, 2) := by decide +kernel
theorem dX2_sitting_45 : decode cX2_sitting 45 = .ok (.ldc2_w 113, 3) := by decide +kernel
theorem dX2_sitting_48 : decode cX2_sitting 48 = .ok (.lrem, 1) := by decide +kernel
theorem dX2_sitting_49 : decode cX2_sitting 49 = .ok (.lconst 0, 1) := by decide +kernel
theorem dX2_sitting_50 : decode cX2_sitting 50 = .ok (.lcmp, 1) := by decide +kernel
theorem dX2_sitting_51 : decode cX2_sitting 51 = .ok (.ifCond .ne 32, 3) := by decide +kernel
theorem dX2_sitting_54 : decode cX2_sitting 54 = .ok (.iload 4, 2) := by decide +kernel
theorem dX2_sitting_56 : decode cX2_sitting 56 = .ok (.ifCond .le 27, 3) := by decide +kernel
theorem dX2_sitting_59 : decode cX2_sitting 59 = .ok (.aload_n 0, 1) := by decide +kernel
theorem dX2_sitting_60 : decode cX2_sitting 60 = .ok (.getfield 18, 3) := by decide +kernel
theorem dX2_sitting_63 : decode cX2_sitting 63 = .ok (.lload 5, 2) := by decide +kernel
theorem dX2_sitting_65 : decode cX2_sitting 65 = .ok (.iload 4, 2) := by decide +kernel
theorem dX2_sitting_67 : decode cX2_sitting 67 = .ok (.i2l, 1) := by decide +kernel
theorem dX2_sitting_68 : decode cX2_sitting 68 = .ok (.lrem, 1) := by decide +kernel
theorem dX2_sitting_69 : decode cX2_sitting 69 = .ok (.l2i, 1) := by decide +kernel
theorem dX2_sitting_70 : decode cX2_sitting 70 = .ok (.lload 5, 2) := by decide +kernel
theorem dX2_sitting_72 : decode cX2_sitting 72 = .ok (.ldc2_w 115, 3) := by decide +kernel
theorem dX2_sitting_75 : decode cX2_sitting 75 = .ok (.lrem, 1) := by decide +kernel
theorem dX2_sitting_76 : decode cX2_sitting 76 = .ok (.l2i, 1) := by decide +kernel
theorem dX2_sitting_77 : decode cX2_sitting 77 = .ok (.bipush 40, 2) := by decide +kernel
theorem dX2_sitting_79 : decode cX2_sitting 79 = .ok (.invokevirtual 58, 3) := by decide +kernel
theorem dX2_sitting_82 : decode cX2_sitting 82 = .ok (.pop, 1) := by decide +kernel
theorem dX2_sitting_83 : decode cX2_sitting 83 = .ok (.iload 7, 2) := by decide +kernel
theorem dX2_sitting_85 : decode cX2_sitting 85 = .ok (.aload_n 0, 1) := by decide +kernel
theorem dX2_sitting_86 : decode cX2_sitting 86 = .ok (.getfield 18, 3) := by decide +kernel
theorem dX2_sitting_89 : decode cX2_sitting 89 = .ok (.invokevirtual 33, 3) := by decide +kernel
theorem dX2_sitting_92 : decode cX2_sitting 92 = .ok (.invokestatic 48, 3) := by decide +kernel
theorem dX2_sitting_95 : decode cX2_sitting 95 = .ok (.iadd, 1) := by decide +kernel
theorem dX2_sitting_96 : decode cX2_sitting 96 = .ok (.istore 7, 2) := by decide +kernel
theorem dX2_sitting_98 : decode cX2_sitting 98 = .ok (.iinc 8 1, 3) := by decide +kernel
theorem dX2_sitting_101 : decode cX2_sitting 101 = .ok (.goto (-76), 3) := by decide +kernel
theorem dX2_sitting_104 : decode cX2_sitting 104 = .ok (.iload_n 3, 1) := by decide +kernel
theorem dX2_sitting_105 : decode cX2_sitting 105 = .ok (.ifCond .eq 8, 3) := by decide +kernel
theorem dX2_sitting_108 : decode cX2_sitting 108 = .ok (.iload 7, 2) := by decide +kernel
theorem dX2_sitting_110 : decode cX2_sitting 110 = .ok (.goto 10, 3) := by decide +kernel
theorem dX2_sitting_113 : decode cX2_sitting 113 = .ok (.aload_n 0, 1) := by decide +kernel
theorem dX2_sitting_114 : decode cX2_sitting 114 = .ok (.getfield 18, 3) := by decide +kernel
theorem dX2_sitting_117 : decode cX2_sitting 117 = .ok (.invokevirtual 117, 3) := by decide +kernel
theorem dX2_sitting_120 : decode cX2_sitting 120 = .ok (.ireturn, 1) := by decide +kernel
theorem dX3_isOne_0 : decode cX3_isOne 0 = .ok (.iload_n 0, 1) := by decide +kernel
theorem dX3_isOne_1 : decode cX3_isOne 1 = .ok (.istore_n 2, 1) := by decide +kernel
theorem dX3_isOne_2 : decode cX3_isOne 2 = .ok (.iconst 0, 1) := by decide +kernel
theorem dX3_isOne_3 : decode cX3_isOne 3 = .ok (.istore_n 3, 1) := by decide +kernel
theorem dX3_isOne_4 : decode cX3_isOne 4 = .ok (.iload_n 3, 1) := by decide +kernel
theorem dX3_isOne_5 : decode cX3_isOne 5 = .ok (.iconst 5, 1) := by decide +kernel
theorem dX3_isOne_6 : decode cX3_isOne 6 = .ok (.if_icmp .gt 20, 3) := by decide +kernel
theorem dX3_isOne_9 : decode cX3_isOne 9 = .ok (.iload_n 2, 1) := by decide +kernel
theorem dX3_isOne_10 : decode cX3_isOne 10 = .ok (.iload_n 1, 1) := by decide +kernel
theorem dX3_isOne_11 : decode cX3_isOne 11 = .ok (.if_icmp .eq 15, 3) := by decide +kernel
theorem dX3_isOne_14 : decode cX3_isOne 14 = .ok (.getstatic 9, 3) := by decide +kernel
theorem dX3_isOne_17 : decode cX3_isOne 17 = .ok (.iload_n 2, 1) := by decide +kernel
theorem dX3_isOne_18 : decode cX3_isOne 18 = .ok (.iaload, 1) := by decide +kernel
theorem dX3_isOne_19 : decode cX3_isOne 19 = .ok (.istore_n 2, 1) := by decide +kernel
theorem dX3_isOne_20 : decode cX3_isOne 20 = .ok (.iinc 3 1, 3) := by decide +kernel
theorem dX3_isOne_23 : decode cX3_isOne 23 = .ok (.goto (-19), 3) := by decide +kernel
theorem dX3_isOne_26 : decode cX3_isOne 26 = .ok (.iload_n 2, 1) := by decide +kernel
theorem dX3_isOne_27 : decode cX3_isOne 27 = .ok (.iload_n 1, 1) := by decide +kernel
theorem dX3_isOne_28 : decode cX3_isOne 28 = .ok (.if_icmp .ne 7, 3) := by decide +kernel
theorem dX3_isOne_31 : decode cX3_isOne 31 = .ok (.iconst 1, 1) := by decide +kernel
theorem dX3_isOne_32 : decode cX3_isOne 32 = .ok (.goto 4, 3) := by decide +kernel
theorem dX3_isOne_35 : decode cX3_isOne 35 = .ok (.iconst 0, 1) := by decide +kernel
theorem dX3_isOne_36 : decode cX3_isOne 36 = .ok (.ireturn, 1) := by decide +kernel
theorem dX3_ofLetter_0 : decode cX3_ofLetter 0 = .ok (.iconst 1, 1) := by decide +kernel
theorem dX3_ofLetter_1 : decode cX3_ofLetter 1 = .ok (.istore_n 1, 1) := by decide +kernel
theorem dX3_ofLetter_2 : decode cX3_ofLetter 2 = .ok (.iload_n 1, 1) := by decide +kernel
theorem dX3_ofLetter_3 : decode cX3_ofLetter 3 = .ok (.iconst 5, 1) := by decide +kernel
theorem dX3_ofLetter_4 : decode cX3_ofLetter 4 = .ok (.if_icmp .gt 20, 3) := by decide +kernel
theorem dX3_ofLetter_7 : decode cX3_ofLetter 7 = .ok (.getstatic 13, 3) := by decide +kernel
theorem dX3_ofLetter_10 : decode cX3_ofLetter 10 = .ok (.iload_n 1, 1) := by decide +kernel
theorem dX3_ofLetter_11 : decode cX3_ofLetter 11 = .ok (.iaload, 1) := by decide +kernel
theorem dX3_ofLetter_12 : decode cX3_ofLetter 12 = .ok (.iload_n 0, 1) := by decide +kernel
theorem dX3_ofLetter_13 : decode cX3_ofLetter 13 = .ok (.if_icmp .ne 5, 3) := by decide +kernel
theorem dX3_ofLetter_16 : decode cX3_ofLetter 16 = .ok (.iload_n 1, 1) := by decide +kernel
theorem dX3_ofLetter_17 : decode cX3_ofLetter 17 = .ok (.ireturn, 1) := by decide +kernel
theorem dX3_ofLetter_18 : decode cX3_ofLetter 18 = .ok (.iinc 1 1, 3) := by decide +kernel
theorem dX3_ofLetter_21 : decode cX3_ofLetter 21 = .ok (.goto (-19), 3) := by decide +kernel
theorem dX3_ofLetter_24 : decode cX3_ofLetter 24 = .ok (.iconst 0, 1) := by decide +kernel
theorem dX3_ofLetter_25 : decode cX3_ofLetter 25 = .ok (.ireturn, 1) := by decide +kernel
theorem dX4_init_0 : decode cX4_init 0 = .ok (.aload_n 0, 1) := by decide +kernel
theorem dX4_init_1 : decode cX4_init 1 = .ok (.invokespecial 3, 3) := by decide +kernel
theorem dX4_init_4 : decode cX4_init 4 = .ok (.aload_n 0, 1) := by decide +kernel
theorem dX4_init_5 : decode cX4_init 5 = .ok (.bipush 80, 2) := by decide +kernel
theorem dX4_init_7 : decode cX4_init 7 = .ok (.newarray .int, 2) := by decide +kernel
theorem dX4_init_9 : decode cX4_init 9 = .ok (.putfield 9, 3) := by decide +kernel
theorem dX4_init_12 : decode cX4_init 12 = .ok (.aload_n 0, 1) := by decide +kernel
theorem dX4_init_13 : decode cX4_init 13 = .ok (.bipush 6, 2) := by decide +kernel
theorem dX4_init_15 : decode cX4_init 15 = .ok (.newarray .int, 2) := by decide +kernel
theorem dX4_init_17 : decode cX4_init 17 = .ok (.putfield 13, 3) := by decide +kernel
theorem dX4_init_20 : decode cX4_init 20 = .ok (.return_, 1) := by decide +kernel
theorem dX4_wordOf_0 : decode cX4_wordOf 0 = .ok (.iload_n 0, 1) := by decide +kernel
theorem dX4_wordOf_1 : decode cX4_wordOf 1 = .ok (.bipush 100, 2) := by decide +kernel
theorem dX4_wordOf_3 : decode cX4_wordOf 3 = .ok (.idiv, 1) := by decide +kernel
theorem dX4_wordOf_4 : decode cX4_wordOf 4 = .ok (.ireturn, 1) := by decide +kernel
theorem dX4_loudnessOf_0 : decode cX4_loudnessOf 0 = .ok (.iload_n 0, 1) := by decide +kernel
theorem dX4_loudnessOf_1 : decode cX4_loudnessOf 1 = .ok (.bipush 100, 2) := by decide +kernel
theorem dX4_loudnessOf_3 : decode cX4_loudnessOf 3 = .ok (.irem, 1) := by decide +kernel
theorem dX4_loudnessOf_4 : decode cX4_loudnessOf 4 = .ok (.ireturn, 1) := by decide +kernel
theorem dX4_soundOf_0 : decode cX4_soundOf 0 = .ok (.bipush 100, 2) := by decide +kernel
theorem dX4_soundOf_2 : decode cX4_soundOf 2 = .ok (.iload_n 0, 1) := by decide +kernel
theorem dX4_soundOf_3 : decode cX4_soundOf 3 = .ok (.imul, 1) := by decide +kernel
theorem dX4_soundOf_4 : decode cX4_soundOf 4 = .ok (.iload_n 1, 1) := by decide +kernel
theorem dX4_soundOf_5 : decode cX4_soundOf 5 = .ok (.iadd, 1) := by decide +kernel
theorem dX4_soundOf_6 : decode cX4_soundOf 6 = .ok (.ireturn, 1) := by decide +kernel
theorem dX4_take_0 : decode cX4_take 0 = .ok (.aload_n 1, 1) := by decide +kernel
theorem dX4_take_1 : decode cX4_take 1 = .ok (.iconst 0, 1) := by decide +kernel
theorem dX4_take_2 : decode cX4_take 2 = .ok (.aload_n 0, 1) := by decide +kernel
theorem dX4_take_3 : decode cX4_take 3 = .ok (.getfield 9, 3) := by decide +kernel
theorem dX4_take_6 : decode cX4_take 6 = .ok (.iconst 0, 1) := by decide +kernel
theorem dX4_take_7 : decode cX4_take 7 = .ok (.bipush 80, 2) := by decide +kernel
theorem dX4_take_9 : decode cX4_take 9 = .ok (.invokestatic 16, 3) := by decide +kernel
theorem dX4_take_12 : decode cX4_take 12 = .ok (.return_, 1) := by decide +kernel
theorem dX4_clear_0 : decode cX4_clear 0 = .ok (.iconst 0, 1) := by decide +kernel
theorem dX4_clear_1 : decode cX4_clear 1 = .ok (.istore_n 1, 1) := by decide +kernel
theorem dX4_clear_2 : decode cX4_clear 2 = .ok (.iload_n 1, 1) := by decide +kernel
theorem dX4_clear_3 : decode cX4_clear 3 = .ok (.bipush 80, 2) := by decide +kernel
theorem dX4_clear_5 : decode cX4_clear 5 = .ok (.if_icmp .ge 16, 3) := by decide +kernel
theorem dX4_clear_8 : decode cX4_clear 8 = .ok (.aload_n 0, 1) := by decide +kernel
theorem dX4_clear_9 : decode cX4_clear 9 = .ok (.getfield 9, 3) := by decide +kernel
theorem dX4_clear_12 : decode cX4_clear 12 = .ok (.iload_n 1, 1) := by decide +kernel
theorem dX4_clear_13 : decode cX4_clear 13 = .ok (.iconst 0, 1) := by decide +kernel
theorem dX4_clear_14 : decode cX4_clear 14 = .ok (.iastore, 1) := by decide +kernel
theorem dX4_clear_15 : decode cX4_clear 15 = .ok (.iinc 1 1, 3) := by decide +kernel
theorem dX4_clear_18 : decode cX4_clear 18 = .ok (.goto (-16), 3) := by decide +kernel
theorem dX4_clear_21 : decode cX4_clear 21 = .ok (.return_, 1) := by decide +kernel
theorem dX4_stands_0 : decode cX4_stands 0 = .ok (.aload_n 0, 1) := by decide +kernel
theorem dX4_stands_1 : decode cX4_stands 1 = .ok (.getfield 9, 3) := by decide +kernel
theorem dX4_stands_4 : decode cX4_stands 4 = .ok (.iconst 0, 1) := by decide +kernel
theorem dX4_stands_5 : decode cX4_stands 5 = .ok (.iaload, 1) := by decide +kernel
theorem dX4_stands_6 : decode cX4_stands 6 = .ok (.ifCond .le 7, 3) := by decide +kernel
theorem dX4_stands_9 : decode cX4_stands 9 = .ok (.iconst 1, 1) := by decide +kernel
theorem dX4_stands_10 : decode cX4_stands 10 = .ok (.goto 4, 3) := by decide +kernel
theorem dX4_stands_13 : decode cX4_stands 13 = .ok (.iconst 0, 1) := by decide +kernel
theorem dX4_stands_14 : decode cX4_stands 14 = .ok (.ireturn, 1) := by decide +kernel
theorem dX4_isHorn_0 : decode cX4_isHorn 0 = .ok (.iload_n 1, 1) := by decide +kernel
theorem dX4_isHorn_1 : decode cX4_isHorn 1 = .ok (.ifCond .lt 17, 3) := by decide +kernel
theorem dX4_isHorn_4 : decode cX4_isHorn 4 = .ok (.iload_n 1, 1) := by decide +kernel
theorem dX4_isHorn_5 : decode cX4_isHorn 5 = .ok (.aload_n 0, 1) := by decide +kernel
theorem dX4_isHorn_6 : decode cX4_isHorn 6 = .ok (.getfield 9, 3) := by decide +kernel
theorem dX4_isHorn_9 : decode cX4_isHorn 9 = .ok (.iconst 0, 1) := by decide +kernel
theorem dX4_isHorn_10 : decode cX4_isHorn 10 = .ok (.iaload, 1) := by decide +kernel
theorem dX4_isHorn_11 : decode cX4_isHorn 11 = .ok (.if_icmp .ge 7, 3) := by decide +kernel
theorem dX4_isHorn_14 : decode cX4_isHorn 14 = .ok (.iconst 1, 1) := by decide +kernel
theorem dX4_isHorn_15 : decode cX4_isHorn 15 = .ok (.goto 4, 3) := by decide +kernel
theorem dX4_isHorn_18 : decode cX4_isHorn 18 = .ok (.iconst 0, 1) := by decide +kernel
theorem dX4_isHorn_19 : decode cX4_isHorn 19 = .ok (.ireturn, 1) := by decide +kernel
theorem dX4_isPipe_0 : decode cX4_isPipe 0 = .ok (.iload_n 1, 1) := by decide +kernel
theorem dX4_isPipe_1 : decode cX4_isPipe 1 = .ok (.ifCond .lt 17, 3) := by decide +kernel
theorem dX4_isPipe_4 : decode cX4_isPipe 4 = .ok (.iload_n 1, 1) := by decide +kernel
theorem dX4_isPipe_5 : decode cX4_isPipe 5 = .ok (.aload_n 0, 1) := by decide +kernel
theorem dX4_isPipe_6 : decode cX4_isPipe 6 = .ok (.getfield 9, 3) := by decide +kernel
theorem dX4_isPipe_9 : decode cX4_isPipe 9 = .ok (.iconst 2, 1) := by decide +kernel
theorem dX4_isPipe_10 : decode cX4_isPipe 10 = .ok (.iaload, 1) := by decide +kernel
theorem dX4_isPipe_11 : decode cX4_isPipe 11 = .ok (.if_icmp .ge 7, 3) := by decide +kernel
theorem dX4_isPipe_14 : decode cX4_isPipe 14 = .ok (.iconst 1, 1) := by decide +kernel
theorem dX4_isPipe_15 : decode cX4_isPipe 15 = .ok (.goto 4, 3) := by decide +kernel
theorem dX4_isPipe_18 : decode cX4_isPipe 18 = .ok (.iconst 0, 1) := by decide +kernel
theorem dX4_isPipe_19 : decode cX4_isPipe 19 = .ok (.ireturn, 1) := by decide +kernel
theorem dX4_isOpen_0 : decode cX4_isOpen 0 = .ok (.aload_n 0, 1) := by decide +kernel
theorem dX4_isOpen_1 : decode cX4_isOpen 1 = .ok (.getfield 9, 3) := by decide +kernel
theorem dX4_isOpen_4 : decode cX4_isOpen 4 = .ok (.iconst 3, 1) := by decide +kernel
theorem dX4_isOpen_5 : decode cX4_isOpen 5 = .ok (.iaload, 1) := by decide +kernel
theorem dX4_isOpen_6 : decode cX4_isOpen 6 = .ok (.iload_n 1, 1) := by decide +kernel
theorem dX4_isOpen_7 : decode cX4_isOpen 7 = .ok (.ishr, 1) := by decide +kernel
theorem dX4_isOpen_8 : decode cX4_isOpen 8 = .ok (.iconst 1, 1) := by decide +kernel
theorem dX4_isOpen_9 : decode cX4_isOpen 9 = .ok (.iand, 1) := by decide +kernel
theorem dX4_isOpen_10 : decode cX4_isOpen 10 = .ok (.iconst 1, 1) := by decide +kernel
theorem dX4_isOpen_11 : decode cX4_isOpen 11 = .ok (.if_icmp .ne 7, 3) := by decide +kernel
theorem dX4_isOpen_14 : decode cX4_isOpen 14 = .ok (.iconst 1, 1) := by decide +kernel
theorem dX4_isOpen_15 : decode cX4_isOpen 15 = .ok (.goto 4, 3) := by decide +kernel
theorem dX4_isOpen_18 : decode cX4_isOpen 18 = .ok (.iconst 0, 1) := by decide +kernel
theorem dX4_isOpen_19 : decode cX4_isOpen 19 = .ok (.ireturn, 1) := by decide +kernel
theorem dX4_allHorns_0 : decode cX4_allHorns 0 = .ok (.iconst 1, 1) := by decide +kernel
theorem dX4_allHorns_1 : decode cX4_allHorns 1 = .ok (.aload_n 0, 1) := by decide +kernel
theorem dX4_allHorns_2 : decode cX4_allHorns 2 = .ok (.getfield 9, 3) := by decide +kernel
theorem dX4_allHorns_5 : decode cX4_allHorns 5 = .ok (.iconst 0, 1) := by decide +kernel
theorem dX4_allHorns_6 : decode cX4_allHorns 6 = .ok (.iaload, 1) := by decide +kernel
theorem dX4_allHorns_7 : decode cX4_allHorns 7 = .ok (.ishl, 1) := by decide +kernel
theorem dX4_allHorns_8 : decode cX4_allHorns 8 = .ok (.iconst 1, 1) := by decide +kernel
theorem dX4_allHorns_9 : decode cX4_allHorns 9 = .ok (.isub, 1) := by decide +kernel
theorem dX4_allHorns_10 : decode cX4_allHorns 10 = .ok (.ireturn, 1) := by decide +kernel
theorem dX4_allPipes_0 : decode cX4_allPipes 0 = .ok (.iconst 1, 1) := by decide +kernel
theorem dX4_allPipes_1 : decode cX4_allPipes 1 = .ok (.aload_n 0, 1) := by decide +kernel
theorem dX4_allPipes_2 : decode cX4_allPipes 2 = .ok (.getfield 9, 3) := by decide +kernel
theorem dX4_allPipes_5 : decode cX4_allPipes 5 = .ok (.iconst 2, 1) := by decide +kernel
theorem dX4_allPipes_6 : decode cX4_allPipes 6 = .ok (.iaload, 1) := by decide +kernel
theorem dX4_allPipes_7 : decode cX4_allPipes 7 = .ok (.ishl, 1) := by decide +kernel
theorem dX4_allPipes_8 : decode cX4_allPipes 8 = .ok (.iconst 1, 1) := by decide +kernel
theorem dX4_allPipes_9 : decode cX4_allPipes 9 = .ok (.isub, 1) := by decide +kernel
theorem dX4_allPipes_10 : decode cX4_allPipes 10 = .ok (.ireturn, 1) := by decide +kernel
theorem dX4_pipesWith_0 : decode cX4_pipesWith 0 = .ok (.iconst 0, 1) := by decide +kernel
theorem dX4_pipesWith_1 : decode cX4_pipesWith 1 = .ok (.istore_n 3, 1) := by decide +kernel
theorem dX4_pipesWith_2 : decode cX4_pipesWith 2 = .ok (.iconst 0, 1) := by decide +kernel
theorem dX4_pipesWith_3 : decode cX4_pipesWith 3 = .ok (.istore 4, 2) := by decide +kernel
theorem dX4_pipesWith_5 : decode cX4_pipesWith 5 = .ok (.iload 4, 2) := by decide +kernel
theorem dX4_pipesWith_7 : decode cX4_pipesWith 7 = .ok (.aload_n 0, 1) := by decide +kernel
theorem dX4_pipesWith_8 : decode cX4_pipesWith 8 = .ok (.getfield 9, 3) := by decide +kernel
theorem dX4_pipesWith_11 : decode cX4_pipesWith 11 = .ok (.iconst 2, 1) := by decide +kernel
theorem dX4_pipesWith_12 : decode cX4_pipesWith 12 = .ok (.iaload, 1) := by decide +kernel
theorem dX4_pipesWith_13 : decode cX4_pipesWith 13 = .ok (.if_icmp .ge 29, 3) := by decide +kernel
theorem dX4_pipesWith_16 : decode cX4_pipesWith 16 = .ok (.aload_n 0, 1) := by decide +kernel
theorem dX4_pipesWith_17 : decode cX4_pipesWith 17 = .ok (.getfield 9, 3) := by decide +kernel
theorem dX4_pipesWith_20 : decode cX4_pipesWith 20 = .ok (.iload_n 1, 1) := by decide +kernel
theorem dX4_pipesWith_21 : decode cX4_pipesWith 21 = .ok (.iload 4, 2) := by decide +kernel
theorem dX4_pipesWith_23 : decode cX4_pipesWith 23 = .ok (.iadd, 1) := by decide +kernel
theorem dX4_pipesWith_24 : decode cX4_pipesWith 24 = .ok (.iaload, 1) := by decide +kernel
theorem dX4_pipesWith_25 : decode cX4_pipesWith 25 = .ok (.iload_n 2, 1) := by decide +kernel
theorem dX4_pipesWith_26 : decode cX4_pipesWith 26 = .ok (.if_icmp .ne 10, 3) := by decide +kernel
theorem dX4_pipesWith_29 : decode cX4_pipesWith 29 = .ok (.iload_n 3, 1) := by decide +kernel
theorem dX4_pipesWith_30 : decode cX4_pipesWith 30 = .ok (.iconst 1, 1) := by decide +kernel
theorem dX4_pipesWith_31 : decode cX4_pipesWith 31 = .ok (.iload 4, 2) := by decide +kernel
theorem dX4_pipesWith_33 : decode cX4_pipesWith 33 = .ok (.ishl, 1) := by decide +kernel
theorem dX4_pipesWith_34 : decode cX4_pipesWith 34 = .ok (.ior, 1) := by decide +kernel
theorem dX4_pipesWith_35 : decode cX4_pipesWith 35 = .ok (.istore_n 3, 1) := by decide +kernel
theorem dX4_pipesWith_36 : decode cX4_pipesWith 36 = .ok (.iinc 4 1, 3) := by decide +kernel
theorem dX4_pipesWith_39 : decode cX4_pipesWith 39 = .ok (.goto (-34), 3) := by decide +kernel
theorem dX4_pipesWith_42 : decode cX4_pipesWith 42 = .ok (.iload_n 3, 1) := by decide +kernel
theorem dX4_pipesWith_43 : decode cX4_pipesWith 43 = .ok (.ireturn, 1) := by decide +kernel
theorem dX4_soundsIn_0 : decode cX4_soundsIn 0 = .ok (.iconst 0, 1) := by decide +kernel
theorem dX4_soundsIn_1 : decode cX4_soundsIn 1 = .ok (.istore_n 2, 1) := by decide +kernel
theorem dX4_soundsIn_2 : decode cX4_soundsIn 2 = .ok (.bipush 40, 2) := by decide +kernel
theorem dX4_soundsIn_4 : decode cX4_soundsIn 4 = .ok (.iload_n 1, 1) := by decide +kernel
theorem dX4_soundsIn_5 : decode cX4_soundsIn 5 = .ok (.iconst 4, 1) := by decide +kernel
theorem dX4_soundsIn_6 : decode cX4_soundsIn 6 = .ok (.imul, 1) := by decide +kernel
theorem dX4_soundsIn_7 : decode cX4_soundsIn 7 = .ok (.iadd, 1) := by decide +kernel
theorem dX4_soundsIn_8 : decode cX4_soundsIn 8 = .ok (.istore_n 3, 1) := by decide +kernel
theorem dX4_soundsIn_9 : decode cX4_soundsIn 9 = .ok (.iload_n 3, 1) := by decide +kernel
theorem dX4_soundsIn_10 : decode cX4_soundsIn 10 = .ok (.bipush 40, 2) := by decide +kernel
theorem dX4_soundsIn_12 : decode cX4_soundsIn 12 = .ok (.iload_n 1, 1) := by decide +kernel
theorem dX4_soundsIn_13 : decode cX4_soundsIn 13 = .ok (.iconst 1, 1) := by decide +kernel
theorem dX4_soundsIn_14 : decode cX4_soundsIn 14 = .ok (.iadd, 1) := by decide +kernel
theorem dX4_soundsIn_15 : decode cX4_soundsIn 15 = .ok (.iconst 4, 1) := by decide +kernel
theorem dX4_soundsIn_16 : decode cX4_soundsIn 16 = .ok (.imul, 1) := by decide +kernel
theorem dX4_soundsIn_17 : decode cX4_soundsIn 17 = .ok (.iadd, 1) := by decide +kernel
theorem dX4_soundsIn_18 : decode cX4_soundsIn 18 = .ok (.if_icmp .ge 26, 3) := by decide +kernel
theorem dX4_soundsIn_21 : decode cX4_soundsIn 21 = .ok (.iload_n 2, 1) := by decide +kernel
theorem dX4_soundsIn_22 : decode cX4_soundsIn 22 = .ok (.aload_n 0, 1) := by decide +kernel
theorem dX4_soundsIn_23 : decode cX4_soundsIn 23 = .ok (.getfield 9, 3) := by decide +kernel
theorem dX4_soundsIn_26 : decode cX4_soundsIn 26 = .ok (.iload_n 3, 1) := by decide +kernel
theorem dX4_soundsIn_27 : decode cX4_soundsIn 27 = .ok (.iaload, 1) := by decide +kernel
theorem dX4_soundsIn_28 : decode cX4_soundsIn 28 = .ok (.ifCond .ne 7, 3) := by decide +kernel
theorem dX4_soundsIn_31 : decode cX4_soundsIn 31 = .ok (.iconst 0, 1) := by decide +kernel
theorem dX4_soundsIn_32 : decode cX4_soundsIn 32 = .ok (.goto 4, 3) := by decide +kernel
theorem dX4_soundsIn_35 : decode cX4_soundsIn 35 = .ok (.iconst 1, 1) := by decide +kernel
theorem dX4_soundsIn_36 : decode cX4_soundsIn 36 = .ok (.iadd, 1) := by decide +kernel
theorem dX4_soundsIn_37 : decode cX4_soundsIn 37 = .ok (.istore_n 2, 1) := by decide +kernel
theorem dX4_soundsIn_38 : decode cX4_soundsIn 38 = .ok (.iinc 3 1, 3) := by decide +kernel
theorem dX4_soundsIn_41 : decode cX4_soundsIn 41 = .ok (.goto (-32), 3) := by decide +kernel
theorem dX4_soundsIn_44 : decode cX4_soundsIn 44 = .ok (.iload_n 2, 1) := by decide +kernel
theorem dX4_soundsIn_45 : decode cX4_soundsIn 45 = .ok (.ireturn, 1) := by decide +kernel
theorem dX4_soundsInAll_0 : decode cX4_soundsInAll 0 = .ok (.iconst 0, 1) := by decide +kernel
theorem dX4_soundsInAll_1 : decode cX4_soundsInAll 1 = .ok (.istore_n 1, 1) := by decide +kernel
theorem dX4_soundsInAll_2 : decode cX4_soundsInAll 2 = .ok (.iconst 0, 1) := by decide +kernel
theorem dX4_soundsInAll_3 : decode cX4_soundsInAll 3 = .ok (.istore_n 2, 1) := by decide +kernel
theorem dX4_soundsInAll_4 : decode cX4_soundsInAll 4 = .ok (.iload_n 2, 1) := by decide +kernel
theorem dX4_soundsInAll_5 : decode cX4_soundsInAll 5 = .ok (.aload_n 0, 1) := by decide +kernel
theorem dX4_soundsInAll_6 : decode cX4_soundsInAll 6 = .ok (.getfield 9, 3) := by decide +kernel
theorem dX4_soundsInAll_9 : decode cX4_soundsInAll 9 = .ok (.iconst 2, 1) := by decide +kernel
theorem dX4_soundsInAll_10 : decode cX4_soundsInAll 10 = .ok (.iaload, 1) := by decide +kernel
theorem dX4_soundsInAll_11 : decode cX4_soundsInAll 11 = .ok (.if_icmp .ge 17, 3) := by decide +kernel
theorem dX4_soundsInAll_14 : decode cX4_soundsInAll 14 = .ok (.iload_n 1, 1) := by decide +kernel
theorem dX4_soundsInAll_15 : decode cX4_soundsInAll 15 = .ok (.aload_n 0, 1) := by decide +kernel
theorem dX4_soundsInAll_16 : decode cX4_soundsInAll 16 = .ok (.iload_n 2, 1) := by decide +kernel
theorem dX4_soundsInAll_17 : decode cX4_soundsInAll 17 = .ok (.invokevirtual 22, 3) := by decide +kernel
theorem dX4_soundsInAll_20 : decode cX4_soundsInAll 20 = .ok (.iadd, 1) := by decide +kernel
theorem dX4_soundsInAll_21 : decode cX4_soundsInAll 21 = .ok (.istore_n 1, 1) := by decide +kernel
theorem dX4_soundsInAll_22 : decode cX4_soundsInAll 22 = .ok (.iinc 2 1, 3) := by decide +kernel
theorem dX4_soundsInAll_25 : decode cX4_soundsInAll 25 = .ok (.goto (-21), 3) := by decide +kernel
theorem dX4_soundsInAll_28 : decode cX4_soundsInAll 28 = .ok (.iload_n 1, 1) := by decide +kernel
theorem dX4_soundsInAll_29 : decode cX4_soundsInAll 29 = .ok (.ireturn, 1) := by decide +kernel
theorem dX4_isSilent_0 : decode cX4_isSilent 0 = .ok (.bipush 40, 2) := by decide +kernel
theorem dX4_isSilent_2 : decode cX4_isSilent 2 = .ok (.istore_n 1, 1) := by decide +kernel
theorem dX4_isSilent_3 : decode cX4_isSilent 3 = .ok (.iload_n 1, 1) := by decide +kernel
theorem dX4_isSilent_4 : decode cX4_isSilent 4 = .ok (.bipush 68, 2) := by decide +kernel
theorem dX4_isSilent_6 : decode cX4_isSilent 6 = .ok (.if_icmp .ge 20, 3) := by decide +kernel
theorem dX4_isSilent_9 : decode cX4_isSilent 9 = .ok (.aload_n 0, 1) := by decide +kernel
theorem dX4_isSilent_10 : decode cX4_isSilent 10 = .ok (.getfield 9, 3) := by decide +kernel
theorem dX4_isSilent_13 : decode cX4_isSilent 13 = .ok (.iload_n 1, 1) := by decide +kernel
theorem dX4_isSilent_14 : decode cX4_isSilent 14 = .ok (.iaload, 1) := by decide +kernel
theorem dX4_isSilent_15 : decode cX4_isSilent 15 = .ok (.ifCond .eq 5, 3) := by decide +kernel
theorem dX4_isSilent_18 : decode cX4_isSilent 18 = .ok (.iconst 0, 1) := by decide +kernel
theorem dX4_isSilent_19 : decode cX4_isSilent 19 = .ok (.ireturn, 1) := by decide +kernel
theorem dX4_isSilent_20 : decode cX4_isSilent 20 = .ok (.iinc 1 1, 3) := by decide +kernel
theorem dX4_isSilent_23 : decode cX4_isSilent 23 = .ok (.goto (-20), 3) := by decide +kernel
theorem dX4_isSilent_26 : decode cX4_isSilent 26 = .ok (.iconst 1, 1) := by decide +kernel
theorem dX4_isSilent_27 : decode cX4_isSilent 27 = .ok (.ireturn, 1) := by decide +kernel
theorem dX4_silence_0 : decode cX4_silence 0 = .ok (.bipush 40, 2) := by decide +kernel
theorem dX4_silence_2 : decode cX4_silence 2 = .ok (.istore_n 1, 1) := by decide +kernel
theorem dX4_silence_3 : decode cX4_silence 3 = .ok (.iload_n 1, 1) := by decide +kernel
theorem dX4_silence_4 : decode cX4_silence 4 = .ok (.bipush 68, 2) := by decide +kernel
theorem dX4_silence_6 : decode cX4_silence 6 = .ok (.if_icmp .ge 16, 3) := by decide +kernel
theorem dX4_silence_9 : decode cX4_silence 9 = .ok (.aload_n 0, 1) := by decide +kernel
theorem dX4_silence_10 : decode cX4_silence 10 = .ok (.getfield 9, 3) := by decide +kernel
theorem dX4_silence_13 : decode cX4_silence 13 = .ok (.iload_n 1, 1) := by decide +kernel
theorem dX4_silence_14 : decode cX4_silence 14 = .ok (.iconst 0, 1) := by decide +kernel
theorem dX4_silence_15 : decode cX4_silence 15 = .ok (.iastore, 1) := by decide +kernel
theorem dX4_silence_16 : decode cX4_silence 16 = .ok (.iinc 1 1, 3) := by decide +kernel
theorem dX4_silence_19 : decode cX4_silence 19 = .ok (.goto (-16), 3) := by decide +kernel
theorem dX4_silence_22 : decode cX4_silence 22 = .ok (.return_, 1) := by decide +kernel
theorem dX4_letIn_0 : decode cX4_letIn 0 = .ok (.iconst 0, 1) := by decide +kernel
theorem dX4_letIn_1 : decode cX4_letIn 1 = .ok (.istore 4, 2) := by decide +kernel
theorem dX4_letIn_3 : decode cX4_letIn 3 = .ok (.iconst 0, 1) := by decide +kernel
theorem dX4_letIn_4 : decode cX4_letIn 4 = .ok (.istore 5, 2) := by decide +kernel
theorem dX4_letIn_6 : decode cX4_letIn 6 = .ok (.iload 5, 2) := by decide +kernel
theorem dX4_letIn_8 : decode cX4_letIn 8 = .ok (.aload_n 0, 1) := by decide +kernel
theorem dX4_letIn_9 : decode cX4_letIn 9 = .ok (.getfield 9, 3) := by decide +kernel
theorem dX4_letIn_12 : decode cX4_letIn 12 = .ok (.iconst 2, 1) := by decide +kernel
theorem dX4_letIn_13 : decode cX4_letIn 13 = .ok (.iaload, 1) := by decide +kernel
theorem dX4_letIn_14 : decode cX4_letIn 14 = .ok (.if_icmp .ge 70, 3) := by decide +kernel
theorem dX4_letIn_17 : decode cX4_letIn 17 = .ok (.bipush 40, 2) := by decide +kernel
theorem dX4_letIn_19 : decode cX4_letIn 19 = .ok (.iload 5, 2) := by decide +kernel
theorem dX4_letIn_21 : decode cX4_letIn 21 = .ok (.iconst 4, 1) := by decide +kernel
theorem dX4_letIn_22 : decode cX4_letIn 22 = .ok (.imul, 1) := by decide +kernel
theorem dX4_letIn_23 : decode cX4_letIn 23 = .ok (.iadd, 1) := by decide +kernel
theorem dX4_letIn_24 : decode cX4_letIn 24 = .ok (.istore 6, 2) := by decide +kernel
theorem dX4_letIn_26 : decode cX4_letIn 26 = .ok (.aload_n 0, 1) := by decide +kernel
theorem dX4_letIn_27 : decode cX4_letIn 27 = .ok (.getfield 9, 3) := by decide +kernel
theorem dX4_letIn_30 : decode cX4_letIn 30 = .ok (.bipush 12, 2) := by decide +kernel
theorem dX4_letIn_32 : decode cX4_letIn 32 = .ok (.iload 5, 2) := by decide +kernel
theorem dX4_letIn_34 : decode cX4_letIn 34 = .ok (.iadd, 1) := by decide +kernel
theorem dX4_letIn_35 : decode cX4_letIn 35 = .ok (.iaload, 1) := by decide +kernel
theorem dX4_letIn_36 : decode cX4_letIn 36 = .ok (.iload_n 1, 1) := by decide +kernel
theorem dX4_letIn_37 : decode cX4_letIn 37 = .ok (.if_icmp .ne 41, 3) := by decide +kernel
theorem dX4_letIn_40 : decode cX4_letIn 40 = .ok (.aload_n 0, 1) := by decide +kernel
theorem dX4_letIn_41 : decode cX4_letIn 41 = .ok (.iload 5, 2) := by decide +kernel
theorem dX4_letIn_43 : decode cX4_letIn 43 = .ok (.invokevirtual 26, 3) := by decide +kernel
theorem dX4_letIn_46 : decode cX4_letIn 46 = .ok (.ifCond .eq 32, 3) := by decide +kernel
theorem dX4_letIn_49 : decode cX4_letIn 49 = .ok (.aload_n 0, 1) := by decide +kernel
theorem dX4_letIn_50 : decode cX4_letIn 50 = .ok (.getfield 9, 3) := by decide +kernel
theorem dX4_letIn_53 : decode cX4_letIn 53 = .ok (.iload 6, 2) := by decide +kernel
theorem dX4_letIn_55 : decode cX4_letIn 55 = .ok (.iaload, 1) := by decide +kernel
theorem dX4_letIn_56 : decode cX4_letIn 56 = .ok (.invokestatic 30, 3) := by decide +kernel
theorem dX4_letIn_59 : decode cX4_letIn 59 = .ok (.iload_n 3, 1) := by decide +kernel
theorem dX4_letIn_60 : decode cX4_letIn 60 = .ok (.if_icmp .ge 18, 3) := by decide +kernel
theorem dX4_letIn_63 : decode cX4_letIn 63 = .ok (.aload_n 0, 1) := by decide +kernel
theorem dX4_letIn_64 : decode cX4_letIn 64 = .ok (.getfield 9, 3) := by decide +kernel
theorem dX4_letIn_67 : decode cX4_letIn 67 = .ok (.iload 6, 2) := by decide +kernel
theorem dX4_letIn_69 : decode cX4_letIn 69 = .ok (.iload_n 2, 1) := by decide +kernel
theorem dX4_letIn_70 : decode cX4_letIn 70 = .ok (.iload_n 3, 1) := by decide +kernel
theorem dX4_letIn_71 : decode cX4_letIn 71 = .ok (.invokestatic 33, 3) := by decide +kernel
theorem dX4_letIn_74 : decode cX4_letIn 74 = .ok (.iastore, 1) := by decide +kernel
theorem dX4_letIn_75 : decode cX4_letIn 75 = .ok (.iinc 4 1, 3) := by decide +kernel
theorem dX4_letIn_78 : decode cX4_letIn 78 = .ok (.iinc 5 1, 3) := by decide +kernel
theorem dX4_letIn_81 : decode cX4_letIn 81 = .ok (.goto (-75), 3) := by decide +kernel
theorem dX4_letIn_84 : decode cX4_letIn 84 = .ok (.iload 4, 2) := by decide +kernel
theorem dX4_letIn_86 : decode cX4_letIn 86 = .ok (.ireturn, 1) := by decide +kernel
theorem dX4_passBreath_0 : decode cX4_passBreath 0 = .ok (.iconst 0, 1) := by decide +kernel
theorem dX4_passBreath_1 : decode cX4_passBreath 1 = .ok (.istore_n 1, 1) := by decide +kernel
theorem dX4_passBreath_2 : decode cX4_passBreath 2 = .ok (.iload_n 1, 1) := by decide +kernel
theorem dX4_passBreath_3 : decode cX4_passBreath 3 = .ok (.bipush 6, 2) := by decide +kernel
theorem dX4_passBreath_5 : decode cX4_passBreath 5 = .ok (.if_icmp .ge 16, 3) := by decide +kernel
theorem dX4_passBreath_8 : decode cX4_passBreath 8 = .ok (.aload_n 0, 1) := by decide +kernel
theorem dX4_passBreath_9 : decode cX4_passBreath 9 = .ok (.getfield 13, 3) := by decide +kernel
theorem dX4_passBreath_12 : decode cX4_passBreath 12 = .ok (.iload_n 1, 1) := by decide +kernel
theorem dX4_passBreath_13 : decode cX4_passBreath 13 = .ok (.iconst 0, 1) := by decide +kernel
theorem dX4_passBreath_14 : decode cX4_passBreath 14 = .ok (.iastore, 1) := by decide +kernel
theorem dX4_passBreath_15 : decode cX4_passBreath 15 = .ok (.iinc 1 1, 3) := by decide +kernel
theorem dX4_passBreath_18 : decode cX4_passBreath 18 = .ok (.goto (-16), 3) := by decide +kernel
theorem dX4_passBreath_21 : decode cX4_passBreath 21 = .ok (.iconst 0, 1) := by decide +kernel
theorem dX4_passBreath_22 : decode cX4_passBreath 22 = .ok (.istore_n 1, 1) := by decide +kernel
theorem dX4_passBreath_23 : decode cX4_passBreath 23 = .ok (.iload_n 1, 1) := by decide +kernel
theorem dX4_passBreath_24 : decode cX4_passBreath 24 = .ok (.aload_n 0, 1) := by decide +kernel
theorem dX4_passBreath_25 : decode cX4_passBreath 25 = .ok (.getfield 9, 3) := by decide +kernel
theorem dX4_passBreath_28 : decode cX4_passBreath 28 = .ok (.iconst 2, 1) := by decide +kernel
theorem dX4_passBreath_29 : decode cX4_passBreath 29 = .ok (.iaload, 1) := by decide +kernel
theorem dX4_passBreath_30 : decode cX4_passBreath 30 = .ok (.if_icmp .ge 53, 3) := by decide +kernel
theorem dX4_passBreath_33 : decode cX4_passBreath 33 = .ok (.aload_n 0, 1) := by decide +kernel
theorem dX4_passBreath_34 : decode cX4_passBreath 34 = .ok (.iload_n 1, 1) := by decide +kernel
theorem dX4_passBreath_35 : decode cX4_passBreath 35 = .ok (.aload_n 0, 1) := by decide +kernel
theorem dX4_passBreath_36 : decode cX4_passBreath 36 = .ok (.iload_n 1, 1) := by decide +kernel
theorem dX4_passBreath_37 : decode cX4_passBreath 37 = .ok (.invokevirtual 37, 3) := by decide +kernel
theorem dX4_passBreath_40 : decode cX4_passBreath 40 = .ok (.invokevirtual 40, 3) := by decide +kernel
theorem dX4_passBreath_43 : decode cX4_passBreath 43 = .ok (.istore_n 2, 1) := by decide +kernel
theorem dX4_passBreath_44 : decode cX4_passBreath 44 = .ok (.aload_n 0, 1) := by decide +kernel
theorem dX4_passBreath_45 : decode cX4_passBreath 45 = .ok (.getfield 9, 3) := by decide +kernel
theorem dX4_passBreath_48 : decode cX4_passBreath 48 = .ok (.bipush 19, 2) := by decide +kernel
theorem dX4_passBreath_50 : decode cX4_passBreath 50 = .ok (.iload_n 1, 1) := by decide +kernel
theorem dX4_passBreath_51 : decode cX4_passBreath 51 = .ok (.iadd, 1) := by decide +kernel
theorem dX4_passBreath_52 : decode cX4_passBreath 52 = .ok (.iaload, 1) := by decide +kernel
theorem dX4_passBreath_53 : decode cX4_passBreath 53 = .ok (.istore_n 3, 1) := by decide +kernel
theorem dX4_passBreath_54 : decode cX4_passBreath 54 = .ok (.iload_n 2, 1) := by decide +kernel
theorem dX4_passBreath_55 : decode cX4_passBreath 55 = .ok (.invokestatic 30, 3) := by decide +kernel
theorem dX4_passBreath_58 : decode cX4_passBreath 58 = .ok (.aload_n 0, 1) := by decide +kernel
theorem dX4_passBreath_59 : decode cX4_passBreath 59 = .ok (.getfield 13, 3) := by decide +kernel
theorem dX4_passBreath_62 : decode cX4_passBreath 62 = .ok (.iload_n 3, 1) := by decide +kernel
theorem dX4_passBreath_63 : decode cX4_passBreath 63 = .ok (.iaload, 1) := by decide +kernel
theorem dX4_passBreath_64 : decode cX4_passBreath 64 = .ok (.invokestatic 30, 3) := by decide +kernel
theorem dX4_passBreath_67 : decode cX4_passBreath 67 = .ok (.if_icmp .le 10, 3) := by decide +kernel
theorem dX4_passBreath_70 : decode cX4_passBreath 70 = .ok (.aload_n 0, 1) := by decide +kernel
theorem dX4_passBreath_71 : decode cX4_passBreath 71 = .ok (.getfield 13, 3) := by decide +kernel
theorem dX4_passBreath_74 : decode cX4_passBreath 74 = .ok (.iload_n 3, 1) := by decide +kernel
theorem dX4_passBreath_75 : decode cX4_passBreath 75 = .ok (.iload_n 2, 1) := by decide +kernel
theorem dX4_passBreath_76 : decode cX4_passBreath 76 = .ok (.iastore, 1) := by decide +kernel
theorem dX4_passBreath_77 : decode cX4_passBreath 77 = .ok (.iinc 1 1, 3) := by decide +kernel
theorem dX4_passBreath_80 : decode cX4_passBreath 80 = .ok (.goto (-57), 3) := by decide +kernel
theorem dX4_passBreath_83 : decode cX4_passBreath 83 = .ok (.iconst 0, 1) := by decide +kernel
theorem dX4_passBreath_84 : decode cX4_passBreath 84 = .ok (.istore_n 1, 1) := by decide +kernel
theorem dX4_passBreath_85 : decode cX4_passBreath 85 = .ok (.iload_n 1, 1) := by decide +kernel
theorem dX4_passBreath_86 : decode cX4_passBreath 86 = .ok (.aload_n 0, 1) := by decide +kernel
theorem dX4_passBreath_87 : decode cX4_passBreath 87 = .ok (.getfield 9, 3) := by decide +kernel
theorem dX4_passBreath_90 : decode cX4_passBreath 90 = .ok (.iconst 2, 1) := by decide +kernel
theorem dX4_passBreath_91 : decode cX4_passBreath 91 = .ok (.iaload, 1) := by decide +kernel
theorem dX4_passBreath_92 : decode cX4_passBreath 92 = .ok (.if_icmp .ge 42, 3) := by decide +kernel
theorem dX4_passBreath_95 : decode cX4_passBreath 95 = .ok (.aload_n 0, 1) := by decide +kernel
theorem dX4_passBreath_96 : decode cX4_passBreath 96 = .ok (.iload_n 1, 1) := by decide +kernel
theorem dX4_passBreath_97 : decode cX4_passBreath 97 = .ok (.invokevirtual 26, 3) := by decide +kernel
theorem dX4_passBreath_100 : decode cX4_passBreath 100 = .ok (.ifCond .eq 28, 3) := by decide +kernel
theorem dX4_passBreath_103 : decode cX4_passBreath 103 = .ok (.aload_n 0, 1) := by decide +kernel
theorem dX4_passBreath_104 : decode cX4_passBreath 104 = .ok (.getfield 9, 3) := by decide +kernel
theorem dX4_passBreath_107 : decode cX4_passBreath 107 = .ok (.bipush 40, 2) := by decide +kernel
theorem dX4_passBreath_109 : decode cX4_passBreath 109 = .ok (.iload_n 1, 1) := by decide +kernel
theorem dX4_passBreath_110 : decode cX4_passBreath 110 = .ok (.iconst 4, 1) := by decide +kernel
theorem dX4_passBreath_111 : decode cX4_passBreath 111 = .ok (.imul, 1) := by decide +kernel
theorem dX4_passBreath_112 : decode cX4_passBreath 112 = .ok (.iadd, 1) := by decide +kernel
theorem dX4_passBreath_113 : decode cX4_passBreath 113 = .ok (.aload_n 0, 1) := by decide +kernel
theorem dX4_passBreath_114 : decode cX4_passBreath 114 = .ok (.getfield 13, 3) := by decide +kernel
theorem dX4_passBreath_117 : decode cX4_passBreath 117 = .ok (.aload_n 0, 1) := by decide +kernel
theorem dX4_passBreath_118 : decode cX4_passBreath 118 = .ok (.getfield 9, 3) := by decide +kernel
theorem dX4_passBreath_121 : decode cX4_passBreath 121 = .ok (.bipush 12, 2) := by decide +kernel
theorem dX4_passBreath_123 : decode cX4_passBreath 123 = .ok (.iload_n 1, 1) := by decide +kernel
theorem dX4_passBreath_124 : decode cX4_passBreath 124 = .ok (.iadd, 1) := by decide +kernel
theorem dX4_passBreath_125 : decode cX4_passBreath 125 = .ok (.iaload, 1) := by decide +kernel
theorem dX4_passBreath_126 : decode cX4_passBreath 126 = .ok (.iaload, 1) := by decide +kernel
theorem dX4_passBreath_127 : decode cX4_passBreath 127 = .ok (.iastore, 1) := by decide +kernel
theorem dX4_passBreath_128 : decode cX4_passBreath 128 = .ok (.iinc 1 1, 3) := by decide +kernel
theorem dX4_passBreath_131 : decode cX4_passBreath 131 = .ok (.goto (-46), 3) := by decide +kernel
theorem dX4_passBreath_134 : decode cX4_passBreath 134 = .ok (.aload_n 0, 1) := by decide +kernel
theorem dX4_passBreath_135 : decode cX4_passBreath 135 = .ok (.invokevirtual 43, 3) := by decide +kernel
theorem dX4_passBreath_138 : decode cX4_passBreath 138 = .ok (.ireturn, 1) := by decide +kernel
theorem dX4_hearOut_0 : decode cX4_hearOut 0 = .ok (.iconst 0, 1) := by decide +kernel
theorem dX4_hearOut_1 : decode cX4_hearOut 1 = .ok (.istore_n 1, 1) := by decide +kernel
theorem dX4_hearOut_2 : decode cX4_hearOut 2 = .ok (.iconst 0, 1) := by decide +kernel
theorem dX4_hearOut_3 : decode cX4_hearOut 3 = .ok (.istore_n 2, 1) := by decide +kernel
theorem dX4_hearOut_4 : decode cX4_hearOut 4 = .ok (.iload_n 2, 1) := by decide +kernel
theorem dX4_hearOut_5 : decode cX4_hearOut 5 = .ok (.aload_n 0, 1) := by decide +kernel
theorem dX4_hearOut_6 : decode cX4_hearOut 6 = .ok (.getfield 9, 3) := by decide +kernel
theorem dX4_hearOut_9 : decode cX4_hearOut 9 = .ok (.iconst 0, 1) := by decide +kernel
theorem dX4_hearOut_10 : decode cX4_hearOut 10 = .ok (.iaload, 1) := by decide +kernel
theorem dX4_hearOut_11 : decode cX4_hearOut 11 = .ok (.if_icmp .ge 54, 3) := by decide +kernel
theorem dX4_hearOut_14 : decode cX4_hearOut 14 = .ok (.aload_n 0, 1) := by decide +kernel
theorem dX4_hearOut_15 : decode cX4_hearOut 15 = .ok (.getfield 13, 3) := by decide +kernel
theorem dX4_hearOut_18 : decode cX4_hearOut 18 = .ok (.iload_n 2, 1) := by decide +kernel
theorem dX4_hearOut_19 : decode cX4_hearOut 19 = .ok (.iaload, 1) := by decide +kernel
theorem dX4_hearOut_20 : decode cX4_hearOut 20 = .ok (.ifCond .eq 39, 3) := by decide +kernel
theorem dX4_hearOut_23 : decode cX4_hearOut 23 = .ok (.aload_n 0, 1) := by decide +kernel
theorem dX4_hearOut_24 : decode cX4_hearOut 24 = .ok (.getfield 9, 3) := by decide +kernel
theorem dX4_hearOut_27 : decode cX4_hearOut 27 = .ok (.bipush 68, 2) := by decide +kernel
theorem dX4_hearOut_29 : decode cX4_hearOut 29 = .ok (.iload_n 2, 1) := by decide +kernel
theorem dX4_hearOut_30 : decode cX4_hearOut 30 = .ok (.iadd, 1) := by decide +kernel
theorem dX4_hearOut_31 : decode cX4_hearOut 31 = .ok (.aload_n 0, 1) := by decide +kernel
theorem dX4_hearOut_32 : decode cX4_hearOut 32 = .ok (.getfield 13, 3) := by decide +kernel
theorem dX4_hearOut_35 : decode cX4_hearOut 35 = .ok (.iload_n 2, 1) := by decide +kernel
theorem dX4_hearOut_36 : decode cX4_hearOut 36 = .ok (.iaload, 1) := by decide +kernel
theorem dX4_hearOut_37 : decode cX4_hearOut 37 = .ok (.iastore, 1) := by decide +kernel
theorem dX4_hearOut_38 : decode cX4_hearOut 38 = .ok (.aload_n 0, 1) := by decide +kernel
theorem dX4_hearOut_39 : decode cX4_hearOut 39 = .ok (.getfield 9, 3) := by decide +kernel
theorem dX4_hearOut_42 : decode cX4_hearOut 42 = .ok (.bipush 74, 2) := by decide +kernel
theorem dX4_hearOut_44 : decode cX4_hearOut 44 = .ok (.iload_n 2, 1) := by decide +kernel
theorem dX4_hearOut_45 : decode cX4_hearOut 45 = .ok (.iadd, 1) := by decide +kernel
theorem dX4_hearOut_46 : decode cX4_hearOut 46 = .ok (.aload_n 0, 1) := by decide +kernel
theorem dX4_hearOut_47 : decode cX4_hearOut 47 = .ok (.getfield 9, 3) := by decide +kernel
theorem dX4_hearOut_50 : decode cX4_hearOut 50 = .ok (.iconst 4, 1) := by decide +kernel
theorem dX4_hearOut_51 : decode cX4_hearOut 51 = .ok (.iaload, 1) := by decide +kernel
theorem dX4_hearOut_52 : decode cX4_hearOut 52 = .ok (.iastore, 1) := by decide +kernel
theorem dX4_hearOut_53 : decode cX4_hearOut 53 = .ok (.iload_n 1, 1) := by decide +kernel
theorem dX4_hearOut_54 : decode cX4_hearOut 54 = .ok (.iconst 1, 1) := by decide +kernel
theorem dX4_hearOut_55 : decode cX4_hearOut 55 = .ok (.iload_n 2, 1) := by decide +kernel
theorem dX4_hearOut_56 : decode cX4_hearOut 56 = .ok (.ishl, 1) := by decide +kernel
theorem dX4_hearOut_57 : decode cX4_hearOut 57 = .ok (.ior, 1) := by decide +kernel
theorem dX4_hearOut_58 : decode cX4_hearOut 58 = .ok (.istore_n 1, 1) := by decide +kernel
theorem dX4_hearOut_59 : decode cX4_hearOut 59 = .ok (.iinc 2 1, 3) := by decide +kernel
theorem dX4_hearOut_62 : decode cX4_hearOut 62 = .ok (.goto (-58), 3) := by decide +kernel
theorem dX4_hearOut_65 : decode cX4_hearOut 65 = .ok (.aload_n 0, 1) := by decide +kernel
theorem dX4_hearOut_66 : decode cX4_hearOut 66 = .ok (.getfield 9, 3) := by decide +kernel
theorem dX4_hearOut_69 : decode cX4_hearOut 69 = .ok (.iconst 4, 1) := by decide +kernel
theorem dX4_hearOut_70 : decode cX4_hearOut 70 = .ok (.dup2, 1) := by decide +kernel
theorem dX4_hearOut_71 : decode cX4_hearOut 71 = .ok (.iaload, 1) := by decide +kernel
theorem dX4_hearOut_72 : decode cX4_hearOut 72 = .ok (.iconst 1, 1) := by decide +kernel
theorem dX4_hearOut_73 : decode cX4_hearOut 73 = .ok (.iadd, 1) := by decide +kernel
theorem dX4_hearOut_74 : decode cX4_hearOut 74 = .ok (.iastore, 1) := by decide +kernel
theorem dX4_hearOut_75 : decode cX4_hearOut 75 = .ok (.iload_n 1, 1) := by decide +kernel
theorem dX4_hearOut_76 : decode cX4_hearOut 76 = .ok (.ireturn, 1) := by decide +kernel
theorem dX4_moveOn_0 : decode cX4_moveOn 0 = .ok (.bipush 40, 2) := by decide +kernel
theorem dX4_moveOn_2 : decode cX4_moveOn 2 = .ok (.iload_n 1, 1) := by decide +kernel
theorem dX4_moveOn_3 : decode cX4_moveOn 3 = .ok (.iconst 4, 1) := by decide +kernel
theorem dX4_moveOn_4 : decode cX4_moveOn 4 = .ok (.imul, 1) := by decide +kernel
theorem dX4_moveOn_5 : decode cX4_moveOn 5 = .ok (.iadd, 1) := by decide +kernel
theorem dX4_moveOn_6 : decode cX4_moveOn 6 = .ok (.istore_n 2, 1) := by decide +kernel
theorem dX4_moveOn_7 : decode cX4_moveOn 7 = .ok (.iload_n 2, 1) := by decide +kernel
theorem dX4_moveOn_8 : decode cX4_moveOn 8 = .ok (.aload_n 0, 1) := by decide +kernel
theorem dX4_moveOn_9 : decode cX4_moveOn 9 = .ok (.getfield 9, 3) := by decide +kernel
theorem dX4_moveOn_12 : decode cX4_moveOn 12 = .ok (.bipush 26, 2) := by decide +kernel
theorem dX4_moveOn_14 : decode cX4_moveOn 14 = .ok (.iload_n 1, 1) := by decide +kernel
theorem dX4_moveOn_15 : decode cX4_moveOn 15 = .ok (.iadd, 1) := by decide +kernel
theorem dX4_moveOn_16 : decode cX4_moveOn 16 = .ok (.iaload, 1) := by decide +kernel
theorem dX4_moveOn_17 : decode cX4_moveOn 17 = .ok (.iadd, 1) := by decide +kernel
theorem dX4_moveOn_18 : decode cX4_moveOn 18 = .ok (.iconst 1, 1) := by decide +kernel
theorem dX4_moveOn_19 : decode cX4_moveOn 19 = .ok (.isub, 1) := by decide +kernel
theorem dX4_moveOn_20 : decode cX4_moveOn 20 = .ok (.istore_n 3, 1) := by decide +kernel
theorem dX4_moveOn_21 : decode cX4_moveOn 21 = .ok (.aload_n 0, 1) := by decide +kernel
theorem dX4_moveOn_22 : decode cX4_moveOn 22 = .ok (.getfield 9, 3) := by decide +kernel
theorem dX4_moveOn_25 : decode cX4_moveOn 25 = .ok (.iload_n 3, 1) := by decide +kernel
theorem dX4_moveOn_26 : decode cX4_moveOn 26 = .ok (.iaload, 1) := by decide +kernel
theorem dX4_moveOn_27 : decode cX4_moveOn 27 = .ok (.istore 4, 2) := by decide +kernel
theorem dX4_moveOn_29 : decode cX4_moveOn 29 = .ok (.iload_n 3, 1) := by decide +kernel
theorem dX4_moveOn_30 : decode cX4_moveOn 30 = .ok (.istore 5, 2) := by decide +kernel
theorem dX4_moveOn_32 : decode cX4_moveOn 32 = .ok (.iload 5, 2) := by decide +kernel
theorem dX4_moveOn_34 : decode cX4_moveOn 34 = .ok (.iload_n 2, 1) := by decide +kernel
theorem dX4_moveOn_35 : decode cX4_moveOn 35 = .ok (.if_icmp .le 25, 3) := by decide +kernel
theorem dX4_moveOn_38 : decode cX4_moveOn 38 = .ok (.aload_n 0, 1) := by decide +kernel
theorem dX4_moveOn_39 : decode cX4_moveOn 39 = .ok (.getfield 9, 3) := by decide +kernel
theorem dX4_moveOn_42 : decode cX4_moveOn 42 = .ok (.iload 5, 2) := by decide +kernel
theorem dX4_moveOn_44 : decode cX4_moveOn 44 = .ok (.aload_n 0, 1) := by decide +kernel
theorem dX4_moveOn_45 : decode cX4_moveOn 45 = .ok (.getfield 9, 3) := by decide +kernel
theorem dX4_moveOn_48 : decode cX4_moveOn 48 = .ok (.iload 5, 2) := by decide +kernel
theorem dX4_moveOn_50 : decode cX4_moveOn 50 = .ok (.iconst 1, 1) := by decide +kernel
theorem dX4_moveOn_51 : decode cX4_moveOn 51 = .ok (.isub, 1) := by decide +kernel
theorem dX4_moveOn_52 : decode cX4_moveOn 52 = .ok (.iaload, 1) := by decide +kernel
theorem dX4_moveOn_53 : decode cX4_moveOn 53 = .ok (.iastore, 1) := by decide +kernel
theorem dX4_moveOn_54 : decode cX4_moveOn 54 = .ok (.iinc 5 (-1), 3) := by decide +kernel
theorem dX4_moveOn_57 : decode cX4_moveOn 57 = .ok (.goto (-25), 3) := by decide +kernel
theorem dX4_moveOn_60 : decode cX4_moveOn 60 = .ok (.aload_n 0, 1) := by decide +kernel
theorem dX4_moveOn_61 : decode cX4_moveOn 61 = .ok (.getfield 9, 3) := by decide +kernel
theorem dX4_moveOn_64 : decode cX4_moveOn 64 = .ok (.iload_n 2, 1) := by decide +kernel
theorem dX4_moveOn_65 : decode cX4_moveOn 65 = .ok (.iconst 0, 1) := by decide +kernel
theorem dX4_moveOn_66 : decode cX4_moveOn 66 = .ok (.iastore, 1) := by decide +kernel
theorem dX4_moveOn_67 : decode cX4_moveOn 67 = .ok (.iload 4, 2) := by decide +kernel
theorem dX4_moveOn_69 : decode cX4_moveOn 69 = .ok (.ireturn, 1) := by decide +kernel
theorem dX4_comesOut_0 : decode cX4_comesOut 0 = .ok (.iload_n 2, 1) := by decide +kernel
theorem dX4_comesOut_1 : decode cX4_comesOut 1 = .ok (.ifCond .ne 5, 3) := by decide +kernel
theorem dX4_comesOut_4 : decode cX4_comesOut 4 = .ok (.iconst 0, 1) := by decide +kernel
theorem dX4_comesOut_5 : decode cX4_comesOut 5 = .ok (.ireturn, 1) := by decide +kernel
theorem dX4_comesOut_6 : decode cX4_comesOut 6 = .ok (.aload_n 0, 1) := by decide +kernel
theorem dX4_comesOut_7 : decode cX4_comesOut 7 = .ok (.getfield 9, 3) := by decide +kernel
theorem dX4_comesOut_10 : decode cX4_comesOut 10 = .ok (.iconst 5, 1) := by decide +kernel
theorem dX4_comesOut_11 : decode cX4_comesOut 11 = .ok (.iload_n 1, 1) := by decide +kernel
theorem dX4_comesOut_12 : decode cX4_comesOut 12 = .ok (.iadd, 1) := by decide +kernel
theorem dX4_comesOut_13 : decode cX4_comesOut 13 = .ok (.iaload, 1) := by decide +kernel
theorem dX4_comesOut_14 : decode cX4_comesOut 14 = .ok (.istore_n 3, 1) := by decide +kernel
theorem dX4_comesOut_15 : decode cX4_comesOut 15 = .ok (.aload_n 0, 1) := by decide +kernel
theorem dX4_comesOut_16 : decode cX4_comesOut 16 = .ok (.getfield 9, 3) := by decide +kernel
theorem dX4_comesOut_19 : decode cX4_comesOut 19 = .ok (.bipush 33, 2) := by decide +kernel
theorem dX4_comesOut_21 : decode cX4_comesOut 21 = .ok (.iload_n 1, 1) := by decide +kernel
theorem dX4_comesOut_22 : decode cX4_comesOut 22 = .ok (.iadd, 1) := by decide +kernel
theorem dX4_comesOut_23 : decode cX4_comesOut 23 = .ok (.iaload, 1) := by decide +kernel
theorem dX4_comesOut_24 : decode cX4_comesOut 24 = .ok (.istore 4, 2) := by decide +kernel
theorem dX4_comesOut_26 : decode cX4_comesOut 26 = .ok (.iload_n 2, 1) := by decide +kernel
theorem dX4_comesOut_27 : decode cX4_comesOut 27 = .ok (.invokestatic 47, 3) := by decide +kernel
theorem dX4_comesOut_30 : decode cX4_comesOut 30 = .ok (.istore 5, 2) := by decide +kernel
theorem dX4_comesOut_32 : decode cX4_comesOut 32 = .ok (.iload_n 2, 1) := by decide +kernel
theorem dX4_comesOut_33 : decode cX4_comesOut 33 = .ok (.invokestatic 30, 3) := by decide +kernel
theorem dX4_comesOut_36 : decode cX4_comesOut 36 = .ok (.istore 6, 2) := by decide +kernel
theorem dX4_comesOut_38 : decode cX4_comesOut 38 = .ok (.iload_n 3, 1) := by decide +kernel
theorem dX4_comesOut_39 : decode cX4_comesOut 39 = .ok (.iconst 4, 1) := by decide +kernel
theorem dX4_comesOut_40 : decode cX4_comesOut 40 = .ok (.if_icmp .eq 8, 3) := by decide +kernel
theorem dX4_comesOut_43 : decode cX4_comesOut 43 = .ok (.iload_n 3, 1) := by decide +kernel
theorem dX4_comesOut_44 : decode cX4_comesOut 44 = .ok (.iconst 5, 1) := by decide +kernel
theorem dX4_comesOut_45 : decode cX4_comesOut 45 = .ok (.if_icmp .ne 12, 3) := by decide +kernel
theorem dX4_comesOut_48 : decode cX4_comesOut 48 = .ok (.iload 6, 2) := by decide +kernel
theorem dX4_comesOut_50 : decode cX4_comesOut 50 = .ok (.iconst 2, 1) := by decide +kernel
theorem dX4_comesOut_51 : decode cX4_comesOut 51 = .ok (.idiv, 1) := by decide +kernel
theorem dX4_comesOut_52 : decode cX4_comesOut 52 = .ok (.istore 6, 2) := by decide +kernel
theorem dX4_comesOut_54 : decode cX4_comesOut 54 = .ok (.goto 14, 3) := by decide +kernel
theorem dX4_comesOut_57 : decode cX4_comesOut 57 = .ok (.iload 6, 2) := by decide +kernel
theorem dX4_comesOut_59 : decode cX4_comesOut 59 = .ok (.aload_n 0, 1) := by decide +kernel
theorem dX4_comesOut_60 : decode cX4_comesOut 60 = .ok (.getfield 9, 3) := by decide +kernel
theorem dX4_comesOut_63 : decode cX4_comesOut 63 = .ok (.iconst 1, 1) := by decide +kernel
theorem dX4_comesOut_64 : decode cX4_comesOut 64 = .ok (.iaload, 1) := by decide +kernel
theorem dX4_comesOut_65 : decode cX4_comesOut 65 = .ok (.isub, 1) := by decide +kernel
theorem dX4_comesOut_66 : decode cX4_comesOut 66 = .ok (.istore 6, 2) := by decide +kernel
theorem dX4_comesOut_68 : decode cX4_comesOut 68 = .ok (.iload_n 3, 1) := by decide +kernel
theorem dX4_comesOut_69 : decode cX4_comesOut 69 = .ok (.iconst 3, 1) := by decide +kernel
theorem dX4_comesOut_70 : decode cX4_comesOut 70 = .ok (.if_icmp .ne 10, 3) := by decide +kernel
theorem dX4_comesOut_73 : decode cX4_comesOut 73 = .ok (.iload 6, 2) := by decide +kernel
theorem dX4_comesOut_75 : decode cX4_comesOut 75 = .ok (.iload 4, 2) := by decide +kernel
theorem dX4_comesOut_77 : decode cX4_comesOut 77 = .ok (.isub, 1) := by decide +kernel
theorem dX4_comesOut_78 : decode cX4_comesOut 78 = .ok (.istore 6, 2) := by decide +kernel
theorem dX4_comesOut_80 : decode cX4_comesOut 80 = .ok (.iload_n 3, 1) := by decide +kernel
theorem dX4_comesOut_81 : decode cX4_comesOut 81 = .ok (.iconst 2, 1) := by decide +kernel
theorem dX4_comesOut_82 : decode cX4_comesOut 82 = .ok (.if_icmp .eq 8, 3) := by decide +kernel
theorem dX4_comesOut_85 : decode cX4_comesOut 85 = .ok (.iload_n 3, 1) := by decide +kernel
theorem dX4_comesOut_86 : decode cX4_comesOut 86 = .ok (.iconst 5, 1) := by decide +kernel
theorem dX4_comesOut_87 : decode cX4_comesOut 87 = .ok (.if_icmp .ne 13, 3) := by decide +kernel
theorem dX4_comesOut_90 : decode cX4_comesOut 90 = .ok (.iload 5, 2) := by decide +kernel
theorem dX4_comesOut_92 : decode cX4_comesOut 92 = .ok (.iload 4, 2) := by decide +kernel
theorem dX4_comesOut_94 : decode cX4_comesOut 94 = .ok (.iadd, 1) := by decide +kernel
theorem dX4_comesOut_95 : decode cX4_comesOut 95 = .ok (.bipush 10, 2) := by decide +kernel
theorem dX4_comesOut_97 : decode cX4_comesOut 97 = .ok (.irem, 1) := by decide +kernel
theorem dX4_comesOut_98 : decode cX4_comesOut 98 = .ok (.istore 5, 2) := by decide +kernel
theorem dX4_comesOut_100 : decode cX4_comesOut 100 = .ok (.iload 6, 2) := by decide +kernel
theorem dX4_comesOut_102 : decode cX4_comesOut 102 = .ok (.ifCond .le 13, 3) := by decide +kernel
theorem dX4_comesOut_105 : decode cX4_comesOut 105 = .ok (.iload 5, 2) := by decide +kernel
theorem dX4_comesOut_107 : decode cX4_comesOut 107 = .ok (.iload 6, 2) := by decide +kernel
theorem dX4_comesOut_109 : decode cX4_comesOut 109 = .ok (.invokestatic 33, 3) := by decide +kernel
theorem dX4_comesOut_112 : decode cX4_comesOut 112 = .ok (.goto 4, 3) := by decide +kernel
theorem dX4_comesOut_115 : decode cX4_comesOut 115 = .ok (.iconst 0, 1) := by decide +kernel
theorem dX4_comesOut_116 : decode cX4_comesOut 116 = .ok (.ireturn, 1) := by decide +kernel
theorem dX5_init_0 : decode cX5_init 0 = .ok (.aload_n 0, 1) := by decide +kernel
theorem dX5_init_1 : decode cX5_init 1 = .ok (.invokespecial 1, 3) := by decide +kernel
theorem dX5_init_4 : decode cX5_init 4 = .ok (.aload_n 0, 1) := by decide +kernel
theorem dX5_init_5 : decode cX5_init 5 = .ok (.bipush 8, 2) := by decide +kernel
theorem dX5_init_7 : decode cX5_init 7 = .ok (.bipush 40, 2) := by decide +kernel
theorem dX5_init_9 : decode cX5_init 9 = .ok (.multianewarray 9 2, 4) := by decide +kernel
theorem dX5_init_13 : decode cX5_init 13 = .ok (.putfield 11, 3) := by decide +kernel
theorem dX5_init_16 : decode cX5_init 16 = .ok (.aload_n 0, 1) := by decide +kernel
theorem dX5_init_17 : decode cX5_init 17 = .ok (.bipush 8, 2) := by decide +kernel
theorem dX5_init_19 : decode cX5_init 19 = .ok (.newarray .int, 2) := by decide +kernel
theorem dX5_init_21 : decode cX5_init 21 = .ok (.putfield 14, 3) := by decide +kernel
theorem dX5_init_24 : decode cX5_init 24 = .ok (.aload_n 0, 1) := by decide +kernel
theorem dX5_init_25 : decode cX5_init 25 = .ok (.bipush 8, 2) := by decide +kernel
theorem dX5_init_27 : decode cX5_init 27 = .ok (.newarray .int, 2) := by decide +kernel
theorem dX5_init_29 : decode cX5_init 29 = .ok (.putfield 18, 3) := by decide +kernel
theorem dX5_init_32 : decode cX5_init 32 = .ok (.iconst 0, 1) := by decide +kernel
theorem dX5_init_33 : decode cX5_init 33 = .ok (.istore_n 1, 1) := by decide +kernel
theorem dX5_init_34 : decode cX5_init 34 = .ok (.iload_n 1, 1) := by decide +kernel
theorem dX5_init_35 : decode cX5_init 35 = .ok (.bipush 8, 2) := by decide +kernel
theorem dX5_init_37 : decode cX5_init 37 = .ok (.if_icmp .ge 16, 3) := by decide +kernel
theorem dX5_init_40 : decode cX5_init 40 = .ok (.aload_n 0, 1) := by decide +kernel
theorem dX5_init_41 : decode cX5_init 41 = .ok (.getfield 18, 3) := by decide +kernel
theorem dX5_init_44 : decode cX5_init 44 = .ok (.iload_n 1, 1) := by decide +kernel
theorem dX5_init_45 : decode cX5_init 45 = .ok (.iconst (-1), 1) := by decide +kernel
theorem dX5_init_46 : decode cX5_init 46 = .ok (.iastore, 1) := by decide +kernel
theorem dX5_init_47 : decode cX5_init 47 = .ok (.iinc 1 1, 3) := by decide +kernel
theorem dX5_init_50 : decode cX5_init 50 = .ok (.goto (-16), 3) := by decide +kernel
theorem dX5_init_53 : decode cX5_init 53 = .ok (.return_, 1) := by decide +kernel
theorem dX5_isRow_0 : decode cX5_isRow 0 = .ok (.iload_n 0, 1) := by decide +kernel
theorem dX5_isRow_1 : decode cX5_isRow 1 = .ok (.ifCond .lt 13, 3) := by decide +kernel
theorem dX5_isRow_4 : decode cX5_isRow 4 = .ok (.iload_n 0, 1) := by decide +kernel
theorem dX5_isRow_5 : decode cX5_isRow 5 = .ok (.bipush 8, 2) := by decide +kernel
theorem dX5_isRow_7 : decode cX5_isRow 7 = .ok (.if_icmp .ge 7, 3) := by decide +kernel
theorem dX5_isRow_10 : decode cX5_isRow 10 = .ok (.iconst 1, 1) := by decide +kernel
theorem dX5_isRow_11 : decode cX5_isRow 11 = .ok (.goto 4, 3) := by decide +kernel
theorem dX5_isRow_14 : decode cX5_isRow 14 = .ok (.iconst 0, 1) := by decide +kernel
theorem dX5_isRow_15 : decode cX5_isRow 15 = .ok (.ireturn, 1) := by decide +kernel
theorem dX5_isMissing_0 : decode cX5_isMissing 0 = .ok (.aload_n 0, 1) := by decide +kernel
theorem dX5_isMissing_1 : decode cX5_isMissing 1 = .ok (.getfield 18, 3) := by decide +kernel
theorem dX5_isMissing_4 : decode cX5_isMissing 4 = .ok (.iload_n 1, 1) := by decide +kernel
theorem dX5_isMissing_5 : decode cX5_isMissing 5 = .ok (.iaload, 1) := by decide +kernel
theorem dX5_isMissing_6 : decode cX5_isMissing 6 = .ok (.iconst (-1), 1) := by decide +kernel
theorem dX5_isMissing_7 : decode cX5_isMissing 7 = .ok (.if_icmp .ne 7, 3) := by decide +kernel
theorem dX5_isMissing_10 : decode cX5_isMissing 10 = .ok (.iconst 1, 1) := by decide +kernel
theorem dX5_isMissing_11 : decode cX5_isMissing 11 = .ok (.goto 4, 3) := by decide +kernel
theorem dX5_isMissing_14 : decode cX5_isMissing 14 = .ok (.iconst 0, 1) := by decide +kernel
theorem dX5_isMissing_15 : decode cX5_isMissing 15 = .ok (.ireturn, 1) := by decide +kernel
theorem dX5_lay_0 : decode cX5_lay 0 = .ok (.aload_n 0, 1) := by decide +kernel
theorem dX5_lay_1 : decode cX5_lay 1 = .ok (.getfield 14, 3) := by decide +kernel
theorem dX5_lay_4 : decode cX5_lay 4 = .ok (.iload_n 1, 1) := by decide +kernel
theorem dX5_lay_5 : decode cX5_lay 5 = .ok (.iload_n 2, 1) := by decide +kernel
theorem dX5_lay_6 : decode cX5_lay 6 = .ok (.iastore, 1) := by decide +kernel
theorem dX5_lay_7 : decode cX5_lay 7 = .ok (.aload_n 0, 1) := by decide +kernel
theorem dX5_lay_8 : decode cX5_lay 8 = .ok (.getfield 18, 3) := by decide +kernel
theorem dX5_lay_11 : decode cX5_lay 11 = .ok (.iload_n 1, 1) := by decide +kernel
theorem dX5_lay_12 : decode cX5_lay 12 = .ok (.iload_n 3, 1) := by decide +kernel
theorem dX5_lay_13 : decode cX5_lay 13 = .ok (.iastore, 1) := by decide +kernel
theorem dX5_lay_14 : decode cX5_lay 14 = .ok (.iconst 0, 1) := by decide +kernel
theorem dX5_lay_15 : decode cX5_lay 15 = .ok (.istore 4, 2) := by decide +kernel
theorem dX5_lay_17 : decode cX5_lay 17 = .ok (.iload 4, 2) := by decide +kernel
theorem dX5_lay_19 : decode cX5_lay 19 = .ok (.iload_n 3, 1) := by decide +kernel
theorem dX5_lay_20 : decode cX5_lay 20 = .ok (.if_icmp .ge 19, 3) := by decide +kernel
theorem dX5_lay_23 : decode cX5_lay 23 = .ok (.aload_n 0, 1) := by decide +kernel
theorem dX5_lay_24 : decode cX5_lay 24 = .ok (.getfield 11, 3) := by decide +kernel
theorem dX5_lay_27 : decode cX5_lay 27 = .ok (.iload_n 1, 1) := by decide +kernel
theorem dX5_lay_28 : decode cX5_lay 28 = .ok (.aaload, 1) := by decide +kernel
theorem dX5_lay_29 : decode cX5_lay 29 = .ok (.iload 4, 2) := by decide +kernel
theorem dX5_lay_31 : decode cX5_lay 31 = .ok (.iconst 0, 1) := by decide +kernel
theorem dX5_lay_32 : decode cX5_lay 32 = .ok (.iastore, 1) := by decide +kernel
theorem dX5_lay_33 : decode cX5_lay 33 = .ok (.iinc 4 1, 3) := by decide +kernel
theorem dX5_lay_36 : decode cX5_lay 36 = .ok (.goto (-19), 3) := by decide +kernel
theorem dX5_lay_39 : decode cX5_lay 39 = .ok (.return_, 1) := by decide +kernel
theorem dX5_hasStretch_0 : decode cX5_hasStretch 0 = .ok (.iload_n 2, 1) := by decide +kernel
theorem dX5_hasStretch_1 : decode cX5_hasStretch 1 = .ok (.ifCond .lt 33, 3) := by decide +kernel
theorem dX5_hasStretch_4 : decode cX5_hasStretch 4 = .ok (.iload_n 3, 1) := by decide +kernel
theorem dX5_hasStretch_5 : decode cX5_hasStretch 5 = .ok (.ifCond .lt 29, 3) := by decide +kernel
theorem dX5_hasStretch_8 : decode cX5_hasStretch 8 = .ok (.iload_n 2, 1) := by decide +kernel
theorem dX5_hasStretch_9 : decode cX5_hasStretch 9 = .ok (.aload_n 0, 1) := by decide +kernel
theorem dX5_hasStretch_10 : decode cX5_hasStretch 10 = .ok (.getfield 18, 3) := by decide +kernel
theorem dX5_hasStretch_13 : decode cX5_hasStretch 13 = .ok (.iload_n 1, 1) := by decide +kernel
theorem dX5_hasStretch_14 : decode cX5_hasStretch 14 = .ok (.iaload, 1) := by decide +kernel
theorem dX5_hasStretch_15 : decode cX5_hasStretch 15 = .ok (.if_icmp .gt 19, 3) := by decide +kernel
theorem dX5_hasStretch_18 : decode cX5_hasStretch 18 = .ok (.iload_n 3, 1) := by decide +kernel
theorem dX5_hasStretch_19 : decode cX5_hasStretch 19 = .ok (.aload_n 0, 1) := by decide +kernel
theorem dX5_hasStretch_20 : decode cX5_hasStretch 20 = .ok (.getfield 18, 3) := by decide +kernel
theorem dX5_hasStretch_23 : decode cX5_hasStretch 23 = .ok (.iload_n 1, 1) := by decide +kernel
theorem dX5_hasStretch_24 : decode cX5_hasStretch 24 = .ok (.iaload, 1) := by decide +kernel
theorem dX5_hasStretch_25 : decode cX5_hasStretch 25 = .ok (.iload_n 2, 1) := by decide +kernel
theorem dX5_hasStretch_26 : decode cX5_hasStretch 26 = .ok (.isub, 1) := by decide +kernel
theorem dX5_hasStretch_27 : decode cX5_hasStretch 27 = .ok (.if_icmp .gt 7, 3) := by decide +kernel
theorem dX5_hasStretch_30 : decode cX5_hasStretch 30 = .ok (.iconst 1, 1) := by decide +kernel
theorem dX5_hasStretch_31 : decode cX5_hasStretch 31 = .ok (.goto 4, 3) := by decide +kernel
theorem dX5_hasStretch_34 : decode cX5_hasStretch 34 = .ok (.iconst 0, 1) := by decide +kernel
theorem dX5_hasStretch_35 : decode cX5_hasStretch 35 = .ok (.ireturn, 1) := by decide +kernel
theorem dX5_put_0 : decode cX5_put 0 = .ok (.aload_n 0, 1) := by decide +kernel
theorem dX5_put_1 : decode cX5_put 1 = .ok (.getfield 11, 3) := by decide +kernel
theorem dX5_put_4 : decode cX5_put 4 = .ok (.iload_n 1, 1) := by decide +kernel
theorem dX5_put_5 : decode cX5_put 5 = .ok (.aaload, 1) := by decide +kernel
theorem dX5_put_6 : decode cX5_put 6 = .ok (.iload_n 2, 1) := by decide +kernel
theorem dX5_put_7 : decode cX5_put 7 = .ok (.aload_n 0, 1) := by decide +kernel
theorem dX5_put_8 : decode cX5_put 8 = .ok (.getfield 14, 3) := by decide +kernel
theorem dX5_put_11 : decode cX5_put 11 = .ok (.iload_n 1, 1) := by decide +kernel
theorem dX5_put_12 : decode cX5_put 12 = .ok (.iaload, 1) := by decide +kernel
theorem dX5_put_13 : decode cX5_put 13 = .ok (.ifCond .ne 8, 3) := by decide +kernel
theorem dX5_put_16 : decode cX5_put 16 = .ok (.iload_n 3, 1) := by decide +kernel
theorem dX5_put_17 : decode cX5_put 17 = .ok (.i2b, 1) := by decide +kernel
theorem dX5_put_18 : decode cX5_put 18 = .ok (.goto 19, 3) := by decide +kernel
theorem dX5_put_21 : decode cX5_put 21 = .ok (.aload_n 0, 1) := by decide +kernel
theorem dX5_put_22 : decode cX5_put 22 = .ok (.getfield 14, 3) := by decide +kernel
theorem dX5_put_25 : decode cX5_put 25 = .ok (.iload_n 1, 1) := by decide +kernel
theorem dX5_put_26 : decode cX5_put 26 = .ok (.iaload, 1) := by decide +kernel
theorem dX5_put_27 : decode cX5_put 27 = .ok (.iconst 1, 1) := by decide +kernel
theorem dX5_put_28 : decode cX5_put 28 = .ok (.if_icmp .ne 8, 3) := by decide +kernel
theorem dX5_put_31 : decode cX5_put 31 = .ok (.iload_n 3, 1) := by decide +kernel
theorem dX5_put_32 : decode cX5_put 32 = .ok (.i2s, 1) := by decide +kernel
theorem dX5_put_33 : decode cX5_put 33 = .ok (.goto 4, 3) := by decide +kernel
theorem dX5_put_36 : decode cX5_put 36 = .ok (.iload_n 3, 1) := by decide +kernel
theorem dX5_put_37 : decode cX5_put 37 = .ok (.iastore, 1) := by decide +kernel
theorem dX5_put_38 : decode cX5_put 38 = .ok (.aload_n 0, 1) := by decide +kernel
theorem dX5_put_39 : decode cX5_put 39 = .ok (.getfield 11, 3) := by decide +kernel
theorem dX5_put_42 : decode cX5_put 42 = .ok (.iload_n 1, 1) := by decide +kernel
theorem dX5_put_43 : decode cX5_put 43 = .ok (.aaload, 1) := by decide +kernel
theorem dX5_put_44 : decode cX5_put 44 = .ok (.iload_n 2, 1) := by decide +kernel
theorem dX5_put_45 : decode cX5_put 45 = .ok (.iaload, 1) := by decide +kernel
theorem dX5_put_46 : decode cX5_put 46 = .ok (.ireturn, 1) := by decide +kernel
theorem dX5_takeAway_0 : decode cX5_takeAway 0 = .ok (.aload_n 0, 1) := by decide +kernel
theorem dX5_takeAway_1 : decode cX5_takeAway 1 = .ok (.getfield 18, 3) := by decide +kernel
theorem dX5_takeAway_4 : decode cX5_takeAway 4 = .ok (.iload_n 1, 1) := by decide +kernel
theorem dX5_takeAway_5 : decode cX5_takeAway 5 = .ok (.iaload, 1) := by decide +kernel
theorem dX5_takeAway_6 : decode cX5_takeAway 6 = .ok (.istore_n 2, 1) := by decide +kernel
theorem dX5_takeAway_7 : decode cX5_takeAway 7 = .ok (.aload_n 0, 1) := by decide +kernel
theorem dX5_takeAway_8 : decode cX5_takeAway 8 = .ok (.getfield 18, 3) := by decide +kernel
theorem dX5_takeAway_11 : decode cX5_takeAway 11 = .ok (.iload_n 1, 1) := by decide +kernel
theorem dX5_takeAway_12 : decode cX5_takeAway 12 = .ok (.iconst (-1), 1) := by decide +kernel
theorem dX5_takeAway_13 : decode cX5_takeAway 13 = .ok (.iastore, 1) := by decide +kernel
theorem dX5_takeAway_14 : decode cX5_takeAway 14 = .ok (.iload_n 2, 1) := by decide +kernel
theorem dX5_takeAway_15 : decode cX5_takeAway 15 = .ok (.ireturn, 1) := by decide +kernel
theorem dX5_howMany_0 : decode cX5_howMany 0 = .ok (.iconst 0, 1) := by decide +kernel
theorem dX5_howMany_1 : decode cX5_howMany 1 = .ok (.istore_n 1, 1) := by decide +kernel
theorem dX5_howMany_2 : decode cX5_howMany 2 = .ok (.iconst 0, 1) := by decide +kernel
theorem dX5_howMany_3 : decode cX5_howMany 3 = .ok (.istore_n 2, 1) := by decide +kernel
theorem dX5_howMany_4 : decode cX5_howMany 4 = .ok (.iload_n 2, 1) := by decide +kernel
theorem dX5_howMany_5 : decode cX5_howMany 5 = .ok (.bipush 8, 2) := by decide +kernel
theorem dX5_howMany_7 : decode cX5_howMany 7 = .ok (.if_icmp .ge 25, 3) := by decide +kernel
theorem dX5_howMany_10 : decode cX5_howMany 10 = .ok (.iload_n 1, 1) := by decide +kernel
theorem dX5_howMany_11 : decode cX5_howMany 11 = .ok (.aload_n 0, 1) := by decide +kernel
theorem dX5_howMany_12 : decode cX5_howMany 12 = .ok (.iload_n 2, 1) := by decide +kernel
theorem dX5_howMany_13 : decode cX5_howMany 13 = .ok (.invokevirtual 21, 3) := by decide +kernel
theorem dX5_howMany_16 : decode cX5_howMany 16 = .ok (.ifCond .eq 7, 3) := by decide +kernel
theorem dX5_howMany_19 : decode cX5_howMany 19 = .ok (.iconst 0, 1) := by decide +kernel
theorem dX5_howMany_20 : decode cX5_howMany 20 = .ok (.goto 4, 3) := by decide +kernel
theorem dX5_howMany_23 : decode cX5_howMany 23 = .ok (.iconst 1, 1) := by decide +kernel
theorem dX5_howMany_24 : decode cX5_howMany 24 = .ok (.iadd, 1) := by decide +kernel
theorem dX5_howMany_25 : decode cX5_howMany 25 = .ok (.istore_n 1, 1) := by decide +kernel
theorem dX5_howMany_26 : decode cX5_howMany 26 = .ok (.iinc 2 1, 3) := by decide +kernel
theorem dX5_howMany_29 : decode cX5_howMany 29 = .ok (.goto (-25), 3) := by decide +kernel
theorem dX5_howMany_32 : decode cX5_howMany 32 = .ok (.iload_n 1, 1) := by decide +kernel
theorem dX5_howMany_33 : decode cX5_howMany 33 = .ok (.ireturn, 1) := by decide +kernel
theorem dX6_init_0 : decode cX6_init 0 = .ok (.aload_n 0, 1) := by decide +kernel
theorem dX6_init_1 : decode cX6_init 1 = .ok (.invokespecial 1, 3) := by decide +kernel
theorem dX6_init_4 : decode cX6_init 4 = .ok (.aload_n 0, 1) := by decide +kernel
theorem dX6_init_5 : decode cX6_init 5 = .ok (.bipush 120, 2) := by decide +kernel
theorem dX6_init_7 : decode cX6_init 7 = .ok (.newarray .int, 2) := by decide +kernel
theorem dX6_init_9 : decode cX6_init 9 = .ok (.putfield 9, 3) := by decide +kernel
theorem dX6_init_12 : decode cX6_init 12 = .ok (.aload_n 0, 1) := by decide +kernel
theorem dX6_init_13 : decode cX6_init 13 = .ok (.iconst 0, 1) := by decide +kernel
theorem dX6_init_14 : decode cX6_init 14 = .ok (.putfield 13, 3) := by decide +kernel
theorem dX6_init_17 : decode cX6_init 17 = .ok (.aload_n 0, 1) := by decide +kernel
theorem dX6_init_18 : decode cX6_init 18 = .ok (.iconst 0, 1) := by decide +kernel
theorem dX6_init_19 : decode cX6_init 19 = .ok (.putfield 17, 3) := by decide +kernel
theorem dX6_init_22 : decode cX6_init 22 = .ok (.aload_n 0, 1) := by decide +kernel
theorem dX6_init_23 : decode cX6_init 23 = .ok (.iconst 0, 1) := by decide +kernel
theorem dX6_init_24 : decode cX6_init 24 = .ok (.putfield 20, 3) := by decide +kernel
theorem dX6_init_27 : decode cX6_init 27 = .ok (.aload_n 0, 1) := by decide +kernel
theorem dX6_init_28 : decode cX6_init 28 = .ok (.iconst 0, 1) := by decide +kernel
theorem dX6_init_29 : decode cX6_init 29 = .ok (.putfield 23, 3) := by decide +kernel
theorem dX6_init_32 : decode cX6_init 32 = .ok (.return_, 1) := by decide +kernel
theorem dX6_append_0 : decode cX6_append 0 = .ok (.aload_n 0, 1) := by decide +kernel
theorem dX6_append_1 : decode cX6_append 1 = .ok (.getfield 13, 3) := by decide +kernel
theorem dX6_append_4 : decode cX6_append 4 = .ok (.bipush 120, 2) := by decide +kernel
theorem dX6_append_6 : decode cX6_append 6 = .ok (.if_icmp .lt 5, 3) := by decide +kernel
theorem dX6_append_9 : decode cX6_append 9 = .ok (.iconst 0, 1) := by decide +kernel
theorem dX6_append_10 : decode cX6_append 10 = .ok (.ireturn, 1) := by decide +kernel
theorem dX6_append_11 : decode cX6_append 11 = .ok (.aload_n 0, 1) := by decide +kernel
theorem dX6_append_12 : decode cX6_append 12 = .ok (.getfield 9, 3) := by decide +kernel
theorem dX6_append_15 : decode cX6_append 15 = .ok (.aload_n 0, 1) := by decide +kernel
theorem dX6_append_16 : decode cX6_append 16 = .ok (.getfield 13, 3) := by decide +kernel
theorem dX6_append_19 : decode cX6_append 19 = .ok (.iload_n 1, 1) := by decide +kernel
theorem dX6_append_20 : decode cX6_append 20 = .ok (.iastore, 1) := by decide +kernel
theorem dX6_append_21 : decode cX6_append 21 = .ok (.aload_n 0, 1) := by decide +kernel
theorem dX6_append_22 : decode cX6_append 22 = .ok (.dup, 1) := by decide +kernel
theorem dX6_append_23 : decode cX6_append 23 = .ok (.getfield 13, 3) := by decide +kernel
theorem dX6_append_26 : decode cX6_append 26 = .ok (.iconst 1, 1) := by decide +kernel
theorem dX6_append_27 : decode cX6_append 27 = .ok (.iadd, 1) := by decide +kernel
theorem dX6_append_28 : decode cX6_append 28 = .ok (.putfield 13, 3) := by decide +kernel
theorem dX6_append_31 : decode cX6_append 31 = .ok (.iconst 1, 1) := by decide +kernel
theorem dX6_append_32 : decode cX6_append 32 = .ok (.ireturn, 1) := by decide +kernel
theorem dX6_readInto_0 : decode cX6_readInto 0 = .ok (.aload_n 1, 1) := by decide +kernel
theorem dX6_readInto_1 : decode cX6_readInto 1 = .ok (.invokevirtual 26, 3) := by decide +kernel
theorem dX6_readInto_4 : decode cX6_readInto 4 = .ok (.aload_n 0, 1) := by decide +kernel
theorem dX6_readInto_5 : decode cX6_readInto 5 = .ok (.iconst 0, 1) := by decide +kernel
theorem dX6_readInto_6 : decode cX6_readInto 6 = .ok (.putfield 23, 3) := by decide +kernel
theorem dX6_readInto_9 : decode cX6_readInto 9 = .ok (.aload_n 0, 1) := by decide +kernel
theorem dX6_readInto_10 : decode cX6_readInto 10 = .ok (.aload_n 1, 1) := by decide +kernel
theorem dX6_readInto_11 : decode cX6_readInto 11 = .ok (.invokevirtual 31, 3) := by decide +kernel
theorem dX6_readInto_14 : decode cX6_readInto 14 = .ok (.istore_n 2, 1) := by decide +kernel
theorem dX6_readInto_15 : decode cX6_readInto 15 = .ok (.iconst 0, 1) := by decide +kernel
theorem dX6_readInto_16 : decode cX6_readInto 16 = .ok (.istore_n 3, 1) := by decide +kernel
theorem dX6_readInto_17 : decode cX6_readInto 17 = .ok (.iload_n 3, 1) := by decide +kernel
theorem dX6_readInto_18 : decode cX6_readInto 18 = .ok (.bipush 120, 2) := by decide +kernel
theorem dX6_readInto_20 : decode cX6_readInto 20 = .ok (.if_icmp .ge 34, 3) := by decide +kernel
theorem dX6_readInto_23 : decode cX6_readInto 23 = .ok (.iload_n 2, 1) := by decide +kernel
theorem dX6_readInto_24 : decode cX6_readInto 24 = .ok (.ifCond .eq 30, 3) := by decide +kernel
theorem dX6_readInto_27 : decode cX6_readInto 27 = .ok (.iload_n 3, 1) := by decide +kernel
theorem dX6_readInto_28 : decode cX6_readInto 28 = .ok (.ifCond .eq 14, 3) := by decide +kernel
theorem dX6_readInto_31 : decode cX6_readInto 31 = .ok (.aload_n 0, 1) := by decide +kernel
theorem dX6_readInto_32 : decode cX6_readInto 32 = .ok (.getfield 23, 3) := by decide +kernel
theorem dX6_readInto_35 : decode cX6_readInto 35 = .ok (.aload_n 0, 1) := by decide +kernel
theorem dX6_readInto_36 : decode cX6_readInto 36 = .ok (.getfield 13, 3) := by decide +kernel
theorem dX6_readInto_39 : decode cX6_readInto 39 = .ok (.if_icmp .ge 15, 3) := by decide +kernel
theorem dX6_readInto_42 : decode cX6_readInto 42 = .ok (.aload_n 0, 1) := by decide +kernel
theorem dX6_readInto_43 : decode cX6_readInto 43 = .ok (.aload_n 1, 1) := by decide +kernel
theorem dX6_readInto_44 : decode cX6_readInto 44 = .ok (.invokevirtual 35, 3) := by decide +kernel
theorem dX6_readInto_47 : decode cX6_readInto 47 = .ok (.istore_n 2, 1) := by decide +kernel
theorem dX6_readInto_48 : decode cX6_readInto 48 = .ok (.iinc 3 1, 3) := by decide +kernel
theorem dX6_readInto_51 : decode cX6_readInto 51 = .ok (.goto (-34), 3) := by decide +kernel
theorem dX6_readInto_54 : decode cX6_readInto 54 = .ok (.aload_n 1, 1) := by decide +kernel
theorem dX6_readInto_55 : decode cX6_readInto 55 = .ok (.getfield 38, 3) := by decide +kernel
theorem dX6_readInto_58 : decode cX6_readInto 58 = .ok (.iconst 3, 1) := by decide +kernel
theorem dX6_readInto_59 : decode cX6_readInto 59 = .ok (.aload_n 1, 1) := by decide +kernel
theorem dX6_readInto_60 : decode cX6_readInto 60 = .ok (.invokevirtual 41, 3) := by decide +kernel
theorem dX6_readInto_63 : decode cX6_readInto 63 = .ok (.iastore, 1) := by decide +kernel
theorem dX6_readInto_64 : decode cX6_readInto 64 = .ok (.iload_n 2, 1) := by decide +kernel
theorem dX6_readInto_65 : decode cX6_readInto 65 = .ok (.ireturn, 1) := by decide +kernel
theorem dX6_readLaw_0 : decode cX6_readLaw 0 = .ok (.aload_n 0, 1) := by decide +kernel
theorem dX6_readLaw_1 : decode cX6_readLaw 1 = .ok (.bipush 109, 2) := by decide +kernel
theorem dX6_readLaw_3 : decode cX6_readLaw 3 = .ok (.invokevirtual 45, 3) := by decide +kernel
theorem dX6_readLaw_6 : decode cX6_readLaw 6 = .ok (.ifCond .ne 5, 3) := by decide +kernel
theorem dX6_readLaw_9 : decode cX6_readLaw 9 = .ok (.iconst 0, 1) := by decide +kernel
theorem dX6_readLaw_10 : decode cX6_readLaw 10 = .ok (.ireturn, 1) := by decide +kernel
theorem dX6_readLaw_11 : decode cX6_readLaw 11 = .ok (.aload_n 0, 1) := by decide +kernel
theorem dX6_readLaw_12 : decode cX6_readLaw 12 = .ok (.iconst 2, 1) := by decide +kernel
theorem dX6_readLaw_13 : decode cX6_readLaw 13 = .ok (.bipush 6, 2) := by decide +kernel
theorem dX6_readLaw_15 : decode cX6_readLaw 15 = .ok (.iconst (-1), 1) := by decide +kernel
theorem dX6_readLaw_16 : decode cX6_readLaw 16 = .ok (.invokevirtual 49, 3) := by decide +kernel
theorem dX6_readLaw_19 : decode cX6_readLaw 19 = .ok (.istore_n 2, 1) := by decide +kernel
theorem dX6_readLaw_20 : decode cX6_readLaw 20 = .ok (.iload_n 2, 1) := by decide +kernel
theorem dX6_readLaw_21 : decode cX6_readLaw 21 = .ok (.iconst (-1), 1) := by decide +kernel
theorem dX6_readLaw_22 : decode cX6_readLaw 22 = .ok (.if_icmp .eq 12, 3) := by decide +kernel
theorem dX6_readLaw_25 : decode cX6_readLaw 25 = .ok (.aload_n 0, 1) := by decide +kernel
theorem dX6_readLaw_26 : decode cX6_readLaw 26 = .ok (.bipush 44, 2) := by decide +kernel
theorem dX6_readLaw_28 : decode cX6_readLaw 28 = .ok (.invokevirtual 45, 3) := by decide +kernel
theorem dX6_readLaw_31 : decode cX6_readLaw 31 = .ok (.ifCond .ne 5, 3) := by decide +kernel
theorem dX6_readLaw_34 : decode cX6_readLaw 34 = .ok (.iconst 0, 1) := by decide +kernel
theorem dX6_readLaw_35 : decode cX6_readLaw 35 = .ok (.ireturn, 1) := by decide +kernel
theorem dX6_readLaw_36 : decode cX6_readLaw 36 = .ok (.aload_n 0, 1) := by decide +kernel
theorem dX6_readLaw_37 : decode cX6_readLaw 37 = .ok (.iconst 0, 1) := by decide +kernel
theorem dX6_readLaw_38 : decode cX6_readLaw 38 = .ok (.bipush 9, 2) := by decide +kernel
theorem dX6_readLaw_40 : decode cX6_readLaw 40 = .ok (.iconst (-1), 1) := by decide +kernel
theorem dX6_readLaw_41 : decode cX6_readLaw 41 = .ok (.invokevirtual 49, 3) := by decide +kernel
theorem dX6_readLaw_44 : decode cX6_readLaw 44 = .ok (.istore_n 3, 1) := by decide +kernel
theorem dX6_readLaw_45 : decode cX6_readLaw 45 = .ok (.iload_n 3, 1) := by decide +kernel
theorem dX6_readLaw_46 : decode cX6_readLaw 46 = .ok (.iconst (-1), 1) := by decide +kernel
theorem dX6_readLaw_47 : decode cX6_readLaw 47 = .ok (.if_icmp .eq 12, 3) := by decide +kernel
theorem dX6_readLaw_50 : decode cX6_readLaw 50 = .ok (.aload_n 0, 1) := by decide +kernel
theorem dX6_readLaw_51 : decode cX6_readLaw 51 = .ok (.bipush 59, 2) := by decide +kernel
theorem dX6_readLaw_53 : decode cX6_readLaw 53 = .ok (.invokevirtual 45, 3) := by decide +kernel
theorem dX6_readLaw_56 : decode cX6_readLaw 56 = .ok (.ifCond .ne 5, 3) := by decide +kernel
theorem dX6_readLaw_59 : decode cX6_readLaw 59 = .ok (.iconst 0, 1) := by decide +kernel
theorem dX6_readLaw_60 : decode cX6_readLaw 60 = .ok (.ireturn, 1) := by decide +kernel
theorem dX6_readLaw_61 : decode cX6_readLaw 61 = .ok (.aload_n 1, 1) := by decide +kernel
theorem dX6_readLaw_62 : decode cX6_readLaw 62 = .ok (.getfield 38, 3) := by decide +kernel
theorem dX6_readLaw_65 : decode cX6_readLaw 65 = .ok (.iconst 0, 1) := by decide +kernel
theorem dX6_readLaw_66 : decode cX6_readLaw 66 = .ok (.iload_n 2, 1) := by decide +kernel
theorem dX6_readLaw_67 : decode cX6_readLaw 67 = .ok (.iastore, 1) := by decide +kernel
theorem dX6_readLaw_68 : decode cX6_readLaw 68 = .ok (.aload_n 1, 1) := by decide +kernel
theorem dX6_readLaw_69 : decode cX6_readLaw 69 = .ok (.getfield 38, 3) := by decide +kernel
theorem dX6_readLaw_72 : decode cX6_readLaw 72 = .ok (.iconst 1, 1) := by decide +kernel
theorem dX6_readLaw_73 : decode cX6_readLaw 73 = .ok (.iload_n 3, 1) := by decide +kernel
theorem dX6_readLaw_74 : decode cX6_readLaw 74 = .ok (.iastore, 1) := by decide +kernel
theorem dX6_readLaw_75 : decode cX6_readLaw 75 = .ok (.iconst 1, 1) := by decide +kernel
theorem dX6_readLaw_76 : decode cX6_readLaw 76 = .ok (.ireturn, 1) := by decide +kernel
theorem dX6_readPipe_0 : decode cX6_readPipe 0 = .ok (.aload_n 1, 1) := by decide +kernel
theorem dX6_readPipe_1 : decode cX6_readPipe 1 = .ok (.getfield 38, 3) := by decide +kernel
theorem dX6_readPipe_4 : decode cX6_readPipe 4 = .ok (.iconst 2, 1) := by decide +kernel
theorem dX6_readPipe_5 : decode cX6_readPipe 5 = .ok (.iaload, 1) := by decide +kernel
theorem dX6_readPipe_6 : decode cX6_readPipe 6 = .ok (.istore_n 2, 1) := by decide +kernel
theorem dX6_readPipe_7 : decode cX6_readPipe 7 = .ok (.aload_n 0, 1) := by decide +kernel
theorem dX6_readPipe_8 : decode cX6_readPipe 8 = .ok (.getfield 23, 3) := by decide +kernel
theorem dX6_readPipe_11 : decode cX6_readPipe 11 = .ok (.aload_n 0, 1) := by decide +kernel
theorem dX6_readPipe_12 : decode cX6_readPipe 12 = .ok (.getfield 13, 3) := by decide +kernel
theorem dX6_readPipe_15 : decode cX6_readPipe 15 = .ok (.if_icmp .ge 18, 3) := by decide +kernel
theorem dX6_readPipe_18 : decode cX6_readPipe 18 = .ok (.aload_n 0, 1) := by decide +kernel
theorem dX6_readPipe_19 : decode cX6_readPipe 19 = .ok (.getfield 9, 3) := by decide +kernel
theorem dX6_readPipe_22 : decode cX6_readPipe 22 = .ok (.aload_n 0, 1) := by decide +kernel
theorem dX6_readPipe_23 : decode cX6_readPipe 23 = .ok (.getfield 23, 3) := by decide +kernel
theorem dX6_readPipe_26 : decode cX6_readPipe 26 = .ok (.iaload, 1) := by decide +kernel
theorem dX6_readPipe_27 : decode cX6_readPipe 27 = .ok (.invokestatic 53, 3) := by decide +kernel
theorem dX6_readPipe_30 : decode cX6_readPipe 30 = .ok (.goto 4, 3) := by decide +kernel
theorem dX6_readPipe_33 : decode cX6_readPipe 33 = .ok (.iconst 0, 1) := by decide +kernel
theorem dX6_readPipe_34 : decode cX6_readPipe 34 = .ok (.istore_n 3, 1) := by decide +kernel
theorem dX6_readPipe_35 : decode cX6_readPipe 35 = .ok (.iload_n 3, 1) := by decide +kernel
theorem dX6_readPipe_36 : decode cX6_readPipe 36 = .ok (.ifCond .ne 13, 3) := by decide +kernel
theorem dX6_readPipe_39 : decode cX6_readPipe 39 = .ok (.aload_n 0, 1) := by decide +kernel
theorem dX6_readPipe_40 : decode cX6_readPipe 40 = .ok (.iconst 1, 1) := by decide +kernel
theorem dX6_readPipe_41 : decode cX6_readPipe 41 = .ok (.aload_n 0, 1) := by decide +kernel
theorem dX6_readPipe_42 : decode cX6_readPipe 42 = .ok (.getfield 23, 3) := by decide +kernel
theorem dX6_readPipe_45 : decode cX6_readPipe 45 = .ok (.invokevirtual 59, 3) := by decide +kernel
theorem dX6_readPipe_48 : decode cX6_readPipe 48 = .ok (.ireturn, 1) := by decide +kernel
theorem dX6_readPipe_49 : decode cX6_readPipe 49 = .ok (.iload_n 2, 1) := by decide +kernel
theorem dX6_readPipe_50 : decode cX6_readPipe 50 = .ok (.bipush 7, 2) := by decide +kernel
theorem dX6_readPipe_52 : decode cX6_readPipe 52 = .ok (.if_icmp .lt 13, 3) := by decide +kernel
theorem dX6_readPipe_55 : decode cX6_readPipe 55 = .ok (.aload_n 0, 1) := by decide +kernel
theorem dX6_readPipe_56 : decode cX6_readPipe 56 = .ok (.iconst 3, 1) := by decide +kernel
theorem dX6_readPipe_57 : decode cX6_readPipe 57 = .ok (.aload_n 0, 1) := by decide +kernel
theorem dX6_readPipe_58 : decode cX6_readPipe 58 = .ok (.getfield 23, 3) := by decide +kernel
theorem dX6_readPipe_61 : decode cX6_readPipe 61 = .ok (.invokevirtual 59, 3) := by decide +kernel
theorem dX6_readPipe_64 : decode cX6_readPipe 64 = .ok (.ireturn, 1) := by decide +kernel
theorem dX6_readPipe_65 : decode cX6_readPipe 65 = .ok (.aload_n 0, 1) := by decide +kernel
theorem dX6_readPipe_66 : decode cX6_readPipe 66 = .ok (.dup, 1) := by decide +kernel
theorem dX6_readPipe_67 : decode cX6_readPipe 67 = .ok (.getfield 23, 3) := by decide +kernel
theorem dX6_readPipe_70 : decode cX6_readPipe 70 = .ok (.iconst 1, 1) := by decide +kernel
theorem dX6_readPipe_71 : decode cX6_readPipe 71 = .ok (.iadd, 1) := by decide +kernel
theorem dX6_readPipe_72 : decode cX6_readPipe 72 = .ok (.putfield 23, 3) := by decide +kernel
theorem dX6_readPipe_75 : decode cX6_readPipe 75 = .ok (.aload_n 1, 1) := by decide +kernel
theorem dX6_readPipe_76 : decode cX6_readPipe 76 = .ok (.getfield 38, 3) := by decide +kernel
theorem dX6_readPipe_79 : decode cX6_readPipe 79 = .ok (.iconst 0, 1) := by decide +kernel
theorem dX6_readPipe_80 : decode cX6_readPipe 80 = .ok (.iaload, 1) := by decide +kernel
theorem dX6_readPipe_81 : decode cX6_readPipe 81 = .ok (.iconst 1, 1) := by decide +kernel
theorem dX6_readPipe_82 : decode cX6_readPipe 82 = .ok (.isub, 1) := by decide +kernel
theorem dX6_readPipe_83 : decode cX6_readPipe 83 = .ok (.istore 4, 2) := by decide +kernel
theorem dX6_readPipe_85 : decode cX6_readPipe 85 = .ok (.aload_n 0, 1) := by decide +kernel
theorem dX6_readPipe_86 : decode cX6_readPipe 86 = .ok (.iconst 0, 1) := by decide +kernel
theorem dX6_readPipe_87 : decode cX6_readPipe 87 = .ok (.iload 4, 2) := by decide +kernel
theorem dX6_readPipe_89 : decode cX6_readPipe 89 = .ok (.iconst (-1), 1) := by decide +kernel
theorem dX6_readPipe_90 : decode cX6_readPipe 90 = .ok (.invokevirtual 49, 3) := by decide +kernel
theorem dX6_readPipe_93 : decode cX6_readPipe 93 = .ok (.istore 5, 2) := by decide +kernel
theorem dX6_readPipe_95 : decode cX6_readPipe 95 = .ok (.iload 5, 2) := by decide +kernel
theorem dX6_readPipe_97 : decode cX6_readPipe 97 = .ok (.iconst (-1), 1) := by decide +kernel
theorem dX6_readPipe_98 : decode cX6_readPipe 98 = .ok (.if_icmp .eq 12, 3) := by decide +kernel
theorem dX6_readPipe_101 : decode cX6_readPipe 101 = .ok (.aload_n 0, 1) := by decide +kernel
theorem dX6_readPipe_102 : decode cX6_readPipe 102 = .ok (.bipush 44, 2) := by decide +kernel
theorem dX6_readPipe_104 : decode cX6_readPipe 104 = .ok (.invokevirtual 45, 3) := by decide +kernel
theorem dX6_readPipe_107 : decode cX6_readPipe 107 = .ok (.ifCond .ne 5, 3) := by decide +kernel
theorem dX6_readPipe_110 : decode cX6_readPipe 110 = .ok (.iconst 0, 1) := by decide +kernel
theorem dX6_readPipe_111 : decode cX6_readPipe 111 = .ok (.ireturn, 1) := by decide +kernel
theorem dX6_readPipe_112 : decode cX6_readPipe 112 = .ok (.aload_n 0, 1) := by decide +kernel
theorem dX6_readPipe_113 : decode cX6_readPipe 113 = .ok (.iconst 0, 1) := by decide +kernel
theorem dX6_readPipe_114 : decode cX6_readPipe 114 = .ok (.iload 4, 2) := by decide +kernel
theorem dX6_readPipe_116 : decode cX6_readPipe 116 = .ok (.iload 5, 2) := by decide +kernel
theorem dX6_readPipe_118 : decode cX6_readPipe 118 = .ok (.invokevirtual 49, 3) := by decide +kernel
theorem dX6_readPipe_121 : decode cX6_readPipe 121 = .ok (.istore 6, 2) := by decide +kernel
theorem dX6_readPipe_123 : decode cX6_readPipe 123 = .ok (.iload 6, 2) := by decide +kernel
theorem dX6_readPipe_125 : decode cX6_readPipe 125 = .ok (.iconst (-1), 1) := by decide +kernel
theorem dX6_readPipe_126 : decode cX6_readPipe 126 = .ok (.if_icmp .eq 12, 3) := by decide +kernel
theorem dX6_readPipe_129 : decode cX6_readPipe 129 = .ok (.aload_n 0, 1) := by decide +kernel
theorem dX6_readPipe_130 : decode cX6_readPipe 130 = .ok (.bipush 44, 2) := by decide +kernel
theorem dX6_readPipe_132 : decode cX6_readPipe 132 = .ok (.invokevirtual 45, 3) := by decide +kernel
theorem dX6_readPipe_135 : decode cX6_readPipe 135 = .ok (.ifCond .ne 5, 3) := by decide +kernel
theorem dX6_readPipe_138 : decode cX6_readPipe 138 = .ok (.iconst 0, 1) := by decide +kernel
theorem dX6_readPipe_139 : decode cX6_readPipe 139 = .ok (.ireturn, 1) := by decide +kernel
theorem dX6_readPipe_140 : decode cX6_readPipe 140 = .ok (.aload_n 0, 1) := by decide +kernel
theorem dX6_readPipe_141 : decode cX6_readPipe 141 = .ok (.iconst 1, 1) := by decide +kernel
theorem dX6_readPipe_142 : decode cX6_readPipe 142 = .ok (.iconst 4, 1) := by decide +kernel
theorem dX6_readPipe_143 : decode cX6_readPipe 143 = .ok (.iconst (-1), 1) := by decide +kernel
theorem dX6_readPipe_144 : decode cX6_readPipe 144 = .ok (.invokevirtual 49, 3) := by decide +kernel
theorem dX6_readPipe_147 : decode cX6_readPipe 147 = .ok (.istore 7, 2) := by decide +kernel
theorem dX6_readPipe_149 : decode cX6_readPipe 149 = .ok (.iload 7, 2) := by decide +kernel
theorem dX6_readPipe_151 : decode cX6_readPipe 151 = .ok (.iconst (-1), 1) := by decide +kernel
theorem dX6_readPipe_152 : decode cX6_readPipe 152 = .ok (.if_icmp .eq 12, 3) := by decide +kernel
theorem dX6_readPipe_155 : decode cX6_readPipe 155 = .ok (.aload_n 0, 1) := by decide +kernel
theorem dX6_readPipe_156 : decode cX6_readPipe 156 = .ok (.bipush 44, 2) := by decide +kernel
theorem dX6_readPipe_158 : decode cX6_readPipe 158 = .ok (.invokevirtual 45, 3) := by decide +kernel
theorem dX6_readPipe_161 : decode cX6_readPipe 161 = .ok (.ifCond .ne 5, 3) := by decide +kernel
theorem dX6_readPipe_164 : decode cX6_readPipe 164 = .ok (.iconst 0, 1) := by decide +kernel
theorem dX6_readPipe_165 : decode cX6_readPipe 165 = .ok (.ireturn, 1) := by decide +kernel
theorem dX6_readPipe_166 : decode cX6_readPipe 166 = .ok (.aload_n 0, 1) := by decide +kernel
theorem dX6_readPipe_167 : decode cX6_readPipe 167 = .ok (.iconst 0, 1) := by decide +kernel
theorem dX6_readPipe_168 : decode cX6_readPipe 168 = .ok (.bipush 9, 2) := by decide +kernel
theorem dX6_readPipe_170 : decode cX6_readPipe 170 = .ok (.iconst (-1), 1) := by decide +kernel
theorem dX6_readPipe_171 : decode cX6_readPipe 171 = .ok (.invokevirtual 49, 3) := by decide +kernel

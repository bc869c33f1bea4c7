theorem dL_acts_0 : decode cL_acts 0 = .ok (.iload 8, 2) := by decide +kernel
theorem dL_acts_2 : decode cL_acts 2 = .ok (.iconst 5, 1) := by decide +kernel
theorem dL_acts_3 : decode cL_acts 3 = .ok (.ishr, 1) := by decide +kernel
theorem dL_acts_4 : decode cL_acts 4 = .ok (.ldc 92, 2) := by decide +kernel
theorem dL_acts_6 : decode cL_acts 6 = .ok (.invokestatic 93, 3) := by decide +kernel
theorem dL_acts_9 : decode cL_acts 9 = .ok (.istore 9, 2) := by decide +kernel
theorem dL_acts_11 : decode cL_acts 11 = .ok (.iload 8, 2) := by decide +kernel
theorem dL_acts_13 : decode cL_acts 13 = .ok (.bipush 32, 2) := by decide +kernel
theorem dL_acts_15 : decode cL_acts 15 = .ok (.invokestatic 93, 3) := by decide +kernel
theorem dL_acts_18 : decode cL_acts 18 = .ok (.istore 10, 2) := by decide +kernel
theorem dL_acts_20 : decode cL_acts 20 = .ok (.iload 10, 2) := by decide +kernel
theorem dL_acts_22 : decode cL_acts 22 = .ok (.bipush 20, 2) := by decide +kernel
theorem dL_acts_24 : decode cL_acts 24 = .ok (.if_icmp .ge 55, 3) := by decide +kernel
theorem dL_acts_27 : decode cL_acts 27 = .ok (.aload_n 0, 1) := by decide +kernel
theorem dL_acts_28 : decode cL_acts 28 = .ok (.aload_n 1, 1) := by decide +kernel
theorem dL_acts_29 : decode cL_acts 29 = .ok (.aload_n 2, 1) := by decide +kernel
theorem dL_acts_30 : decode cL_acts 30 = .ok (.aload_n 3, 1) := by decide +kernel
theorem dL_acts_31 : decode cL_acts 31 = .ok (.aload 4, 2) := by decide +kernel
theorem dL_acts_33 : decode cL_acts 33 = .ok (.aload 5, 2) := by decide +kernel
theorem dL_acts_35 : decode cL_acts 35 = .ok (.aload 6, 2) := by decide +kernel
theorem dL_acts_37 : decode cL_acts 37 = .ok (.aload 7, 2) := by decide +kernel
theorem dL_acts_39 : decode cL_acts 39 = .ok (.iload 10, 2) := by decide +kernel
theorem dL_acts_41 : decode cL_acts 41 = .ok (.bipush 8, 2) := by decide +kernel
theorem dL_acts_43 : decode cL_acts 43 = .ok (.if_icmp .ge 7, 3) := by decide +kernel
theorem dL_acts_46 : decode cL_acts 46 = .ok (.iconst 0, 1) := by decide +kernel
theorem dL_acts_47 : decode cL_acts 47 = .ok (.goto 26, 3) := by decide +kernel
theorem dL_acts_50 : decode cL_acts 50 = .ok (.iload 10, 2) := by decide +kernel
theorem dL_acts_52 : decode cL_acts 52 = .ok (.bipush 12, 2) := by decide +kernel
theorem dL_acts_54 : decode cL_acts 54 = .ok (.if_icmp .ge 7, 3) := by decide +kernel
theorem dL_acts_57 : decode cL_acts 57 = .ok (.iconst 1, 1) := by decide +kernel
theorem dL_acts_58 : decode cL_acts 58 = .ok (.goto 15, 3) := by decide +kernel
theorem dL_acts_61 : decode cL_acts 61 = .ok (.iload 10, 2) := by decide +kernel
theorem dL_acts_63 : decode cL_acts 63 = .ok (.bipush 16, 2) := by decide +kernel
theorem dL_acts_65 : decode cL_acts 65 = .ok (.if_icmp .ge 7, 3) := by decide +kernel
theorem dL_acts_68 : decode cL_acts 68 = .ok (.iconst 2, 1) := by decide +kernel
theorem dL_acts_69 : decode cL_acts 69 = .ok (.goto 4, 3) := by decide +kernel
theorem dL_acts_72 : decode cL_acts 72 = .ok (.iconst 3, 1) := by decide +kernel
theorem dL_acts_73 : decode cL_acts 73 = .ok (.iload 9, 2) := by decide +kernel
theorem dL_acts_75 : decode cL_acts 75 = .ok (.invokestatic 96, 3) := by decide +kernel
theorem dL_acts_78 : decode cL_acts 78 = .ok (.ireturn, 1) := by decide +kernel
theorem dL_acts_79 : decode cL_acts 79 = .ok (.iload 10, 2) := by decide +kernel
theorem dL_acts_81 : decode cL_acts 81 = .ok (.bipush 26, 2) := by decide +kernel
theorem dL_acts_83 : decode cL_acts 83 = .ok (.if_icmp .ge 38, 3) := by decide +kernel
theorem dL_acts_86 : decode cL_acts 86 = .ok (.aload_n 0, 1) := by decide +kernel
theorem dL_acts_87 : decode cL_acts 87 = .ok (.aload_n 1, 1) := by decide +kernel
theorem dL_acts_88 : decode cL_acts 88 = .ok (.aload_n 2, 1) := by decide +kernel
theorem dL_acts_89 : decode cL_acts 89 = .ok (.aload_n 3, 1) := by decide +kernel
theorem dL_acts_90 : decode cL_acts 90 = .ok (.aload 4, 2) := by decide +kernel
theorem dL_acts_92 : decode cL_acts 92 = .ok (.iload 10, 2) := by decide +kernel
theorem dL_acts_94 : decode cL_acts 94 = .ok (.bipush 23, 2) := by decide +kernel
theorem dL_acts_96 : decode cL_acts 96 = .ok (.if_icmp .ge 7, 3) := by decide +kernel
theorem dL_acts_99 : decode cL_acts 99 = .ok (.iconst 0, 1) := by decide +kernel
theorem dL_acts_100 : decode cL_acts 100 = .ok (.goto 15, 3) := by decide +kernel
theorem dL_acts_103 : decode cL_acts 103 = .ok (.iload 10, 2) := by decide +kernel
theorem dL_acts_105 : decode cL_acts 105 = .ok (.bipush 23, 2) := by decide +kernel
theorem dL_acts_107 : decode cL_acts 107 = .ok (.if_icmp .ne 7, 3) := by decide +kernel
theorem dL_acts_110 : decode cL_acts 110 = .ok (.iconst 1, 1) := by decide +kernel
theorem dL_acts_111 : decode cL_acts 111 = .ok (.goto 4, 3) := by decide +kernel
theorem dL_acts_114 : decode cL_acts 114 = .ok (.iconst 2, 1) := by decide +kernel
theorem dL_acts_115 : decode cL_acts 115 = .ok (.iload 9, 2) := by decide +kernel
theorem dL_acts_117 : decode cL_acts 117 = .ok (.invokestatic 100, 3) := by decide +kernel
theorem dL_acts_120 : decode cL_acts 120 = .ok (.ireturn, 1) := by decide +kernel
theorem dL_acts_121 : decode cL_acts 121 = .ok (.iload 10, 2) := by decide +kernel
theorem dL_acts_123 : decode cL_acts 123 = .ok (.bipush 30, 2) := by decide +kernel
theorem dL_acts_125 : decode cL_acts 125 = .ok (.if_icmp .ge 80, 3) := by decide +kernel
theorem dL_acts_128 : decode cL_acts 128 = .ok (.iload 9, 2) := by decide +kernel
theorem dL_acts_130 : decode cL_acts 130 = .ok (.aload_n 1, 1) := by decide +kernel
theorem dL_acts_131 : decode cL_acts 131 = .ok (.iconst 0, 1) := by decide +kernel
theorem dL_acts_132 : decode cL_acts 132 = .ok (.iaload, 1) := by decide +kernel
theorem dL_acts_133 : decode cL_acts 133 = .ok (.irem, 1) := by decide +kernel
theorem dL_acts_134 : decode cL_acts 134 = .ok (.istore 11, 2) := by decide +kernel
theorem dL_acts_136 : decode cL_acts 136 = .ok (.aload_n 3, 1) := by decide +kernel
theorem dL_acts_137 : decode cL_acts 137 = .ok (.iload 11, 2) := by decide +kernel
theorem dL_acts_139 : decode cL_acts 139 = .ok (.iaload, 1) := by decide +kernel
theorem dL_acts_140 : decode cL_acts 140 = .ok (.istore 12, 2) := by decide +kernel
theorem dL_acts_142 : decode cL_acts 142 = .ok (.iload 12, 2) := by decide +kernel
theorem dL_acts_144 : decode cL_acts 144 = .ok (.ifCond .eq 12, 3) := by decide +kernel
theorem dL_acts_147 : decode cL_acts 147 = .ok (.aload_n 2, 1) := by decide +kernel
theorem dL_acts_148 : decode cL_acts 148 = .ok (.iload 12, 2) := by decide +kernel
theorem dL_acts_150 : decode cL_acts 150 = .ok (.invokestatic 104, 3) := by decide +kernel
theorem dL_acts_153 : decode cL_acts 153 = .ok (.ifCond .eq 20, 3) := by decide +kernel
theorem dL_acts_156 : decode cL_acts 156 = .ok (.aload_n 0, 1) := by decide +kernel
theorem dL_acts_157 : decode cL_acts 157 = .ok (.iload 12, 2) := by decide +kernel
theorem dL_acts_159 : decode cL_acts 159 = .ok (.invokevirtual 108, 3) := by decide +kernel
theorem dL_acts_162 : decode cL_acts 162 = .ok (.ldc 91, 2) := by decide +kernel
theorem dL_acts_164 : decode cL_acts 164 = .ok (.if_icmp .ne 7, 3) := by decide +kernel
theorem dL_acts_167 : decode cL_acts 167 = .ok (.iconst 1, 1) := by decide +kernel
theorem dL_acts_168 : decode cL_acts 168 = .ok (.goto 4, 3) := by decide +kernel
theorem dL_acts_171 : decode cL_acts 171 = .ok (.iconst 0, 1) := by decide +kernel
theorem dL_acts_172 : decode cL_acts 172 = .ok (.ireturn, 1) := by decide +kernel
theorem dL_acts_173 : decode cL_acts 173 = .ok (.aload_n 1, 1) := by decide +kernel
theorem dL_acts_174 : decode cL_acts 174 = .ok (.aload_n 3, 1) := by decide +kernel
theorem dL_acts_175 : decode cL_acts 175 = .ok (.aload 4, 2) := by decide +kernel
theorem dL_acts_177 : decode cL_acts 177 = .ok (.aload 5, 2) := by decide +kernel
theorem dL_acts_179 : decode cL_acts 179 = .ok (.aload 7, 2) := by decide +kernel
theorem dL_acts_181 : decode cL_acts 181 = .ok (.iload 11, 2) := by decide +kernel
theorem dL_acts_183 : decode cL_acts 183 = .ok (.invokestatic 111, 3) := by decide +kernel
theorem dL_acts_186 : decode cL_acts 186 = .ok (.istore 13, 2) := by decide +kernel
theorem dL_acts_188 : decode cL_acts 188 = .ok (.aload_n 0, 1) := by decide +kernel
theorem dL_acts_189 : decode cL_acts 189 = .ok (.iload 12, 2) := by decide +kernel
theorem dL_acts_191 : decode cL_acts 191 = .ok (.invokevirtual 108, 3) := by decide +kernel
theorem dL_acts_194 : decode cL_acts 194 = .ok (.iload 13, 2) := by decide +kernel
theorem dL_acts_196 : decode cL_acts 196 = .ok (.if_icmp .ne 7, 3) := by decide +kernel
theorem dL_acts_199 : decode cL_acts 199 = .ok (.iconst 1, 1) := by decide +kernel
theorem dL_acts_200 : decode cL_acts 200 = .ok (.goto 4, 3) := by decide +kernel
theorem dL_acts_203 : decode cL_acts 203 = .ok (.iconst 0, 1) := by decide +kernel
theorem dL_acts_204 : decode cL_acts 204 = .ok (.ireturn, 1) := by decide +kernel
theorem dL_acts_205 : decode cL_acts 205 = .ok (.iload 10, 2) := by decide +kernel
theorem dL_acts_207 : decode cL_acts 207 = .ok (.bipush 30, 2) := by decide +kernel
theorem dL_acts_209 : decode cL_acts 209 = .ok (.if_icmp .ne 30, 3) := by decide +kernel
theorem dL_acts_212 : decode cL_acts 212 = .ok (.aload_n 1, 1) := by decide +kernel
theorem dL_acts_213 : decode cL_acts 213 = .ok (.aload 5, 2) := by decide +kernel
theorem dL_acts_215 : decode cL_acts 215 = .ok (.aload 6, 2) := by decide +kernel
theorem dL_acts_217 : decode cL_acts 217 = .ok (.aload 7, 2) := by decide +kernel
theorem dL_acts_219 : decode cL_acts 219 = .ok (.invokestatic 114, 3) := by decide +kernel
theorem dL_acts_222 : decode cL_acts 222 = .ok (.istore 11, 2) := by decide +kernel
theorem dL_acts_224 : decode cL_acts 224 = .ok (.aload_n 0, 1) := by decide +kernel
theorem dL_acts_225 : decode cL_acts 225 = .ok (.invokevirtual 118, 3) := by decide +kernel
theorem dL_acts_228 : decode cL_acts 228 = .ok (.iload 11, 2) := by decide +kernel
theorem dL_acts_230 : decode cL_acts 230 = .ok (.if_icmp .ne 7, 3) := by decide +kernel
theorem dL_acts_233 : decode cL_acts 233 = .ok (.iconst 1, 1) := by decide +kernel
theorem dL_acts_234 : decode cL_acts 234 = .ok (.goto 4, 3) := by decide +kernel
theorem dL_acts_237 : decode cL_acts 237 = .ok (.iconst 0, 1) := by decide +kernel
theorem dL_acts_238 : decode cL_acts 238 = .ok (.ireturn, 1) := by decide +kernel
theorem dL_acts_239 : decode cL_acts 239 = .ok (.aload_n 1, 1) := by decide +kernel
theorem dL_acts_240 : decode cL_acts 240 = .ok (.iconst 5, 1) := by decide +kernel
theorem dL_acts_241 : decode cL_acts 241 = .ok (.iaload, 1) := by decide +kernel
theorem dL_acts_242 : decode cL_acts 242 = .ok (.istore 11, 2) := by decide +kernel
theorem dL_acts_244 : decode cL_acts 244 = .ok (.aload_n 1, 1) := by decide +kernel
theorem dL_acts_245 : decode cL_acts 245 = .ok (.iconst 5, 1) := by decide +kernel
theorem dL_acts_246 : decode cL_acts 246 = .ok (.iload 9, 2) := by decide +kernel
theorem dL_acts_248 : decode cL_acts 248 = .ok (.iconst 2, 1) := by decide +kernel
theorem dL_acts_249 : decode cL_acts 249 = .ok (.irem, 1) := by decide +kernel
theorem dL_acts_250 : decode cL_acts 250 = .ok (.iastore, 1) := by decide +kernel
theorem dL_acts_251 : decode cL_acts 251 = .ok (.aload_n 0, 1) := by decide +kernel
theorem dL_acts_252 : decode cL_acts 252 = .ok (.iconst 0, 1) := by decide +kernel
theorem dL_acts_253 : decode cL_acts 253 = .ok (.iload 9, 2) := by decide +kernel
theorem dL_acts_255 : decode cL_acts 255 = .ok (.iconst 2, 1) := by decide +kernel
theorem dL_acts_256 : decode cL_acts 256 = .ok (.irem, 1) := by decide +kernel
theorem dL_acts_257 : decode cL_acts 257 = .ok (.invokevirtual 121, 3) := by decide +kernel
theorem dL_acts_260 : decode cL_acts 260 = .ok (.iload 11, 2) := by decide +kernel
theorem dL_acts_262 : decode cL_acts 262 = .ok (.if_icmp .ne 7, 3) := by decide +kernel
theorem dL_acts_265 : decode cL_acts 265 = .ok (.iconst 1, 1) := by decide +kernel
theorem dL_acts_266 : decode cL_acts 266 = .ok (.goto 4, 3) := by decide +kernel
theorem dL_acts_269 : decode cL_acts 269 = .ok (.iconst 0, 1) := by decide +kernel
theorem dL_acts_270 : decode cL_acts 270 = .ok (.ireturn, 1) := by decide +kernel
set_option maxRecDepth 20000 in
theorem ggL_areBlocks_X5_blockOf : GoodIn wsL_areBlocks wsX5_blockOf := goodIn_r _ [7, 8, 9, 10, 11, 12, 13, 14, 15, 16, 17, 18, 19, 20, 21, 22, 6, 23, 24, 25, 26, 27, 28, 29, 30, 31, 32, 33, 34, 35, 36, 37, 38, 39, 40, 41, 42, 43, 44, 45, 46, 47, 48, 49, 50, 51, 52, 53, 54, 55, 56, 57, 58, 59, 60, 61, 62, 63, 115, 116, 117, 118, 119, 120, 121, 122, 123, 124, 125, 126, 127, 128, 129, 130, 131, 132, 133] (by decide +kernel) (by decide +kernel)
set_option maxRecDepth 20000 in
theorem gL_areBlocks_X5_blockOf : GoodIn wsL_areBlocks (wsV RL 124 RX5 yX5_blockOf wsX5_blockOf) := goodIn_app (goodIn_of _ (by decide +kernel)) ggL_areBlocks_X5_blockOf
set_option maxRecDepth 20000 in
theorem ggL_areBlocks_L_inBlock : GoodIn wsL_areBlocks wsL_inBlock := goodIn_r _ [67, 68] (by decide +kernel) (by decide +kernel)
set_option maxRecDepth 20000 in
theorem gL_areBlocks_L_inBlock : GoodIn wsL_areBlocks (va_wsS RL 19 yL_inBlock wsL_inBlock) := goodIn_app (goodIn_of _ (by decide +kernel)) ggL_areBlocks_L_inBlock
set_option maxRecDepth 20000 in
theorem ggL_areBlocks_L_like : GoodIn wsL_areBlocks wsL_like := goodIn_r _ [71] (by decide +kernel) (by decide +kernel)
set_option maxRecDepth 20000 in
theorem gL_areBlocks_L_like : GoodIn wsL_areBlocks (va_wsS RL 35 yL_like wsL_like) := goodIn_app (goodIn_of _ (by decide +kernel)) ggL_areBlocks_L_like
set_option maxRecDepth 20000 in
theorem ggL_areBlocks_L_uses : GoodIn wsL_areBlocks wsL_uses := goodIn_r _ [74, 75, 76, 66, 77, 78] (by decide +kernel) (by decide +kernel)
set_option maxRecDepth 20000 in
theorem gL_areBlocks_L_uses : GoodIn wsL_areBlocks (va_wsS RL 23 yL_uses wsL_uses) := goodIn_app (goodIn_of _ (by decide +kernel)) ggL_areBlocks_L_uses
set_option maxRecDepth 20000 in
theorem ggL_areBlocks_X5_count : GoodIn wsL_areBlocks wsX5_count := goodIn_r _ [82, 8, 11, 83, 9, 84, 85, 86, 87, 88, 89, 90, 91, 92, 10, 93, 94, 95, 96, 97, 98, 99, 100, 101, 15, 102, 103, 13, 14, 16, 17, 104, 105, 106, 107, 47, 108, 109, 110, 111, 56, 57, 58, 59, 115, 116, 117, 118, 119, 120, 121, 122, 123, 124, 129, 130, 131, 132, 133, 125, 126, 127, 128, 134, 135, 136, 137, 138, 139, 140, 141, 142, 143, 144] (by decide +kernel) (by decide +kernel)
set_option maxRecDepth 20000 in
theorem gL_areBlocks_X5_count : GoodIn wsL_areBlocks (wsV RL 128 RX5 yX5_count wsX5_count) := goodIn_app (goodIn_of _ (by decide +kernel)) ggL_areBlocks_X5_count
set_option maxRecDepth 20000 in
theorem ggL_areBlocks_L_blocks : GoodIn wsL_areBlocks wsL_blocks := goodIn_r _ [114] (by decide +kernel) (by decide +kernel)
set_option maxRecDepth 20000 in
theorem gL_areBlocks_L_blocks : GoodIn wsL_areBlocks (va_wsS RL 131 yL_blocks wsL_blocks) := goodIn_app (goodIn_of _ (by decide +kernel)) ggL_areBlocks_L_blocks
theorem dL_areBlocks_0 : decode cL_areBlocks 0 = .ok (.iconst 0, 1) := by decide +kernel
theorem dL_areBlocks_1 : decode cL_areBlocks 1 = .ok (.istore 5, 2) := by decide +kernel
theorem dL_areBlocks_3 : decode cL_areBlocks 3 = .ok (.aload_n 0, 1) := by decide +kernel
theorem dL_areBlocks_4 : decode cL_areBlocks 4 = .ok (.bipush 40, 2) := by decide +kernel
theorem dL_areBlocks_6 : decode cL_areBlocks 6 = .ok (.iconst 0, 1) := by decide +kernel
theorem dL_areBlocks_7 : decode cL_areBlocks 7 = .ok (.invokevirtual 124, 3) := by decide +kernel
theorem dL_areBlocks_10 : decode cL_areBlocks 10 = .ok (.ldc 84, 2) := by decide +kernel
theorem dL_areBlocks_12 : decode cL_areBlocks 12 = .ok (.if_icmp .ne 18, 3) := by decide +kernel
theorem dL_areBlocks_15 : decode cL_areBlocks 15 = .ok (.aload_n 0, 1) := by decide +kernel
theorem dL_areBlocks_16 : decode cL_areBlocks 16 = .ok (.iconst (-1), 1) := by decide +kernel
theorem dL_areBlocks_17 : decode cL_areBlocks 17 = .ok (.iconst 0, 1) := by decide +kernel
theorem dL_areBlocks_18 : decode cL_areBlocks 18 = .ok (.invokevirtual 124, 3) := by decide +kernel
theorem dL_areBlocks_21 : decode cL_areBlocks 21 = .ok (.ldc 84, 2) := by decide +kernel
theorem dL_areBlocks_23 : decode cL_areBlocks 23 = .ok (.if_icmp .ne 7, 3) := by decide +kernel
theorem dL_areBlocks_26 : decode cL_areBlocks 26 = .ok (.iconst 1, 1) := by decide +kernel
theorem dL_areBlocks_27 : decode cL_areBlocks 27 = .ok (.goto 4, 3) := by decide +kernel
theorem dL_areBlocks_30 : decode cL_areBlocks 30 = .ok (.iconst 0, 1) := by decide +kernel
theorem dL_areBlocks_31 : decode cL_areBlocks 31 = .ok (.istore 6, 2) := by decide +kernel
theorem dL_areBlocks_33 : decode cL_areBlocks 33 = .ok (.iconst 0, 1) := by decide +kernel
theorem dL_areBlocks_34 : decode cL_areBlocks 34 = .ok (.istore 7, 2) := by decide +kernel
theorem dL_areBlocks_36 : decode cL_areBlocks 36 = .ok (.iload 7, 2) := by decide +kernel
theorem dL_areBlocks_38 : decode cL_areBlocks 38 = .ok (.bipush 40, 2) := by decide +kernel
theorem dL_areBlocks_40 : decode cL_areBlocks 40 = .ok (.if_icmp .ge 258, 3) := by decide +kernel
theorem dL_areBlocks_43 : decode cL_areBlocks 43 = .ok (.iload 6, 2) := by decide +kernel
theorem dL_areBlocks_45 : decode cL_areBlocks 45 = .ok (.ifCond .eq 253, 3) := by decide +kernel
theorem dL_areBlocks_48 : decode cL_areBlocks 48 = .ok (.aload 4, 2) := by decide +kernel
theorem dL_areBlocks_50 : decode cL_areBlocks 50 = .ok (.iload 7, 2) := by decide +kernel
theorem dL_areBlocks_52 : decode cL_areBlocks 52 = .ok (.laload, 1) := by decide +kernel
theorem dL_areBlocks_53 : decode cL_areBlocks 53 = .ok (.lconst 0, 1) := by decide +kernel
theorem dL_areBlocks_54 : decode cL_areBlocks 54 = .ok (.lcmp, 1) := by decide +kernel
theorem dL_areBlocks_55 : decode cL_areBlocks 55 = .ok (.ifCond .ge 25, 3) := by decide +kernel
theorem dL_areBlocks_58 : decode cL_areBlocks 58 = .ok (.aload_n 0, 1) := by decide +kernel
theorem dL_areBlocks_59 : decode cL_areBlocks 59 = .ok (.iload 7, 2) := by decide +kernel
theorem dL_areBlocks_61 : decode cL_areBlocks 61 = .ok (.iconst 0, 1) := by decide +kernel
theorem dL_areBlocks_62 : decode cL_areBlocks 62 = .ok (.invokevirtual 124, 3) := by decide +kernel
theorem dL_areBlocks_65 : decode cL_areBlocks 65 = .ok (.ldc 84, 2) := by decide +kernel
theorem dL_areBlocks_67 : decode cL_areBlocks 67 = .ok (.if_icmp .ne 7, 3) := by decide +kernel
theorem dL_areBlocks_70 : decode cL_areBlocks 70 = .ok (.iconst 1, 1) := by decide +kernel
theorem dL_areBlocks_71 : decode cL_areBlocks 71 = .ok (.goto 4, 3) := by decide +kernel
theorem dL_areBlocks_74 : decode cL_areBlocks 74 = .ok (.iconst 0, 1) := by decide +kernel
theorem dL_areBlocks_75 : decode cL_areBlocks 75 = .ok (.istore 6, 2) := by decide +kernel
theorem dL_areBlocks_77 : decode cL_areBlocks 77 = .ok (.goto 215, 3) := by decide +kernel
theorem dL_areBlocks_80 : decode cL_areBlocks 80 = .ok (.iconst 0, 1) := by decide +kernel
theorem dL_areBlocks_81 : decode cL_areBlocks 81 = .ok (.istore 8, 2) := by decide +kernel
theorem dL_areBlocks_83 : decode cL_areBlocks 83 = .ok (.iconst 0, 1) := by decide +kernel
theorem dL_areBlocks_84 : decode cL_areBlocks 84 = .ok (.istore 9, 2) := by decide +kernel
theorem dL_areBlocks_86 : decode cL_areBlocks 86 = .ok (.iconst 0, 1) := by decide +kernel
theorem dL_areBlocks_87 : decode cL_areBlocks 87 = .ok (.istore 10, 2) := by decide +kernel
theorem dL_areBlocks_89 : decode cL_areBlocks 89 = .ok (.iload 10, 2) := by decide +kernel
theorem dL_areBlocks_91 : decode cL_areBlocks 91 = .ok (.bipush 8, 2) := by decide +kernel
theorem dL_areBlocks_93 : decode cL_areBlocks 93 = .ok (.if_icmp .ge 46, 3) := by decide +kernel
theorem dL_areBlocks_96 : decode cL_areBlocks 96 = .ok (.aload_n 3, 1) := by decide +kernel
theorem dL_areBlocks_97 : decode cL_areBlocks 97 = .ok (.aload 4, 2) := by decide +kernel
theorem dL_areBlocks_99 : decode cL_areBlocks 99 = .ok (.iload 7, 2) := by decide +kernel
theorem dL_areBlocks_101 : decode cL_areBlocks 101 = .ok (.iload 10, 2) := by decide +kernel
theorem dL_areBlocks_103 : decode cL_areBlocks 103 = .ok (.invokestatic 19, 3) := by decide +kernel
theorem dL_areBlocks_106 : decode cL_areBlocks 106 = .ok (.istore 11, 2) := by decide +kernel
theorem dL_areBlocks_108 : decode cL_areBlocks 108 = .ok (.iload 8, 2) := by decide +kernel
theorem dL_areBlocks_110 : decode cL_areBlocks 110 = .ok (.iload 11, 2) := by decide +kernel
theorem dL_areBlocks_112 : decode cL_areBlocks 112 = .ok (.iadd, 1) := by decide +kernel
theorem dL_areBlocks_113 : decode cL_areBlocks 113 = .ok (.istore 8, 2) := by decide +kernel
theorem dL_areBlocks_115 : decode cL_areBlocks 115 = .ok (.iload 9, 2) := by decide +kernel
theorem dL_areBlocks_117 : decode cL_areBlocks 117 = .ok (.iload 11, 2) := by decide +kernel
theorem dL_areBlocks_119 : decode cL_areBlocks 119 = .ok (.ifCond .le 10, 3) := by decide +kernel
theorem dL_areBlocks_122 : decode cL_areBlocks 122 = .ok (.iconst 1, 1) := by decide +kernel
theorem dL_areBlocks_123 : decode cL_areBlocks 123 = .ok (.iload 10, 2) := by decide +kernel
theorem dL_areBlocks_125 : decode cL_areBlocks 125 = .ok (.ishl, 1) := by decide +kernel
theorem dL_areBlocks_126 : decode cL_areBlocks 126 = .ok (.goto 4, 3) := by decide +kernel
theorem dL_areBlocks_129 : decode cL_areBlocks 129 = .ok (.iconst 0, 1) := by decide +kernel
theorem dL_areBlocks_130 : decode cL_areBlocks 130 = .ok (.ior, 1) := by decide +kernel
theorem dL_areBlocks_131 : decode cL_areBlocks 131 = .ok (.istore 9, 2) := by decide +kernel
theorem dL_areBlocks_133 : decode cL_areBlocks 133 = .ok (.iinc 10 1, 3) := by decide +kernel
theorem dL_areBlocks_136 : decode cL_areBlocks 136 = .ok (.goto (-47), 3) := by decide +kernel
theorem dL_areBlocks_139 : decode cL_areBlocks 139 = .ok (.aload_n 3, 1) := by decide +kernel
theorem dL_areBlocks_140 : decode cL_areBlocks 140 = .ok (.aload 4, 2) := by decide +kernel
theorem dL_areBlocks_142 : decode cL_areBlocks 142 = .ok (.aload_n 3, 1) := by decide +kernel
theorem dL_areBlocks_143 : decode cL_areBlocks 143 = .ok (.iload 7, 2) := by decide +kernel
theorem dL_areBlocks_145 : decode cL_areBlocks 145 = .ok (.laload, 1) := by decide +kernel
theorem dL_areBlocks_146 : decode cL_areBlocks 146 = .ok (.aload 4, 2) := by decide +kernel
theorem dL_areBlocks_148 : decode cL_areBlocks 148 = .ok (.iload 7, 2) := by decide +kernel
theorem dL_areBlocks_150 : decode cL_areBlocks 150 = .ok (.laload, 1) := by decide +kernel
theorem dL_areBlocks_151 : decode cL_areBlocks 151 = .ok (.iload 7, 2) := by decide +kernel
theorem dL_areBlocks_153 : decode cL_areBlocks 153 = .ok (.invokestatic 35, 3) := by decide +kernel
theorem dL_areBlocks_156 : decode cL_areBlocks 156 = .ok (.istore 10, 2) := by decide +kernel
theorem dL_areBlocks_158 : decode cL_areBlocks 158 = .ok (.iload 5, 2) := by decide +kernel
theorem dL_areBlocks_160 : decode cL_areBlocks 160 = .ok (.iload 10, 2) := by decide +kernel
theorem dL_areBlocks_162 : decode cL_areBlocks 162 = .ok (.ifCond .lt 14, 3) := by decide +kernel
theorem dL_areBlocks_165 : decode cL_areBlocks 165 = .ok (.iload 10, 2) := by decide +kernel
theorem dL_areBlocks_167 : decode cL_areBlocks 167 = .ok (.iload 7, 2) := by decide +kernel
theorem dL_areBlocks_169 : decode cL_areBlocks 169 = .ok (.if_icmp .ge 7, 3) := by decide +kernel
theorem dL_areBlocks_172 : decode cL_areBlocks 172 = .ok (.iconst 1, 1) := by decide +kernel
theorem dL_areBlocks_173 : decode cL_areBlocks 173 = .ok (.goto 4, 3) := by decide +kernel
theorem dL_areBlocks_176 : decode cL_areBlocks 176 = .ok (.iconst 0, 1) := by decide +kernel
theorem dL_areBlocks_177 : decode cL_areBlocks 177 = .ok (.iadd, 1) := by decide +kernel
theorem dL_areBlocks_178 : decode cL_areBlocks 178 = .ok (.istore 5, 2) := by decide +kernel
theorem dL_areBlocks_180 : decode cL_areBlocks 180 = .ok (.aload_n 1, 1) := by decide +kernel
theorem dL_areBlocks_181 : decode cL_areBlocks 181 = .ok (.aload_n 2, 1) := by decide +kernel
theorem dL_areBlocks_182 : decode cL_areBlocks 182 = .ok (.iload 7, 2) := by decide +kernel
theorem dL_areBlocks_184 : decode cL_areBlocks 184 = .ok (.iconst 0, 1) := by decide +kernel
theorem dL_areBlocks_185 : decode cL_areBlocks 185 = .ok (.invokestatic 23, 3) := by decide +kernel
theorem dL_areBlocks_188 : decode cL_areBlocks 188 = .ok (.ifCond .le 101, 3) := by decide +kernel
theorem dL_areBlocks_191 : decode cL_areBlocks 191 = .ok (.aload_n 0, 1) := by decide +kernel
theorem dL_areBlocks_192 : decode cL_areBlocks 192 = .ok (.iload 7, 2) := by decide +kernel
theorem dL_areBlocks_194 : decode cL_areBlocks 194 = .ok (.iconst 0, 1) := by decide +kernel
theorem dL_areBlocks_195 : decode cL_areBlocks 195 = .ok (.invokevirtual 124, 3) := by decide +kernel
theorem dL_areBlocks_198 : decode cL_areBlocks 198 = .ok (.aload_n 1, 1) := by decide +kernel
theorem dL_areBlocks_199 : decode cL_areBlocks 199 = .ok (.aload_n 2, 1) := by decide +kernel
theorem dL_areBlocks_200 : decode cL_areBlocks 200 = .ok (.iload 7, 2) := by decide +kernel
theorem dL_areBlocks_202 : decode cL_areBlocks 202 = .ok (.iconst 0, 1) := by decide +kernel
theorem dL_areBlocks_203 : decode cL_areBlocks 203 = .ok (.invokestatic 23, 3) := by decide +kernel
theorem dL_areBlocks_206 : decode cL_areBlocks 206 = .ok (.if_icmp .ne 83, 3) := by decide +kernel
theorem dL_areBlocks_209 : decode cL_areBlocks 209 = .ok (.aload_n 0, 1) := by decide +kernel
theorem dL_areBlocks_210 : decode cL_areBlocks 210 = .ok (.iload 7, 2) := by decide +kernel
theorem dL_areBlocks_212 : decode cL_areBlocks 212 = .ok (.iconst 1, 1) := by decide +kernel
theorem dL_areBlocks_213 : decode cL_areBlocks 213 = .ok (.invokevirtual 124, 3) := by decide +kernel
theorem dL_areBlocks_216 : decode cL_areBlocks 216 = .ok (.aload_n 1, 1) := by decide +kernel
theorem dL_areBlocks_217 : decode cL_areBlocks 217 = .ok (.aload_n 2, 1) := by decide +kernel
theorem dL_areBlocks_218 : decode cL_areBlocks 218 = .ok (.iload 7, 2) := by decide +kernel
theorem dL_areBlocks_220 : decode cL_areBlocks 220 = .ok (.iconst 1, 1) := by decide +kernel
theorem dL_areBlocks_221 : decode cL_areBlocks 221 = .ok (.invokestatic 23, 3) := by decide +kernel
theorem dL_areBlocks_224 : decode cL_areBlocks 224 = .ok (.if_icmp .ne 65, 3) := by decide +kernel
theorem dL_areBlocks_227 : decode cL_areBlocks 227 = .ok (.aload_n 0, 1) := by decide +kernel
theorem dL_areBlocks_228 : decode cL_areBlocks 228 = .ok (.iload 7, 2) := by decide +kernel
theorem dL_areBlocks_230 : decode cL_areBlocks 230 = .ok (.iconst 2, 1) := by decide +kernel
theorem dL_areBlocks_231 : decode cL_areBlocks 231 = .ok (.invokevirtual 124, 3) := by decide +kernel
theorem dL_areBlocks_234 : decode cL_areBlocks 234 = .ok (.iload 8, 2) := by decide +kernel
theorem dL_areBlocks_236 : decode cL_areBlocks 236 = .ok (.if_icmp .ne 53, 3) := by decide +kernel
theorem dL_areBlocks_239 : decode cL_areBlocks 239 = .ok (.aload_n 0, 1) := by decide +kernel
theorem dL_areBlocks_240 : decode cL_areBlocks 240 = .ok (.iload 7, 2) := by decide +kernel
theorem dL_areBlocks_242 : decode cL_areBlocks 242 = .ok (.iconst 3, 1) := by decide +kernel
theorem dL_areBlocks_243 : decode cL_areBlocks 243 = .ok (.invokevirtual 124, 3) := by decide +kernel
theorem dL_areBlocks_246 : decode cL_areBlocks 246 = .ok (.iload 9, 2) := by decide +kernel
theorem dL_areBlocks_248 : decode cL_areBlocks 248 = .ok (.if_icmp .ne 41, 3) := by decide +kernel
theorem dL_areBlocks_251 : decode cL_areBlocks 251 = .ok (.aload_n 0, 1) := by decide +kernel
theorem dL_areBlocks_252 : decode cL_areBlocks 252 = .ok (.iload 7, 2) := by decide +kernel
theorem dL_areBlocks_254 : decode cL_areBlocks 254 = .ok (.iconst 4, 1) := by decide +kernel
theorem dL_areBlocks_255 : decode cL_areBlocks 255 = .ok (.invokevirtual 124, 3) := by decide +kernel
theorem dL_areBlocks_258 : decode cL_areBlocks 258 = .ok (.iload 10, 2) := by decide +kernel
theorem dL_areBlocks_260 : decode cL_areBlocks 260 = .ok (.ifCond .ge 8, 3) := by decide +kernel
theorem dL_areBlocks_263 : decode cL_areBlocks 263 = .ok (.ldc 127, 2) := by decide +kernel
theorem dL_areBlocks_265 : decode cL_areBlocks 265 = .ok (.goto 5, 3) := by decide +kernel
theorem dL_areBlocks_268 : decode cL_areBlocks 268 = .ok (.iload 10, 2) := by decide +kernel
theorem dL_areBlocks_270 : decode cL_areBlocks 270 = .ok (.if_icmp .ne 19, 3) := by decide +kernel
theorem dL_areBlocks_273 : decode cL_areBlocks 273 = .ok (.aload_n 0, 1) := by decide +kernel
theorem dL_areBlocks_274 : decode cL_areBlocks 274 = .ok (.iload 7, 2) := by decide +kernel
theorem dL_areBlocks_276 : decode cL_areBlocks 276 = .ok (.iconst 5, 1) := by decide +kernel
theorem dL_areBlocks_277 : decode cL_areBlocks 277 = .ok (.invokevirtual 124, 3) := by decide +kernel
theorem dL_areBlocks_280 : decode cL_areBlocks 280 = .ok (.ldc 84, 2) := by decide +kernel
theorem dL_areBlocks_282 : decode cL_areBlocks 282 = .ok (.if_icmp .ne 7, 3) := by decide +kernel
theorem dL_areBlocks_285 : decode cL_areBlocks 285 = .ok (.iconst 1, 1) := by decide +kernel
theorem dL_areBlocks_286 : decode cL_areBlocks 286 = .ok (.goto 4, 3) := by decide +kernel
theorem dL_areBlocks_289 : decode cL_areBlocks 289 = .ok (.iconst 0, 1) := by decide +kernel
theorem dL_areBlocks_290 : decode cL_areBlocks 290 = .ok (.istore 6, 2) := by decide +kernel
theorem dL_areBlocks_292 : decode cL_areBlocks 292 = .ok (.iinc 7 1, 3) := by decide +kernel
theorem dL_areBlocks_295 : decode cL_areBlocks 295 = .ok (.goto (-259), 3) := by decide +kernel
theorem dL_areBlocks_298 : decode cL_areBlocks 298 = .ok (.iload 6, 2) := by decide +kernel
theorem dL_areBlocks_300 : decode cL_areBlocks 300 = .ok (.ifCond .eq 30, 3) := by decide +kernel
theorem dL_areBlocks_303 : decode cL_areBlocks 303 = .ok (.aload_n 0, 1) := by decide +kernel
theorem dL_areBlocks_304 : decode cL_areBlocks 304 = .ok (.iconst 2, 1) := by decide +kernel
theorem dL_areBlocks_305 : decode cL_areBlocks 305 = .ok (.invokevirtual 128, 3) := by decide +kernel
theorem dL_areBlocks_308 : decode cL_areBlocks 308 = .ok (.aload 4, 2) := by decide +kernel
theorem dL_areBlocks_310 : decode cL_areBlocks 310 = .ok (.invokestatic 131, 3) := by decide +kernel
theorem dL_areBlocks_313 : decode cL_areBlocks 313 = .ok (.if_icmp .ne 17, 3) := by decide +kernel
theorem dL_areBlocks_316 : decode cL_areBlocks 316 = .ok (.aload_n 0, 1) := by decide +kernel
theorem dL_areBlocks_317 : decode cL_areBlocks 317 = .ok (.iconst 4, 1) := by decide +kernel
theorem dL_areBlocks_318 : decode cL_areBlocks 318 = .ok (.invokevirtual 128, 3) := by decide +kernel
theorem dL_areBlocks_321 : decode cL_areBlocks 321 = .ok (.iload 5, 2) := by decide +kernel
theorem dL_areBlocks_323 : decode cL_areBlocks 323 = .ok (.if_icmp .ne 7, 3) := by decide +kernel
theorem dL_areBlocks_326 : decode cL_areBlocks 326 = .ok (.iconst 1, 1) := by decide +kernel
theorem dL_areBlocks_327 : decode cL_areBlocks 327 = .ok (.goto 4, 3) := by decide +kernel
theorem dL_areBlocks_330 : decode cL_areBlocks 330 = .ok (.iconst 0, 1) := by decide +kernel
theorem dL_areBlocks_331 : decode cL_areBlocks 331 = .ok (.ireturn, 1) := by decide +kernel
set_option maxRecDepth 20000 in
theorem ggL_areStates_X5_number : GoodIn wsL_areStates wsX5_number := goodIn_r _ [7, 8, 9, 10, 11, 12, 13, 14, 15, 16, 17, 18, 19, 6, 20, 21, 143, 144, 145, 146, 147, 148, 149, 150, 151, 152, 153, 154, 155, 156, 157] (by decide +kernel) (by decide +kernel)
set_option maxRecDepth 20000 in
theorem gL_areStates_X5_number : GoodIn wsL_areStates (wsV RL 135 RX5 yX5_number wsX5_number) := goodIn_app (goodIn_of _ (by decide +kernel)) ggL_areStates_X5_number
set_option maxRecDepth 20000 in
theorem ggL_areStates_X5_stateOf : GoodIn wsL_areStates wsX5_stateOf := goodIn_r _ [25, 9, 10, 8, 21, 26, 27, 28, 14, 29, 16, 17, 30, 31, 32, 33, 34, 18, 19, 6, 20, 35, 36, 37, 38, 39, 12, 13, 15, 40, 41, 42, 43, 44, 45, 46, 47, 48, 49, 50, 51, 52, 53, 54, 55, 56, 57, 58, 59, 60, 61, 62, 63, 64, 65, 66, 67, 68, 69, 70, 71, 72, 73, 74, 75, 76, 77, 78, 79, 80, 81, 82, 83, 84, 85, 86, 87, 88, 89, 90, 91, 92, 93, 94, 95, 96, 97, 98, 99, 100, 101, 102, 103, 104, 105, 106, 107, 108, 109, 143, 144, 145, 146, 147, 148, 149, 150, 151, 152, 153, 154, 155, 156, 157, 158, 159, 160, 161] (by decide +kernel) (by decide +kernel)
set_option maxRecDepth 20000 in
theorem gL_areStates_X5_stateOf : GoodIn wsL_areStates (wsV RL 138 RX5 yX5_stateOf wsX5_stateOf) := goodIn_app (goodIn_of _ (by decide +kernel)) ggL_areStates_X5_stateOf
set_option maxRecDepth 20000 in
theorem ggL_areStates_L_find : GoodIn wsL_areStates wsL_find := goodIn_r _ [113] (by decide +kernel) (by decide +kernel)
set_option maxRecDepth 20000 in
theorem gL_areStates_L_find : GoodIn wsL_areStates (va_wsS RL 29 yL_find wsL_find) := goodIn_app (goodIn_of _ (by decide +kernel)) ggL_areStates_L_find
set_option maxRecDepth 20000 in
theorem ggL_areStates_L_block : GoodIn wsL_areStates wsL_block := goodIn_r _ [116, 117] (by decide +kernel) (by decide +kernel)
set_option maxRecDepth 20000 in
theorem gL_areStates_L_block : GoodIn wsL_areStates (va_wsS RL 13 yL_block wsL_block) := goodIn_app (goodIn_of _ (by decide +kernel)) ggL_areStates_L_block
set_option maxRecDepth 20000 in
theorem ggL_areStates_L_uses : GoodIn wsL_areStates wsL_uses := goodIn_r _ [120, 114, 115, 112, 116, 117] (by decide +kernel) (by decide +kernel)
set_option maxRecDepth 20000 in
theorem gL_areStates_L_uses : GoodIn wsL_areStates (va_wsS RL 23 yL_uses wsL_uses) := goodIn_app (goodIn_of _ (by decide +kernel)) ggL_areStates_L_uses
set_option maxRecDepth 20000 in
theorem ggL_areStates_X5_blockAt : GoodIn wsL_areStates wsX5_blockAt := goodIn_r _ [124, 9, 10, 8, 26, 27, 28, 14, 29, 16, 17, 125, 91, 6, 92, 126, 58, 59, 60, 61, 143, 144, 145, 146, 147, 148, 149, 150, 151, 152, 153, 154, 155, 156, 157] (by decide +kernel) (by decide +kernel)
set_option maxRecDepth 20000 in
theorem gL_areStates_X5_blockAt : GoodIn wsL_areStates (wsV RL 141 RX5 yX5_blockAt wsX5_blockAt) := goodIn_app (goodIn_of _ (by decide +kernel)) ggL_areStates_X5_blockAt
set_option maxRecDepth 20000 in
theorem ggL_areStates_L_read : GoodIn wsL_areStates wsL_read := goodIn_r _ [129, 114, 115, 112, 116, 117, 130, 131, 132, 133] (by decide +kernel) (by decide +kernel)
set_option maxRecDepth 20000 in
theorem gL_areStates_L_read : GoodIn wsL_areStates (va_wsS RL 47 yL_read wsL_read) := goodIn_app (goodIn_of _ (by decide +kernel)) ggL_areStates_L_read
set_option maxRecDepth 20000 in
theorem ggL_areStates_X5_read : GoodIn wsL_areStates wsX5_read := goodIn_r _ [137, 9, 10, 8, 26, 27, 28, 14, 29, 16, 17, 125, 91, 6, 92, 138, 139, 140, 53, 141, 55, 56, 57, 58, 59, 60, 61, 142, 68, 69, 65, 70, 71, 143, 144, 145, 146, 147, 148, 149, 150, 151, 152, 153, 154, 155, 156, 157, 158, 159, 160, 161] (by decide +kernel) (by decide +kernel)
set_option maxRecDepth 20000 in
theorem gL_areStates_X5_read : GoodIn wsL_areStates (wsV RL 144 RX5 yX5_read wsX5_read) := goodIn_app (goodIn_of _ (by decide +kernel)) ggL_areStates_X5_read
theorem dL_areStates_0 : decode cL_areStates 0 = .ok (.aload_n 0, 1) := by decide +kernel
theorem dL_areStates_1 : decode cL_areStates 1 = .ok (.aload_n 1, 1) := by decide +kernel
theorem dL_areStates_2 : decode cL_areStates 2 = .ok (.iconst 0, 1) := by decide +kernel
theorem dL_areStates_3 : decode cL_areStates 3 = .ok (.iaload, 1) := by decide +kernel
theorem dL_areStates_4 : decode cL_areStates 4 = .ok (.invokevirtual 135, 3) := by decide +kernel
theorem dL_areStates_7 : decode cL_areStates 7 = .ok (.ldc 127, 2) := by decide +kernel
theorem dL_areStates_9 : decode cL_areStates 9 = .ok (.if_icmp .ne 30, 3) := by decide +kernel
theorem dL_areStates_12 : decode cL_areStates 12 = .ok (.aload_n 0, 1) := by decide +kernel
theorem dL_areStates_13 : decode cL_areStates 13 = .ok (.iconst (-1), 1) := by decide +kernel
theorem dL_areStates_14 : decode cL_areStates 14 = .ok (.invokevirtual 135, 3) := by decide +kernel
theorem dL_areStates_17 : decode cL_areStates 17 = .ok (.ldc 84, 2) := by decide +kernel
theorem dL_areStates_19 : decode cL_areStates 19 = .ok (.if_icmp .ne 20, 3) := by decide +kernel
theorem dL_areStates_22 : decode cL_areStates 22 = .ok (.aload_n 0, 1) := by decide +kernel
theorem dL_areStates_23 : decode cL_areStates 23 = .ok (.aload_n 1, 1) := by decide +kernel
theorem dL_areStates_24 : decode cL_areStates 24 = .ok (.iconst 1, 1) := by decide +kernel
theorem dL_areStates_25 : decode cL_areStates 25 = .ok (.iaload, 1) := by decide +kernel
theorem dL_areStates_26 : decode cL_areStates 26 = .ok (.iconst 0, 1) := by decide +kernel
theorem dL_areStates_27 : decode cL_areStates 27 = .ok (.invokevirtual 138, 3) := by decide +kernel
theorem dL_areStates_30 : decode cL_areStates 30 = .ok (.ldc 84, 2) := by decide +kernel
theorem dL_areStates_32 : decode cL_areStates 32 = .ok (.if_icmp .ne 7, 3) := by decide +kernel
theorem dL_areStates_35 : decode cL_areStates 35 = .ok (.iconst 1, 1) := by decide +kernel
theorem dL_areStates_36 : decode cL_areStates 36 = .ok (.goto 4, 3) := by decide +kernel
theorem dL_areStates_39 : decode cL_areStates 39 = .ok (.iconst 0, 1) := by decide +kernel
theorem dL_areStates_40 : decode cL_areStates 40 = .ok (.istore 8, 2) := by decide +kernel
theorem dL_areStates_42 : decode cL_areStates 42 = .ok (.iconst 0, 1) := by decide +kernel
theorem dL_areStates_43 : decode cL_areStates 43 = .ok (.istore 9, 2) := by decide +kernel
theorem dL_areStates_45 : decode cL_areStates 45 = .ok (.iload 9, 2) := by decide +kernel
theorem dL_areStates_47 : decode cL_areStates 47 = .ok (.aload_n 1, 1) := by decide +kernel
theorem dL_areStates_48 : decode cL_areStates 48 = .ok (.iconst 0, 1) := by decide +kernel
theorem dL_areStates_49 : decode cL_areStates 49 = .ok (.iaload, 1) := by decide +kernel
theorem dL_areStates_50 : decode cL_areStates 50 = .ok (.if_icmp .ge 595, 3) := by decide +kernel
theorem dL_areStates_53 : decode cL_areStates 53 = .ok (.iload 8, 2) := by decide +kernel
theorem dL_areStates_55 : decode cL_areStates 55 = .ok (.ifCond .eq 590, 3) := by decide +kernel
theorem dL_areStates_58 : decode cL_areStates 58 = .ok (.iconst 0, 1) := by decide +kernel
theorem dL_areStates_59 : decode cL_areStates 59 = .ok (.istore 10, 2) := by decide +kernel
theorem dL_areStates_61 : decode cL_areStates 61 = .ok (.iconst 0, 1) := by decide +kernel
theorem dL_areStates_62 : decode cL_areStates 62 = .ok (.istore 11, 2) := by decide +kernel
theorem dL_areStates_64 : decode cL_areStates 64 = .ok (.iconst 0, 1) := by decide +kernel
theorem dL_areStates_65 : decode cL_areStates 65 = .ok (.istore 12, 2) := by decide +kernel
theorem dL_areStates_67 : decode cL_areStates 67 = .ok (.iconst 0, 1) := by decide +kernel
theorem dL_areStates_68 : decode cL_areStates 68 = .ok (.istore 13, 2) := by decide +kernel
theorem dL_areStates_70 : decode cL_areStates 70 = .ok (.iconst 0, 1) := by decide +kernel
theorem dL_areStates_71 : decode cL_areStates 71 = .ok (.istore 14, 2) := by decide +kernel
theorem dL_areStates_73 : decode cL_areStates 73 = .ok (.iconst 0, 1) := by decide +kernel
theorem dL_areStates_74 : decode cL_areStates 74 = .ok (.istore 15, 2) := by decide +kernel
theorem dL_areStates_76 : decode cL_areStates 76 = .ok (.iconst 0, 1) := by decide +kernel
theorem dL_areStates_77 : decode cL_areStates 77 = .ok (.istore 16, 2) := by decide +kernel
theorem dL_areStates_79 : decode cL_areStates 79 = .ok (.iconst 0, 1) := by decide +kernel
theorem dL_areStates_80 : decode cL_areStates 80 = .ok (.istore 17, 2) := by decide +kernel
theorem dL_areStates_82 : decode cL_areStates 82 = .ok (.iload 17, 2) := by decide +kernel
theorem dL_areStates_84 : decode cL_areStates 84 = .ok (.aload_n 1, 1) := by decide +kernel
theorem dL_areStates_85 : decode cL_areStates 85 = .ok (.iconst 0, 1) := by decide +kernel
theorem dL_areStates_86 : decode cL_areStates 86 = .ok (.iaload, 1) := by decide +kernel
theorem dL_areStates_87 : decode cL_areStates 87 = .ok (.if_icmp .ge 31, 3) := by decide +kernel
theorem dL_areStates_90 : decode cL_areStates 90 = .ok (.iload 10, 2) := by decide +kernel
theorem dL_areStates_92 : decode cL_areStates 92 = .ok (.aload 4, 2) := by decide +kernel
theorem dL_areStates_94 : decode cL_areStates 94 = .ok (.iload 17, 2) := by decide +kernel
theorem dL_areStates_96 : decode cL_areStates 96 = .ok (.iaload, 1) := by decide +kernel
theorem dL_areStates_97 : decode cL_areStates 97 = .ok (.aload_n 3, 1) := by decide +kernel
theorem dL_areStates_98 : decode cL_areStates 98 = .ok (.iload 9, 2) := by decide +kernel
theorem dL_areStates_100 : decode cL_areStates 100 = .ok (.iaload, 1) := by decide +kernel
theorem dL_areStates_101 : decode cL_areStates 101 = .ok (.if_icmp .ne 7, 3) := by decide +kernel
theorem dL_areStates_104 : decode cL_areStates 104 = .ok (.iconst 1, 1) := by decide +kernel
theorem dL_areStates_105 : decode cL_areStates 105 = .ok (.goto 4, 3) := by decide +kernel
theorem dL_areStates_108 : decode cL_areStates 108 = .ok (.iconst 0, 1) := by decide +kernel
theorem dL_areStates_109 : decode cL_areStates 109 = .ok (.iadd, 1) := by decide +kernel
theorem dL_areStates_110 : decode cL_areStates 110 = .ok (.istore 10, 2) := by decide +kernel
theorem dL_areStates_112 : decode cL_areStates 112 = .ok (.iinc 17 1, 3) := by decide +kernel
theorem dL_areStates_115 : decode cL_areStates 115 = .ok (.goto (-33), 3) := by decide +kernel
theorem dL_areStates_118 : decode cL_areStates 118 = .ok (.aload_n 3, 1) := by decide +kernel
theorem dL_areStates_119 : decode cL_areStates 119 = .ok (.iload 9, 2) := by decide +kernel
theorem dL_areStates_121 : decode cL_areStates 121 = .ok (.iaload, 1) := by decide +kernel
theorem dL_areStates_122 : decode cL_areStates 122 = .ok (.istore 17, 2) := by decide +kernel
theorem dL_areStates_124 : decode cL_areStates 124 = .ok (.iload 17, 2) := by decide +kernel
theorem dL_areStates_126 : decode cL_areStates 126 = .ok (.ifCond .le 21, 3) := by decide +kernel
theorem dL_areStates_129 : decode cL_areStates 129 = .ok (.iinc 11 1, 3) := by decide +kernel
theorem dL_areStates_132 : decode cL_areStates 132 = .ok (.aload 4, 2) := by decide +kernel
theorem dL_areStates_134 : decode cL_areStates 134 = .ok (.aload_n 1, 1) := by decide +kernel
theorem dL_areStates_135 : decode cL_areStates 135 = .ok (.aload_n 3, 1) := by decide +kernel
theorem dL_areStates_136 : decode cL_areStates 136 = .ok (.iload 17, 2) := by decide +kernel
theorem dL_areStates_138 : decode cL_areStates 138 = .ok (.invokestatic 29, 3) := by decide +kernel
theorem dL_areStates_141 : decode cL_areStates 141 = .ok (.iaload, 1) := by decide +kernel
theorem dL_areStates_142 : decode cL_areStates 142 = .ok (.istore 17, 2) := by decide +kernel
theorem dL_areStates_144 : decode cL_areStates 144 = .ok (.goto (-20), 3) := by decide +kernel
theorem dL_areStates_147 : decode cL_areStates 147 = .ok (.iconst 0, 1) := by decide +kernel
theorem dL_areStates_148 : decode cL_areStates 148 = .ok (.istore 17, 2) := by decide +kernel
theorem dL_areStates_150 : decode cL_areStates 150 = .ok (.iload 17, 2) := by decide +kernel
theorem dL_areStates_152 : decode cL_areStates 152 = .ok (.bipush 6, 2) := by decide +kernel
theorem dL_areStates_154 : decode cL_areStates 154 = .ok (.if_icmp .ge 167, 3) := by decide +kernel
theorem dL_areStates_157 : decode cL_areStates 157 = .ok (.iload 8, 2) := by decide +kernel
theorem dL_areStates_159 : decode cL_areStates 159 = .ok (.ifCond .eq 162, 3) := by decide +kernel
theorem dL_areStates_162 : decode cL_areStates 162 = .ok (.aload 5, 2) := by decide +kernel
theorem dL_areStates_164 : decode cL_areStates 164 = .ok (.iload 9, 2) := by decide +kernel
theorem dL_areStates_166 : decode cL_areStates 166 = .ok (.iload 17, 2) := by decide +kernel
theorem dL_areStates_168 : decode cL_areStates 168 = .ok (.invokestatic 13, 3) := by decide +kernel
theorem dL_areStates_171 : decode cL_areStates 171 = .ok (.istore 18, 2) := by decide +kernel
theorem dL_areStates_173 : decode cL_areStates 173 = .ok (.iload 13, 2) := by decide +kernel
theorem dL_areStates_175 : decode cL_areStates 175 = .ok (.iload 9, 2) := by decide +kernel
theorem dL_areStates_177 : decode cL_areStates 177 = .ok (.ifCond .le 29, 3) := by decide +kernel
theorem dL_areStates_180 : decode cL_areStates 180 = .ok (.iload 18, 2) := by decide +kernel
theorem dL_areStates_182 : decode cL_areStates 182 = .ok (.aload 5, 2) := by decide +kernel
theorem dL_areStates_184 : decode cL_areStates 184 = .ok (.aload_n 1, 1) := by decide +kernel
theorem dL_areStates_185 : decode cL_areStates 185 = .ok (.aload_n 3, 1) := by decide +kernel
theorem dL_areStates_186 : decode cL_areStates 186 = .ok (.aload 4, 2) := by decide +kernel
theorem dL_areStates_188 : decode cL_areStates 188 = .ok (.iload 9, 2) := by decide +kernel
theorem dL_areStates_190 : decode cL_areStates 190 = .ok (.iaload, 1) := by decide +kernel
theorem dL_areStates_191 : decode cL_areStates 191 = .ok (.invokestatic 29, 3) := by decide +kernel
theorem dL_areStates_194 : decode cL_areStates 194 = .ok (.iload 17, 2) := by decide +kernel
theorem dL_areStates_196 : decode cL_areStates 196 = .ok (.invokestatic 13, 3) := by decide +kernel
theorem dL_areStates_199 : decode cL_areStates 199 = .ok (.if_icmp .eq 7, 3) := by decide +kernel
theorem dL_areStates_202 : decode cL_areStates 202 = .ok (.iconst 1, 1) := by decide +kernel
theorem dL_areStates_203 : decode cL_areStates 203 = .ok (.goto 4, 3) := by decide +kernel
theorem dL_areStates_206 : decode cL_areStates 206 = .ok (.iconst 0, 1) := by decide +kernel
theorem dL_areStates_207 : decode cL_areStates 207 = .ok (.iadd, 1) := by decide +kernel
theorem dL_areStates_208 : decode cL_areStates 208 = .ok (.istore 13, 2) := by decide +kernel
theorem dL_areStates_210 : decode cL_areStates 210 = .ok (.iload 14, 2) := by decide +kernel
theorem dL_areStates_212 : decode cL_areStates 212 = .ok (.aload_n 1, 1) := by decide +kernel
theorem dL_areStates_213 : decode cL_areStates 213 = .ok (.aload 5, 2) := by decide +kernel
theorem dL_areStates_215 : decode cL_areStates 215 = .ok (.iload 18, 2) := by decide +kernel
theorem dL_areStates_217 : decode cL_areStates 217 = .ok (.iconst 1, 1) := by decide +kernel
theorem dL_areStates_218 : decode cL_areStates 218 = .ok (.invokestatic 23, 3) := by decide +kernel
theorem dL_areStates_221 : decode cL_areStates 221 = .ok (.iconst 1, 1) := by decide +kernel
theorem dL_areStates_222 : decode cL_areStates 222 = .ok (.if_icmp .ne 7, 3) := by decide +kernel
theorem dL_areStates_225 : decode cL_areStates 225 = .ok (.iconst 1, 1) := by decide +kernel
theorem dL_areStates_226 : decode cL_areStates 226 = .ok (.goto 4, 3) := by decide +kernel
theorem dL_areStates_229 : decode cL_areStates 229 = .ok (.iconst 0, 1) := by decide +kernel
theorem dL_areStates_230 : decode cL_areStates 230 = .ok (.iadd, 1) := by decide +kernel
theorem dL_areStates_231 : decode cL_areStates 231 = .ok (.istore 14, 2) := by decide +kernel
theorem dL_areStates_233 : decode cL_areStates 233 = .ok (.iconst 1, 1) := by decide +kernel
theorem dL_areStates_234 : decode cL_areStates 234 = .ok (.istore 19, 2) := by decide +kernel
theorem dL_areStates_236 : decode cL_areStates 236 = .ok (.iconst 0, 1) := by decide +kernel
theorem dL_areStates_237 : decode cL_areStates 237 = .ok (.istore 20, 2) := by decide +kernel
theorem dL_areStates_239 : decode cL_areStates 239 = .ok (.iload 20, 2) := by decide +kernel
theorem dL_areStates_241 : decode cL_areStates 241 = .ok (.iload 17, 2) := by decide +kernel
theorem dL_areStates_243 : decode cL_areStates 243 = .ok (.if_icmp .ge 35, 3) := by decide +kernel
theorem dL_areStates_246 : decode cL_areStates 246 = .ok (.iload 19, 2) := by decide +kernel
theorem dL_areStates_248 : decode cL_areStates 248 = .ok (.ifCond .eq 21, 3) := by decide +kernel
theorem dL_areStates_251 : decode cL_areStates 251 = .ok (.aload 5, 2) := by decide +kernel
theorem dL_areStates_253 : decode cL_areStates 253 = .ok (.iload 9, 2) := by decide +kernel
theorem dL_areStates_255 : decode cL_areStates 255 = .ok (.iload 20, 2) := by decide +kernel
theorem dL_areStates_257 : decode cL_areStates 257 = .ok (.invokestatic 13, 3) := by decide +kernel
theorem dL_areStates_260 : decode cL_areStates 260 = .ok (.iload 18, 2) := by decide +kernel
theorem dL_areStates_262 : decode cL_areStates 262 = .ok (.if_icmp .eq 7, 3) := by decide +kernel
theorem dL_areStates_265 : decode cL_areStates 265 = .ok (.iconst 1, 1) := by decide +kernel
theorem dL_areStates_266 : decode cL_areStates 266 = .ok (.goto 4, 3) := by decide +kernel
theorem dL_areStates_269 : decode cL_areStates 269 = .ok (.iconst 0, 1) := by decide +kernel
theorem dL_areStates_270 : decode cL_areStates 270 = .ok (.istore 19, 2) := by decide +kernel
theorem dL_areStates_272 : decode cL_areStates 272 = .ok (.iinc 20 1, 3) := by decide +kernel
theorem dL_areStates_275 : decode cL_areStates 275 = .ok (.goto (-36), 3) := by decide +kernel
theorem dL_areStates_278 : decode cL_areStates 278 = .ok (.iload 15, 2) := by decide +kernel
theorem dL_areStates_280 : decode cL_areStates 280 = .ok (.iload 19, 2) := by decide +kernel
theorem dL_areStates_282 : decode cL_areStates 282 = .ok (.ifCond .eq 7, 3) := by decide +kernel
theorem dL_areStates_285 : decode cL_areStates 285 = .ok (.iconst 1, 1) := by decide +kernel
theorem dL_areStates_286 : decode cL_areStates 286 = .ok (.goto 4, 3) := by decide +kernel
theorem dL_areStates_289 : decode cL_areStates 289 = .ok (.iconst 0, 1) := by decide +kernel
theorem dL_areStates_290 : decode cL_areStates 290 = .ok (.iadd, 1) := by decide +kernel
theorem dL_areStates_291 : decode cL_areStates 291 = .ok (.istore 15, 2) := by decide +kernel
theorem dL_areStates_293 : decode cL_areStates 293 = .ok (.aload_n 0, 1) := by decide +kernel
theorem dL_areStates_294 : decode cL_areStates 294 = .ok (.aload_n 3, 1) := by decide +kernel
theorem dL_areStates_295 : decode cL_areStates 295 = .ok (.iload 9, 2) := by decide +kernel
theorem dL_areStates_297 : decode cL_areStates 297 = .ok (.iaload, 1) := by decide +kernel
theorem dL_areStates_298 : decode cL_areStates 298 = .ok (.iload 17, 2) := by decide +kernel
theorem dL_areStates_300 : decode cL_areStates 300 = .ok (.invokevirtual 141, 3) := by decide +kernel
theorem dL_areStates_303 : decode cL_areStates 303 = .ok (.iload 18, 2) := by decide +kernel
theorem dL_areStates_305 : decode cL_areStates 305 = .ok (.if_icmp .ne 7, 3) := by decide +kernel
theorem dL_areStates_308 : decode cL_areStates 308 = .ok (.iconst 1, 1) := by decide +kernel
theorem dL_areStates_309 : decode cL_areStates 309 = .ok (.goto 4, 3) := by decide +kernel
theorem dL_areStates_312 : decode cL_areStates 312 = .ok (.iconst 0, 1) := by decide +kernel
theorem dL_areStates_313 : decode cL_areStates 313 = .ok (.istore 8, 2) := by decide +kernel
theorem dL_areStates_315 : decode cL_areStates 315 = .ok (.iinc 17 1, 3) := by decide +kernel
theorem dL_areStates_318 : decode cL_areStates 318 = .ok (.goto (-168), 3) := by decide +kernel
theorem dL_areStates_321 : decode cL_areStates 321 = .ok (.iconst 0, 1) := by decide +kernel
theorem dL_areStates_322 : decode cL_areStates 322 = .ok (.istore 17, 2) := by decide +kernel
theorem dL_areStates_324 : decode cL_areStates 324 = .ok (.iload 17, 2) := by decide +kernel
theorem dL_areStates_326 : decode cL_areStates 326 = .ok (.bipush 48, 2) := by decide +kernel
theorem dL_areStates_328 : decode cL_areStates 328 = .ok (.if_icmp .ge 65, 3) := by decide +kernel
theorem dL_areStates_331 : decode cL_areStates 331 = .ok (.iload 8, 2) := by decide +kernel
theorem dL_areStates_333 : decode cL_areStates 333 = .ok (.ifCond .eq 60, 3) := by decide +kernel
theorem dL_areStates_336 : decode cL_areStates 336 = .ok (.iload 12, 2) := by decide +kernel
theorem dL_areStates_338 : decode cL_areStates 338 = .ok (.aload 5, 2) := by decide +kernel
theorem dL_areStates_340 : decode cL_areStates 340 = .ok (.aload 6, 2) := by decide +kernel
theorem dL_areStates_342 : decode cL_areStates 342 = .ok (.aload 7, 2) := by decide +kernel
theorem dL_areStates_344 : decode cL_areStates 344 = .ok (.iload 9, 2) := by decide +kernel
theorem dL_areStates_346 : decode cL_areStates 346 = .ok (.iload 17, 2) := by decide +kernel
theorem dL_areStates_348 : decode cL_areStates 348 = .ok (.invokestatic 47, 3) := by decide +kernel
theorem dL_areStates_351 : decode cL_areStates 351 = .ok (.iadd, 1) := by decide +kernel
theorem dL_areStates_352 : decode cL_areStates 352 = .ok (.istore 12, 2) := by decide +kernel
theorem dL_areStates_354 : decode cL_areStates 354 = .ok (.aload_n 0, 1) := by decide +kernel
theorem dL_areStates_355 : decode cL_areStates 355 = .ok (.aload_n 3, 1) := by decide +kernel
theorem dL_areStates_356 : decode cL_areStates 356 = .ok (.iload 9, 2) := by decide +kernel
theorem dL_areStates_358 : decode cL_areStates 358 = .ok (.iaload, 1) := by decide +kernel
theorem dL_areStates_359 : decode cL_areStates 359 = .ok (.iload 17, 2) := by decide +kernel
theorem dL_areStates_361 : decode cL_areStates 361 = .ok (.invokevirtual 144, 3) := by decide +kernel
theorem dL_areStates_364 : decode cL_areStates 364 = .ok (.aload 5, 2) := by decide +kernel
theorem dL_areStates_366 : decode cL_areStates 366 = .ok (.aload 6, 2) := by decide +kernel
theorem dL_areStates_368 : decode cL_areStates 368 = .ok (.aload 7, 2) := by decide +kernel
theorem dL_areStates_370 : decode cL_areStates 370 = .ok (.iload 9, 2) := by decide +kernel
theorem dL_areStates_372 : decode cL_areStates 372 = .ok (.iload 17, 2) := by decide +kernel
theorem dL_areStates_374 : decode cL_areStates 374 = .ok (.invokestatic 47, 3) := by decide +kernel
theorem dL_areStates_377 : decode cL_areStates 377 = .ok (.if_icmp .ne 7, 3) := by decide +kernel
theorem dL_areStates_380 : decode cL_areStates 380 = .ok (.iconst 1, 1) := by decide +kernel
theorem dL_areStates_381 : decode cL_areStates 381 = .ok (.goto 4, 3) := by decide +kernel
theorem dL_areStates_384 : decode cL_areStates 384 = .ok (.iconst 0, 1) := by decide +kernel
theorem dL_areStates_385 : decode cL_areStates 385 = .ok (.istore 8, 2) := by decide +kernel
theorem dL_areStates_387 : decode cL_areStates 387 = .ok (.iinc 17 1, 3) := by decide +kernel
theorem dL_areStates_390 : decode cL_areStates 390 = .ok (.goto (-66), 3) := by decide +kernel
theorem dL_areStates_393 : decode cL_areStates 393 = .ok (.iconst 0, 1) := by decide +kernel
theorem dL_areStates_394 : decode cL_areStates 394 = .ok (.istore 17, 2) := by decide +kernel
theorem dL_areStates_396 : decode cL_areStates 396 = .ok (.iload 17, 2) := by decide +kernel
theorem dL_areStates_398 : decode cL_areStates 398 = .ok (.iconst 4, 1) := by decide +kernel
theorem dL_areStates_399 : decode cL_areStates 399 = .ok (.if_icmp .ge 33, 3) := by decide +kernel
theorem dL_areStates_402 : decode cL_areStates 402 = .ok (.iload 16, 2) := by decide +kernel
theorem dL_areStates_404 : decode cL_areStates 404 = .ok (.aload_n 2, 1) := by decide +kernel
theorem dL_areStates_405 : decode cL_areStates 405 = .ok (.iload 17, 2) := by decide +kernel
theorem dL_areStates_407 : decode cL_areStates 407 = .ok (.iaload, 1) := by decide +kernel
theorem dL_areStates_408 : decode cL_areStates 408 = .ok (.aload_n 3, 1) := by decide +kernel
theorem dL_areStates_409 : decode cL_areStates 409 = .ok (.iload 9, 2) := by decide +kernel
theorem dL_areStates_411 : decode cL_areStates 411 = .ok (.iaload, 1) := by decide +kernel
theorem dL_areStates_412 : decode cL_areStates 412 = .ok (.if_icmp .ne 10, 3) := by decide +kernel
theorem dL_areStates_415 : decode cL_areStates 415 = .ok (.iconst 1, 1) := by decide +kernel
theorem dL_areStates_416 : decode cL_areStates 416 = .ok (.iload 17, 2) := by decide +kernel
theorem dL_areStates_418 : decode cL_areStates 418 = .ok (.ishl, 1) := by decide +kernel
theorem dL_areStates_419 : decode cL_areStates 419 = .ok (.goto 4, 3) := by decide +kernel
theorem dL_areStates_422 : decode cL_areStates 422 = .ok (.iconst 0, 1) := by decide +kernel
theorem dL_areStates_423 : decode cL_areStates 423 = .ok (.ior, 1) := by decide +kernel
theorem dL_areStates_424 : decode cL_areStates 424 = .ok (.istore 16, 2) := by decide +kernel
theorem dL_areStates_426 : decode cL_areStates 426 = .ok (.iinc 17 1, 3) := by decide +kernel
theorem dL_areStates_429 : decode cL_areStates 429 = .ok (.goto (-33), 3) := by decide +kernel
theorem dL_areStates_432 : decode cL_areStates 432 = .ok (.iload 8, 2) := by decide +kernel
theorem dL_areStates_434 : decode cL_areStates 434 = .ok (.ifCond .eq 202, 3) := by decide +kernel
theorem dL_areStates_437 : decode cL_areStates 437 = .ok (.aload_n 0, 1) := by decide +kernel
theorem dL_areStates_438 : decode cL_areStates 438 = .ok (.iload 9, 2) := by decide +kernel
theorem dL_areStates_440 : decode cL_areStates 440 = .ok (.invokevirtual 135, 3) := by decide +kernel
theorem dL_areStates_443 : decode cL_areStates 443 = .ok (.aload_n 3, 1) := by decide +kernel
theorem dL_areStates_444 : decode cL_areStates 444 = .ok (.iload 9, 2) := by decide +kernel
theorem dL_areStates_446 : decode cL_areStates 446 = .ok (.iaload, 1) := by decide +kernel
theorem dL_areStates_447 : decode cL_areStates 447 = .ok (.if_icmp .ne 189, 3) := by decide +kernel
theorem dL_areStates_450 : decode cL_areStates 450 = .ok (.aload_n 0, 1) := by decide +kernel
theorem dL_areStates_451 : decode cL_areStates 451 = .ok (.aload_n 3, 1) := by decide +kernel
theorem dL_areStates_452 : decode cL_areStates 452 = .ok (.iload 9, 2) := by decide +kernel
theorem dL_areStates_454 : decode cL_areStates 454 = .ok (.iaload, 1) := by decide +kernel
theorem dL_areStates_455 : decode cL_areStates 455 = .ok (.iconst 0, 1) := by decide +kernel
theorem dL_areStates_456 : decode cL_areStates 456 = .ok (.invokevirtual 138, 3) := by decide +kernel
theorem dL_areStates_459 : decode cL_areStates 459 = .ok (.iload 9, 2) := by decide +kernel
theorem dL_areStates_461 : decode cL_areStates 461 = .ok (.ifCond .ne 8, 3) := by decide +kernel
theorem dL_areStates_464 : decode cL_areStates 464 = .ok (.ldc 127, 2) := by decide +kernel
theorem dL_areStates_466 : decode cL_areStates 466 = .ok (.goto 8, 3) := by decide +kernel
theorem dL_areStates_469 : decode cL_areStates 469 = .ok (.aload 4, 2) := by decide +kernel
theorem dL_areStates_471 : decode cL_areStates 471 = .ok (.iload 9, 2) := by decide +kernel
theorem dL_areStates_473 : decode cL_areStates 473 = .ok (.iaload, 1) := by decide +kernel
theorem dL_areStates_474 : decode cL_areStates 474 = .ok (.if_icmp .ne 162, 3) := by decide +kernel
theorem dL_areStates_477 : decode cL_areStates 477 = .ok (.aload_n 0, 1) := by decide +kernel
theorem dL_areStates_478 : decode cL_areStates 478 = .ok (.aload_n 3, 1) := by decide +kernel
theorem dL_areStates_479 : decode cL_areStates 479 = .ok (.iload 9, 2) := by decide +kernel
theorem dL_areStates_481 : decode cL_areStates 481 = .ok (.iaload, 1) := by decide +kernel
theorem dL_areStates_482 : decode cL_areStates 482 = .ok (.iconst 1, 1) := by decide +kernel
theorem dL_areStates_483 : decode cL_areStates 483 = .ok (.invokevirtual 138, 3) := by decide +kernel
theorem dL_areStates_486 : decode cL_areStates 486 = .ok (.iload 10, 2) := by decide +kernel
theorem dL_areStates_488 : decode cL_areStates 488 = .ok (.if_icmp .ne 148, 3) := by decide +kernel
theorem dL_areStates_491 : decode cL_areStates 491 = .ok (.aload_n 0, 1) := by decide +kernel
theorem dL_areStates_492 : decode cL_areStates 492 = .ok (.aload_n 3, 1) := by decide +kernel
theorem dL_areStates_493 : decode cL_areStates 493 = .ok (.iload 9, 2) := by decide +kernel
theorem dL_areStates_495 : decode cL_areStates 495 = .ok (.iaload, 1) := by decide +kernel
theorem dL_areStates_496 : decode cL_areStates 496 = .ok (.iconst 2, 1) := by decide +kernel
theorem dL_areStates_497 : decode cL_areStates 497 = .ok (.invokevirtual 138, 3) := by decide +kernel
theorem dL_areStates_500 : decode cL_areStates 500 = .ok (.iload 11, 2) := by decide +kernel
theorem dL_areStates_502 : decode cL_areStates 502 = .ok (.if_icmp .ne 134, 3) := by decide +kernel
theorem dL_areStates_505 : decode cL_areStates 505 = .ok (.aload_n 0, 1) := by decide +kernel
theorem dL_areStates_506 : decode cL_areStates 506 = .ok (.aload_n 3, 1) := by decide +kernel
theorem dL_areStates_507 : decode cL_areStates 507 = .ok (.iload 9, 2) := by decide +kernel
theorem dL_areStates_509 : decode cL_areStates 509 = .ok (.iaload, 1) := by decide +kernel
theorem dL_areStates_510 : decode cL_areStates 510 = .ok (.iconst 3, 1) := by decide +kernel
theorem dL_areStates_511 : decode cL_areStates 511 = .ok (.invokevirtual 138, 3) := by decide +kernel
theorem dL_areStates_514 : decode cL_areStates 514 = .ok (.iload 12, 2) := by decide +kernel
theorem dL_areStates_516 : decode cL_areStates 516 = .ok (.if_icmp .ne 120, 3) := by decide +kernel
theorem dL_areStates_519 : decode cL_areStates 519 = .ok (.aload_n 0, 1) := by decide +kernel
theorem dL_areStates_520 : decode cL_areStates 520 = .ok (.aload_n 3, 1) := by decide +kernel
theorem dL_areStates_521 : decode cL_areStates 521 = .ok (.iload 9, 2) := by decide +kernel
theorem dL_areStates_523 : decode cL_areStates 523 = .ok (.iaload, 1) := by decide +kernel
theorem dL_areStates_524 : decode cL_areStates 524 = .ok (.iconst 4, 1) := by decide +kernel
theorem dL_areStates_525 : decode cL_areStates 525 = .ok (.invokevirtual 138, 3) := by decide +kernel
theorem dL_areStates_528 : decode cL_areStates 528 = .ok (.iload 9, 2) := by decide +kernel
theorem dL_areStates_530 : decode cL_areStates 530 = .ok (.ifCond .ne 8, 3) := by decide +kernel
theorem dL_areStates_533 : decode cL_areStates 533 = .ok (.ldc 127, 2) := by decide +kernel
theorem dL_areStates_535 : decode cL_areStates 535 = .ok (.goto 5, 3) := by decide +kernel
theorem dL_areStates_538 : decode cL_areStates 538 = .ok (.iload 13, 2) := by decide +kernel
theorem dL_areStates_540 : decode cL_areStates 540 = .ok (.if_icmp .ne 96, 3) := by decide +kernel
theorem dL_areStates_543 : decode cL_areStates 543 = .ok (.aload_n 0, 1) := by decide +kernel
theorem dL_areStates_544 : decode cL_areStates 544 = .ok (.aload_n 3, 1) := by decide +kernel
theorem dL_areStates_545 : decode cL_areStates 545 = .ok (.iload 9, 2) := by decide +kernel
theorem dL_areStates_547 : decode cL_areStates 547 = .ok (.iaload, 1) := by decide +kernel
theorem dL_areStates_548 : decode cL_areStates 548 = .ok (.iconst 5, 1) := by decide +kernel
theorem dL_areStates_549 : decode cL_areStates 549 = .ok (.invokevirtual 138, 3) := by decide +kernel
theorem dL_areStates_552 : decode cL_areStates 552 = .ok (.iload 14, 2) := by decide +kernel
theorem dL_areStates_554 : decode cL_areStates 554 = .ok (.if_icmp .ne 82, 3) := by decide +kernel
theorem dL_areStates_557 : decode cL_areStates 557 = .ok (.aload_n 0, 1) := by decide +kernel
theorem dL_areStates_558 : decode cL_areStates 558 = .ok (.aload_n 3, 1) := by decide +kernel
theorem dL_areStates_559 : decode cL_areStates 559 = .ok (.iload 9, 2) := by decide +kernel
theorem dL_areStates_561 : decode cL_areStates 561 = .ok (.iaload, 1) := by decide +kernel
theorem dL_areStates_562 : decode cL_areStates 562 = .ok (.bipush 6, 2) := by decide +kernel
theorem dL_areStates_564 : decode cL_areStates 564 = .ok (.invokevirtual 138, 3) := by decide +kernel
theorem dL_areStates_567 : decode cL_areStates 567 = .ok (.iload 15, 2) := by decide +kernel
theorem dL_areStates_569 : decode cL_areStates 569 = .ok (.if_icmp .ne 67, 3) := by decide +kernel
theorem dL_areStates_572 : decode cL_areStates 572 = .ok (.aload_n 0, 1) := by decide +kernel
theorem dL_areStates_573 : decode cL_areStates 573 = .ok (.aload_n 3, 1) := by decide +kernel
theorem dL_areStates_574 : decode cL_areStates 574 = .ok (.iload 9, 2) := by decide +kernel
theorem dL_areStates_576 : decode cL_areStates 576 = .ok (.iaload, 1) := by decide +kernel
theorem dL_areStates_577 : decode cL_areStates 577 = .ok (.bipush 7, 2) := by decide +kernel
theorem dL_areStates_579 : decode cL_areStates 579 = .ok (.invokevirtual 138, 3) := by decide +kernel
theorem dL_areStates_582 : decode cL_areStates 582 = .ok (.iload 16, 2) := by decide +kernel
theorem dL_areStates_584 : decode cL_areStates 584 = .ok (.if_icmp .ne 52, 3) := by decide +kernel
theorem dL_areStates_587 : decode cL_areStates 587 = .ok (.aload_n 0, 1) := by decide +kernel
theorem dL_areStates_588 : decode cL_areStates 588 = .ok (.aload_n 3, 1) := by decide +kernel
theorem dL_areStates_589 : decode cL_areStates 589 = .ok (.iload 9, 2) := by decide +kernel
theorem dL_areStates_591 : decode cL_areStates 591 = .ok (.iaload, 1) := by decide +kernel
theorem dL_areStates_592 : decode cL_areStates 592 = .ok (.bipush 8, 2) := by decide +kernel
theorem dL_areStates_594 : decode cL_areStates 594 = .ok (.invokevirtual 138, 3) := by decide +kernel
theorem dL_areStates_597 : decode cL_areStates 597 = .ok (.ldc 84, 2) := by decide +kernel
theorem dL_areStates_599 : decode cL_areStates 599 = .ok (.if_icmp .ne 37, 3) := by decide +kernel
theorem dL_areStates_602 : decode cL_areStates 602 = .ok (.aload_n 0, 1) := by decide +kernel
theorem dL_areStates_603 : decode cL_areStates 603 = .ok (.aload_n 3, 1) := by decide +kernel
theorem dL_areStates_604 : decode cL_areStates 604 = .ok (.iload 9, 2) := by decide +kernel
theorem dL_areStates_606 : decode cL_areStates 606 = .ok (.iaload, 1) := by decide +kernel
theorem dL_areStates_607 : decode cL_areStates 607 = .ok (.bipush 6, 2) := by decide +kernel
theorem dL_areStates_609 : decode cL_areStates 609 = .ok (.invokevirtual 141, 3) := by decide +kernel
theorem dL_areStates_612 : decode cL_areStates 612 = .ok (.ldc 84, 2) := by decide +kernel
theorem dL_areStates_614 : decode cL_areStates 614 = .ok (.if_icmp .ne 22, 3) := by decide +kernel
theorem dL_areStates_617 : decode cL_areStates 617 = .ok (.aload_n 0, 1) := by decide +kernel
theorem dL_areStates_618 : decode cL_areStates 618 = .ok (.aload_n 3, 1) := by decide +kernel
theorem dL_areStates_619 : decode cL_areStates 619 = .ok (.iload 9, 2) := by decide +kernel
theorem dL_areStates_621 : decode cL_areStates 621 = .ok (.iaload, 1) := by decide +kernel
theorem dL_areStates_622 : decode cL_areStates 622 = .ok (.bipush 48, 2) := by decide +kernel
theorem dL_areStates_624 : decode cL_areStates 624 = .ok (.invokevirtual 144, 3) := by decide +kernel
theorem dL_areStates_627 : decode cL_areStates 627 = .ok (.ldc 84, 2) := by decide +kernel
theorem dL_areStates_629 : decode cL_areStates 629 = .ok (.if_icmp .ne 7, 3) := by decide +kernel
theorem dL_areStates_632 : decode cL_areStates 632 = .ok (.iconst 1, 1) := by decide +kernel
theorem dL_areStates_633 : decode cL_areStates 633 = .ok (.goto 4, 3) := by decide +kernel
theorem dL_areStates_636 : decode cL_areStates 636 = .ok (.iconst 0, 1) := by decide +kernel
theorem dL_areStates_637 : decode cL_areStates 637 = .ok (.istore 8, 2) := by decide +kernel
theorem dL_areStates_639 : decode cL_areStates 639 = .ok (.iinc 9 1, 3) := by decide +kernel
theorem dL_areStates_642 : decode cL_areStates 642 = .ok (.goto (-597), 3) := by decide +kernel
theorem dL_areStates_645 : decode cL_areStates 645 = .ok (.iload 8, 2) := by decide +kernel
theorem dL_areStates_647 : decode cL_areStates 647 = .ok (.ireturn, 1) := by decide +kernel
theorem dL_isSo_0 : decode cL_isSo 0 = .ok (.iconst 0, 1) := by decide +kernel
theorem dL_isSo_1 : decode cL_isSo 1 = .ok (.istore 8, 2) := by decide +kernel
theorem dL_isSo_3 : decode cL_isSo 3 = .ok (.aload_n 0, 1) := by decide +kernel
theorem dL_isSo_4 : decode cL_isSo 4 = .ok (.aload_n 1, 1) := by decide +kernel
theorem dL_isSo_5 : decode cL_isSo 5 = .ok (.aload_n 2, 1) := by decide +kernel
theorem dL_isSo_6 : decode cL_isSo 6 = .ok (.aload_n 3, 1) := by decide +kernel
theorem dL_isSo_7 : decode cL_isSo 7 = .ok (.aload 4, 2) := by decide +kernel
theorem dL_isSo_9 : decode cL_isSo 9 = .ok (.aload 5, 2) := by decide +kernel
theorem dL_isSo_11 : decode cL_isSo 11 = .ok (.aload 6, 2) := by decide +kernel
theorem dL_isSo_13 : decode cL_isSo 13 = .ok (.aload 7, 2) := by decide +kernel
theorem dL_isSo_15 : decode cL_isSo 15 = .ok (.invokestatic 146, 3) := by decide +kernel
theorem dL_isSo_18 : decode cL_isSo 18 = .ok (.ifCond .eq 21, 3) := by decide +kernel
theorem dL_isSo_21 : decode cL_isSo 21 = .ok (.aload_n 0, 1) := by decide +kernel
theorem dL_isSo_22 : decode cL_isSo 22 = .ok (.aload_n 1, 1) := by decide +kernel
theorem dL_isSo_23 : decode cL_isSo 23 = .ok (.aload 5, 2) := by decide +kernel
theorem dL_isSo_25 : decode cL_isSo 25 = .ok (.aload 6, 2) := by decide +kernel
theorem dL_isSo_27 : decode cL_isSo 27 = .ok (.aload 7, 2) := by decide +kernel
theorem dL_isSo_29 : decode cL_isSo 29 = .ok (.invokestatic 150, 3) := by decide +kernel
theorem dL_isSo_32 : decode cL_isSo 32 = .ok (.ifCond .eq 7, 3) := by decide +kernel
theorem dL_isSo_35 : decode cL_isSo 35 = .ok (.iconst 1, 1) := by decide +kernel
theorem dL_isSo_36 : decode cL_isSo 36 = .ok (.goto 4, 3) := by decide +kernel
theorem dL_isSo_39 : decode cL_isSo 39 = .ok (.iconst 0, 1) := by decide +kernel
theorem dL_isSo_40 : decode cL_isSo 40 = .ok (.istore 9, 2) := by decide +kernel
theorem dL_isSo_42 : decode cL_isSo 42 = .ok (.iconst 0, 1) := by decide +kernel
theorem dL_isSo_43 : decode cL_isSo 43 = .ok (.istore 10, 2) := by decide +kernel
theorem dL_isSo_45 : decode cL_isSo 45 = .ok (.iload 10, 2) := by decide +kernel
theorem dL_isSo_47 : decode cL_isSo 47 = .ok (.iconst 4, 1) := by decide +kernel
theorem dL_isSo_48 : decode cL_isSo 48 = .ok (.if_icmp .ge 63, 3) := by decide +kernel
theorem dL_isSo_51 : decode cL_isSo 51 = .ok (.iload 9, 2) := by decide +kernel
theorem dL_isSo_53 : decode cL_isSo 53 = .ok (.ifCond .eq 58, 3) := by decide +kernel
theorem dL_isSo_56 : decode cL_isSo 56 = .ok (.iload 8, 2) := by decide +kernel
theorem dL_isSo_58 : decode cL_isSo 58 = .ok (.aload_n 2, 1) := by decide +kernel
theorem dL_isSo_59 : decode cL_isSo 59 = .ok (.iload 10, 2) := by decide +kernel
theorem dL_isSo_61 : decode cL_isSo 61 = .ok (.iaload, 1) := by decide +kernel
theorem dL_isSo_62 : decode cL_isSo 62 = .ok (.ifCond .ge 7, 3) := by decide +kernel
theorem dL_isSo_65 : decode cL_isSo 65 = .ok (.iconst 0, 1) := by decide +kernel
theorem dL_isSo_66 : decode cL_isSo 66 = .ok (.goto 4, 3) := by decide +kernel
theorem dL_isSo_69 : decode cL_isSo 69 = .ok (.iconst 1, 1) := by decide +kernel
theorem dL_isSo_70 : decode cL_isSo 70 = .ok (.iadd, 1) := by decide +kernel
theorem dL_isSo_71 : decode cL_isSo 71 = .ok (.istore 8, 2) := by decide +kernel
theorem dL_isSo_73 : decode cL_isSo 73 = .ok (.aload_n 0, 1) := by decide +kernel
theorem dL_isSo_74 : decode cL_isSo 74 = .ok (.iload 10, 2) := by decide +kernel
theorem dL_isSo_76 : decode cL_isSo 76 = .ok (.invokevirtual 88, 3) := by decide +kernel
theorem dL_isSo_79 : decode cL_isSo 79 = .ok (.aload_n 2, 1) := by decide +kernel
theorem dL_isSo_80 : decode cL_isSo 80 = .ok (.iload 10, 2) := by decide +kernel
theorem dL_isSo_82 : decode cL_isSo 82 = .ok (.iaload, 1) := by decide +kernel
theorem dL_isSo_83 : decode cL_isSo 83 = .ok (.ifCond .ge 8, 3) := by decide +kernel
theorem dL_isSo_86 : decode cL_isSo 86 = .ok (.ldc 84, 2) := by decide +kernel
theorem dL_isSo_88 : decode cL_isSo 88 = .ok (.goto 7, 3) := by decide +kernel
theorem dL_isSo_91 : decode cL_isSo 91 = .ok (.aload_n 2, 1) := by decide +kernel
theorem dL_isSo_92 : decode cL_isSo 92 = .ok (.iload 10, 2) := by decide +kernel
theorem dL_isSo_94 : decode cL_isSo 94 = .ok (.iaload, 1) := by decide +kernel
theorem dL_isSo_95 : decode cL_isSo 95 = .ok (.if_icmp .ne 7, 3) := by decide +kernel
theorem dL_isSo_98 : decode cL_isSo 98 = .ok (.iconst 1, 1) := by decide +kernel
theorem dL_isSo_99 : decode cL_isSo 99 = .ok (.goto 4, 3) := by decide +kernel
theorem dL_isSo_102 : decode cL_isSo 102 = .ok (.iconst 0, 1) := by decide +kernel
theorem dL_isSo_103 : decode cL_isSo 103 = .ok (.istore 9, 2) := by decide +kernel
theorem dL_isSo_105 : decode cL_isSo 105 = .ok (.iinc 10 1, 3) := by decide +kernel
theorem dL_isSo_108 : decode cL_isSo 108 = .ok (.goto (-63), 3) := by decide +kernel
theorem dL_isSo_111 : decode cL_isSo 111 = .ok (.iload 9, 2) := by decide +kernel
theorem dL_isSo_113 : decode cL_isSo 113 = .ok (.ifCond .eq 120, 3) := by decide +kernel
theorem dL_isSo_116 : decode cL_isSo 116 = .ok (.aload_n 0, 1) := by decide +kernel
theorem dL_isSo_117 : decode cL_isSo 117 = .ok (.iconst 0, 1) := by decide +kernel
theorem dL_isSo_118 : decode cL_isSo 118 = .ok (.invokevirtual 128, 3) := by decide +kernel
theorem dL_isSo_121 : decode cL_isSo 121 = .ok (.aload_n 1, 1) := by decide +kernel
theorem dL_isSo_122 : decode cL_isSo 122 = .ok (.iconst 0, 1) := by decide +kernel
theorem dL_isSo_123 : decode cL_isSo 123 = .ok (.iaload, 1) := by decide +kernel
theorem dL_isSo_124 : decode cL_isSo 124 = .ok (.if_icmp .ne 109, 3) := by decide +kernel
theorem dL_isSo_127 : decode cL_isSo 127 = .ok (.aload_n 0, 1) := by decide +kernel
theorem dL_isSo_128 : decode cL_isSo 128 = .ok (.iconst 1, 1) := by decide +kernel
theorem dL_isSo_129 : decode cL_isSo 129 = .ok (.invokevirtual 128, 3) := by decide +kernel
theorem dL_isSo_132 : decode cL_isSo 132 = .ok (.iload 8, 2) := by decide +kernel
theorem dL_isSo_134 : decode cL_isSo 134 = .ok (.if_icmp .ne 99, 3) := by decide +kernel
theorem dL_isSo_137 : decode cL_isSo 137 = .ok (.aload_n 0, 1) := by decide +kernel
theorem dL_isSo_138 : decode cL_isSo 138 = .ok (.iconst 3, 1) := by decide +kernel
theorem dL_isSo_139 : decode cL_isSo 139 = .ok (.invokevirtual 128, 3) := by decide +kernel
theorem dL_isSo_142 : decode cL_isSo 142 = .ok (.bipush 6, 2) := by decide +kernel
theorem dL_isSo_144 : decode cL_isSo 144 = .ok (.aload_n 1, 1) := by decide +kernel
theorem dL_isSo_145 : decode cL_isSo 145 = .ok (.iconst 0, 1) := by decide +kernel
theorem dL_isSo_146 : decode cL_isSo 146 = .ok (.iaload, 1) := by decide +kernel
theorem dL_isSo_147 : decode cL_isSo 147 = .ok (.imul, 1) := by decide +kernel
theorem dL_isSo_148 : decode cL_isSo 148 = .ok (.if_icmp .ne 85, 3) := by decide +kernel
theorem dL_isSo_151 : decode cL_isSo 151 = .ok (.aload_n 0, 1) := by decide +kernel
theorem dL_isSo_152 : decode cL_isSo 152 = .ok (.iconst 5, 1) := by decide +kernel
theorem dL_isSo_153 : decode cL_isSo 153 = .ok (.invokevirtual 128, 3) := by decide +kernel
theorem dL_isSo_156 : decode cL_isSo 156 = .ok (.aload_n 1, 1) := by decide +kernel
theorem dL_isSo_157 : decode cL_isSo 157 = .ok (.iconst 1, 1) := by decide +kernel
theorem dL_isSo_158 : decode cL_isSo 158 = .ok (.iaload, 1) := by decide +kernel
theorem dL_isSo_159 : decode cL_isSo 159 = .ok (.if_icmp .ne 74, 3) := by decide +kernel
theorem dL_isSo_162 : decode cL_isSo 162 = .ok (.aload_n 0, 1) := by decide +kernel
theorem dL_isSo_163 : decode cL_isSo 163 = .ok (.bipush 6, 2) := by decide +kernel
theorem dL_isSo_165 : decode cL_isSo 165 = .ok (.invokevirtual 128, 3) := by decide +kernel
theorem dL_isSo_168 : decode cL_isSo 168 = .ok (.aload_n 1, 1) := by decide +kernel
theorem dL_isSo_169 : decode cL_isSo 169 = .ok (.iconst 2, 1) := by decide +kernel
theorem dL_isSo_170 : decode cL_isSo 170 = .ok (.iaload, 1) := by decide +kernel
theorem dL_isSo_171 : decode cL_isSo 171 = .ok (.if_icmp .ne 62, 3) := by decide +kernel
theorem dL_isSo_174 : decode cL_isSo 174 = .ok (.aload_n 0, 1) := by decide +kernel
theorem dL_isSo_175 : decode cL_isSo 175 = .ok (.bipush 7, 2) := by decide +kernel
theorem dL_isSo_177 : decode cL_isSo 177 = .ok (.invokevirtual 128, 3) := by decide +kernel
theorem dL_isSo_180 : decode cL_isSo 180 = .ok (.aload_n 1, 1) := by decide +kernel
theorem dL_isSo_181 : decode cL_isSo 181 = .ok (.iconst 3, 1) := by decide +kernel
theorem dL_isSo_182 : decode cL_isSo 182 = .ok (.iaload, 1) := by decide +kernel
theorem dL_isSo_183 : decode cL_isSo 183 = .ok (.if_icmp .ne 50, 3) := by decide +kernel
theorem dL_isSo_186 : decode cL_isSo 186 = .ok (.aload_n 0, 1) := by decide +kernel
theorem dL_isSo_187 : decode cL_isSo 187 = .ok (.bipush 8, 2) := by decide +kernel
theorem dL_isSo_189 : decode cL_isSo 189 = .ok (.invokevirtual 128, 3) := by decide +kernel
theorem dL_isSo_192 : decode cL_isSo 192 = .ok (.aload_n 1, 1) := by decide +kernel
theorem dL_isSo_193 : decode cL_isSo 193 = .ok (.iconst 4, 1) := by decide +kernel
theorem dL_isSo_194 : decode cL_isSo 194 = .ok (.iaload, 1) := by decide +kernel
theorem dL_isSo_195 : decode cL_isSo 195 = .ok (.if_icmp .ne 38, 3) := by decide +kernel
theorem dL_isSo_198 : decode cL_isSo 198 = .ok (.aload_n 0, 1) := by decide +kernel
theorem dL_isSo_199 : decode cL_isSo 199 = .ok (.bipush 10, 2) := by decide +kernel
theorem dL_isSo_201 : decode cL_isSo 201 = .ok (.invokevirtual 128, 3) := by decide +kernel
theorem dL_isSo_204 : decode cL_isSo 204 = .ok (.ifCond .ne 29, 3) := by decide +kernel
theorem dL_isSo_207 : decode cL_isSo 207 = .ok (.aload_n 0, 1) := by decide +kernel
theorem dL_isSo_208 : decode cL_isSo 208 = .ok (.bipush 20, 2) := by decide +kernel
theorem dL_isSo_210 : decode cL_isSo 210 = .ok (.invokevirtual 128, 3) := by decide +kernel
theorem dL_isSo_213 : decode cL_isSo 213 = .ok (.aload_n 1, 1) := by decide +kernel
theorem dL_isSo_214 : decode cL_isSo 214 = .ok (.iconst 5, 1) := by decide +kernel
theorem dL_isSo_215 : decode cL_isSo 215 = .ok (.iaload, 1) := by decide +kernel
theorem dL_isSo_216 : decode cL_isSo 216 = .ok (.if_icmp .ne 17, 3) := by decide +kernel
theorem dL_isSo_219 : decode cL_isSo 219 = .ok (.aload_n 0, 1) := by decide +kernel
theorem dL_isSo_220 : decode cL_isSo 220 = .ok (.iconst 4, 1) := by decide +kernel
theorem dL_isSo_221 : decode cL_isSo 221 = .ok (.invokevirtual 88, 3) := by decide +kernel
theorem dL_isSo_224 : decode cL_isSo 224 = .ok (.ldc 84, 2) := by decide +kernel
theorem dL_isSo_226 : decode cL_isSo 226 = .ok (.if_icmp .ne 7, 3) := by decide +kernel
theorem dL_isSo_229 : decode cL_isSo 229 = .ok (.iconst 1, 1) := by decide +kernel
theorem dL_isSo_230 : decode cL_isSo 230 = .ok (.goto 4, 3) := by decide +kernel
theorem dL_isSo_233 : decode cL_isSo 233 = .ok (.iconst 0, 1) := by decide +kernel
theorem dL_isSo_234 : decode cL_isSo 234 = .ok (.ireturn, 1) := by decide +kernel

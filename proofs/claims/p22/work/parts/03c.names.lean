theorem dL_isDate_130 : decode cL_isDate 130 = .ok (.invokestatic 87, 3) := by decide +kernel
theorem dL_isDate_133 : decode cL_isDate 133 = .ok (.ifCond .eq 7, 3) := by decide +kernel
theorem dL_isDate_136 : decode cL_isDate 136 = .ok (.iconst 1, 1) := by decide +kernel
theorem dL_isDate_137 : decode cL_isDate 137 = .ok (.goto 4, 3) := by decide +kernel
theorem dL_isDate_140 : decode cL_isDate 140 = .ok (.iconst 0, 1) := by decide +kernel
theorem dL_isDate_141 : decode cL_isDate 141 = .ok (.istore 4, 2) := by decide +kernel
theorem dL_isDate_143 : decode cL_isDate 143 = .ok (.iinc 5 1, 3) := by decide +kernel
theorem dL_isDate_146 : decode cL_isDate 146 = .ok (.goto (-140), 3) := by decide +kernel
theorem dL_isDate_149 : decode cL_isDate 149 = .ok (.iload 4, 2) := by decide +kernel
theorem dL_isDate_151 : decode cL_isDate 151 = .ok (.ireturn, 1) := by decide +kernel
set_option maxRecDepth 20000 in
theorem ggL_isSize_X1_sizeAt : GoodIn wsL_isSize wsX1_sizeAt := goodIn_ca (goodIn_r _ [5, 6, 7, 8, 4, 9, 10, 11, 12, 13, 14, 15, 16, 17, 18, 19, 20, 21, 22, 23, 24, 25, 26, 27, 28, 29, 30, 31, 32, 33, 34, 35, 36, 37, 38, 39, 40, 41, 42, 43, 44, 45, 46, 47, 48, 49, 50, 72, 73, 74, 75, 76, 77, 78, 79, 80] rfl (by decide +kernel)) (goodIn_sub (fun _ h => List.mem_cons_of_mem _ (List.mem_append_right _ h)) (by decide +kernel))
set_option maxRecDepth 20000 in
theorem gL_isSize_X1_sizeAt : GoodIn wsL_isSize (wsV RL 56 RX1 yX1_sizeAt wsX1_sizeAt) := goodIn_app (goodIn_of _ (by decide +kernel)) ggL_isSize_X1_sizeAt
set_option maxRecDepth 20000 in
theorem ggL_isSize_X1_rightsAt : GoodIn wsL_isSize wsX1_rightsAt := goodIn_ca (goodIn_r _ [54, 22, 55, 56, 57, 4, 58, 59, 21, 6, 7, 8, 9, 10, 11, 12, 13, 14, 15, 16, 25, 26, 27, 78, 79, 80, 72, 73, 74, 75, 76, 77] rfl (by decide +kernel)) (goodIn_sub (fun _ h => List.mem_cons_of_mem _ (List.mem_append_right _ h)) (by decide +kernel))
set_option maxRecDepth 20000 in
theorem gL_isSize_X1_rightsAt : GoodIn wsL_isSize (wsV RL 53 RX1 yX1_rightsAt wsX1_rightsAt) := goodIn_app (goodIn_of _ (by decide +kernel)) ggL_isSize_X1_rightsAt
set_option maxRecDepth 20000 in
theorem ggL_isSize_L_length : GoodIn wsL_isSize wsL_length := goodIn_ca (goodIn_r _ [63, 64, 65, 66, 4, 67, 10, 11, 24, 55, 56, 57, 58, 59, 21, 6, 7, 8, 9, 12, 13, 14, 15, 16, 25, 26, 27, 78, 79, 80, 72, 73, 74, 75, 76, 77] rfl (by decide +kernel)) (goodIn_sub (fun _ h => List.mem_cons_of_mem _ (List.mem_append_right _ h)) (by decide +kernel))
set_option maxRecDepth 20000 in
theorem gL_isSize_L_length : GoodIn wsL_isSize (va_wsS RL 83 yL_length wsL_length) := goodIn_app (goodIn_of _ (by decide +kernel)) ggL_isSize_L_length
set_option maxRecDepth 20000 in
theorem ggL_isSize_X1_kindAt : GoodIn wsL_isSize wsX1_kindAt := goodIn_ca (goodIn_r _ [71, 23, 55, 56, 57, 4, 58, 59, 21, 6, 7, 8, 9, 10, 11, 12, 13, 14, 15, 16, 25, 26, 27, 78, 79, 80, 72, 73, 74, 75, 76, 77] rfl (by decide +kernel)) (goodIn_sub (fun _ h => List.mem_cons_of_mem _ (List.mem_append_right _ h)) (by decide +kernel))
set_option maxRecDepth 20000 in
theorem gL_isSize_X1_kindAt : GoodIn wsL_isSize (wsV RL 47 RX1 yX1_kindAt wsX1_kindAt) := goodIn_app (goodIn_of _ (by decide +kernel)) ggL_isSize_X1_kindAt
set_option maxRecDepth 20000 in
theorem ggL_isSize_X1_numberAt : GoodIn wsL_isSize wsX1_numberAt := goodIn_ca (goodIn_r _ [67, 10, 11, 24, 55, 56, 57, 4, 58, 59, 21, 6, 7, 8, 9, 12, 13, 14, 15, 16, 25, 26, 27, 78, 79, 80, 72, 73, 74, 75, 76, 77] rfl (by decide +kernel)) (goodIn_sub (fun _ h => List.mem_cons_of_mem _ (List.mem_append_right _ h)) (by decide +kernel))
set_option maxRecDepth 20000 in
theorem gL_isSize_X1_numberAt : GoodIn wsL_isSize (wsV RL 50 RX1 yX1_numberAt wsX1_numberAt) := goodIn_app (goodIn_of _ (by decide +kernel)) ggL_isSize_X1_numberAt
theorem dL_isSize_0 : decode cL_isSize 0 = .ok (.aload_n 0, 1) := by decide +kernel
theorem dL_isSize_1 : decode cL_isSize 1 = .ok (.iload_n 2, 1) := by decide +kernel
theorem dL_isSize_2 : decode cL_isSize 2 = .ok (.iload_n 3, 1) := by decide +kernel
theorem dL_isSize_3 : decode cL_isSize 3 = .ok (.invokevirtual 56, 3) := by decide +kernel
theorem dL_isSize_6 : decode cL_isSize 6 = .ok (.istore 4, 2) := by decide +kernel
theorem dL_isSize_8 : decode cL_isSize 8 = .ok (.aload_n 1, 1) := by decide +kernel
theorem dL_isSize_9 : decode cL_isSize 9 = .ok (.bipush 6, 2) := by decide +kernel
theorem dL_isSize_11 : decode cL_isSize 11 = .ok (.iload_n 2, 1) := by decide +kernel
theorem dL_isSize_12 : decode cL_isSize 12 = .ok (.bipush 10, 2) := by decide +kernel
theorem dL_isSize_14 : decode cL_isSize 14 = .ok (.irem, 1) := by decide +kernel
theorem dL_isSize_15 : decode cL_isSize 15 = .ok (.imul, 1) := by decide +kernel
theorem dL_isSize_16 : decode cL_isSize 16 = .ok (.iload_n 3, 1) := by decide +kernel
theorem dL_isSize_17 : decode cL_isSize 17 = .ok (.iadd, 1) := by decide +kernel
theorem dL_isSize_18 : decode cL_isSize 18 = .ok (.laload, 1) := by decide +kernel
theorem dL_isSize_19 : decode cL_isSize 19 = .ok (.aload_n 1, 1) := by decide +kernel
theorem dL_isSize_20 : decode cL_isSize 20 = .ok (.bipush 6, 2) := by decide +kernel
theorem dL_isSize_22 : decode cL_isSize 22 = .ok (.iload_n 2, 1) := by decide +kernel
theorem dL_isSize_23 : decode cL_isSize 23 = .ok (.iconst 1, 1) := by decide +kernel
theorem dL_isSize_24 : decode cL_isSize 24 = .ok (.iadd, 1) := by decide +kernel
theorem dL_isSize_25 : decode cL_isSize 25 = .ok (.bipush 10, 2) := by decide +kernel
theorem dL_isSize_27 : decode cL_isSize 27 = .ok (.irem, 1) := by decide +kernel
theorem dL_isSize_28 : decode cL_isSize 28 = .ok (.imul, 1) := by decide +kernel
theorem dL_isSize_29 : decode cL_isSize 29 = .ok (.iload_n 3, 1) := by decide +kernel
theorem dL_isSize_30 : decode cL_isSize 30 = .ok (.iadd, 1) := by decide +kernel
theorem dL_isSize_31 : decode cL_isSize 31 = .ok (.laload, 1) := by decide +kernel
theorem dL_isSize_32 : decode cL_isSize 32 = .ok (.lcmp, 1) := by decide +kernel
theorem dL_isSize_33 : decode cL_isSize 33 = .ok (.ifCond .ne 14, 3) := by decide +kernel
theorem dL_isSize_36 : decode cL_isSize 36 = .ok (.iload 4, 2) := by decide +kernel
theorem dL_isSize_38 : decode cL_isSize 38 = .ok (.ifCond .ne 7, 3) := by decide +kernel
theorem dL_isSize_41 : decode cL_isSize 41 = .ok (.iconst 1, 1) := by decide +kernel
theorem dL_isSize_42 : decode cL_isSize 42 = .ok (.goto 4, 3) := by decide +kernel
theorem dL_isSize_45 : decode cL_isSize 45 = .ok (.iconst 0, 1) := by decide +kernel
theorem dL_isSize_46 : decode cL_isSize 46 = .ok (.ireturn, 1) := by decide +kernel
theorem dL_isSize_47 : decode cL_isSize 47 = .ok (.aload_n 0, 1) := by decide +kernel
theorem dL_isSize_48 : decode cL_isSize 48 = .ok (.iload_n 2, 1) := by decide +kernel
theorem dL_isSize_49 : decode cL_isSize 49 = .ok (.iload_n 3, 1) := by decide +kernel
theorem dL_isSize_50 : decode cL_isSize 50 = .ok (.invokevirtual 53, 3) := by decide +kernel
theorem dL_isSize_53 : decode cL_isSize 53 = .ok (.aload_n 0, 1) := by decide +kernel
theorem dL_isSize_54 : decode cL_isSize 54 = .ok (.iload_n 2, 1) := by decide +kernel
theorem dL_isSize_55 : decode cL_isSize 55 = .ok (.iconst 1, 1) := by decide +kernel
theorem dL_isSize_56 : decode cL_isSize 56 = .ok (.iadd, 1) := by decide +kernel
theorem dL_isSize_57 : decode cL_isSize 57 = .ok (.iload_n 3, 1) := by decide +kernel
theorem dL_isSize_58 : decode cL_isSize 58 = .ok (.invokevirtual 53, 3) := by decide +kernel
theorem dL_isSize_61 : decode cL_isSize 61 = .ok (.if_icmp .ne 7, 3) := by decide +kernel
theorem dL_isSize_64 : decode cL_isSize 64 = .ok (.iconst 0, 1) := by decide +kernel
theorem dL_isSize_65 : decode cL_isSize 65 = .ok (.goto 4, 3) := by decide +kernel
theorem dL_isSize_68 : decode cL_isSize 68 = .ok (.iconst 1, 1) := by decide +kernel
theorem dL_isSize_69 : decode cL_isSize 69 = .ok (.istore 5, 2) := by decide +kernel
theorem dL_isSize_71 : decode cL_isSize 71 = .ok (.aload_n 0, 1) := by decide +kernel
theorem dL_isSize_72 : decode cL_isSize 72 = .ok (.iload_n 2, 1) := by decide +kernel
theorem dL_isSize_73 : decode cL_isSize 73 = .ok (.iload_n 3, 1) := by decide +kernel
theorem dL_isSize_74 : decode cL_isSize 74 = .ok (.invokestatic 83, 3) := by decide +kernel
theorem dL_isSize_77 : decode cL_isSize 77 = .ok (.istore 6, 2) := by decide +kernel
theorem dL_isSize_79 : decode cL_isSize 79 = .ok (.aload_n 0, 1) := by decide +kernel
theorem dL_isSize_80 : decode cL_isSize 80 = .ok (.iload_n 2, 1) := by decide +kernel
theorem dL_isSize_81 : decode cL_isSize 81 = .ok (.iload_n 3, 1) := by decide +kernel
theorem dL_isSize_82 : decode cL_isSize 82 = .ok (.invokevirtual 47, 3) := by decide +kernel
theorem dL_isSize_85 : decode cL_isSize 85 = .ok (.iconst 1, 1) := by decide +kernel
theorem dL_isSize_86 : decode cL_isSize 86 = .ok (.if_icmp .eq 18, 3) := by decide +kernel
theorem dL_isSize_89 : decode cL_isSize 89 = .ok (.iload 4, 2) := by decide +kernel
theorem dL_isSize_91 : decode cL_isSize 91 = .ok (.iconst 1, 1) := by decide +kernel
theorem dL_isSize_92 : decode cL_isSize 92 = .ok (.iload 5, 2) := by decide +kernel
theorem dL_isSize_94 : decode cL_isSize 94 = .ok (.iadd, 1) := by decide +kernel
theorem dL_isSize_95 : decode cL_isSize 95 = .ok (.if_icmp .ne 7, 3) := by decide +kernel
theorem dL_isSize_98 : decode cL_isSize 98 = .ok (.iconst 1, 1) := by decide +kernel
theorem dL_isSize_99 : decode cL_isSize 99 = .ok (.goto 4, 3) := by decide +kernel
theorem dL_isSize_102 : decode cL_isSize 102 = .ok (.iconst 0, 1) := by decide +kernel
theorem dL_isSize_103 : decode cL_isSize 103 = .ok (.ireturn, 1) := by decide +kernel
theorem dL_isSize_104 : decode cL_isSize 104 = .ok (.aload_n 0, 1) := by decide +kernel
theorem dL_isSize_105 : decode cL_isSize 105 = .ok (.iload_n 2, 1) := by decide +kernel
theorem dL_isSize_106 : decode cL_isSize 106 = .ok (.iconst 1, 1) := by decide +kernel
theorem dL_isSize_107 : decode cL_isSize 107 = .ok (.iadd, 1) := by decide +kernel
theorem dL_isSize_108 : decode cL_isSize 108 = .ok (.iload_n 3, 1) := by decide +kernel
theorem dL_isSize_109 : decode cL_isSize 109 = .ok (.invokevirtual 47, 3) := by decide +kernel
theorem dL_isSize_112 : decode cL_isSize 112 = .ok (.iconst 1, 1) := by decide +kernel
theorem dL_isSize_113 : decode cL_isSize 113 = .ok (.if_icmp .eq 21, 3) := by decide +kernel
theorem dL_isSize_116 : decode cL_isSize 116 = .ok (.iload 4, 2) := by decide +kernel
theorem dL_isSize_118 : decode cL_isSize 118 = .ok (.iload 6, 2) := by decide +kernel
theorem dL_isSize_120 : decode cL_isSize 120 = .ok (.iconst 1, 1) := by decide +kernel
theorem dL_isSize_121 : decode cL_isSize 121 = .ok (.iadd, 1) := by decide +kernel
theorem dL_isSize_122 : decode cL_isSize 122 = .ok (.iload 5, 2) := by decide +kernel
theorem dL_isSize_124 : decode cL_isSize 124 = .ok (.iadd, 1) := by decide +kernel
theorem dL_isSize_125 : decode cL_isSize 125 = .ok (.if_icmp .ne 7, 3) := by decide +kernel
theorem dL_isSize_128 : decode cL_isSize 128 = .ok (.iconst 1, 1) := by decide +kernel
theorem dL_isSize_129 : decode cL_isSize 129 = .ok (.goto 4, 3) := by decide +kernel
theorem dL_isSize_132 : decode cL_isSize 132 = .ok (.iconst 0, 1) := by decide +kernel
theorem dL_isSize_133 : decode cL_isSize 133 = .ok (.ireturn, 1) := by decide +kernel
theorem dL_isSize_134 : decode cL_isSize 134 = .ok (.iload 5, 2) := by decide +kernel
theorem dL_isSize_136 : decode cL_isSize 136 = .ok (.istore 7, 2) := by decide +kernel
theorem dL_isSize_138 : decode cL_isSize 138 = .ok (.iconst 0, 1) := by decide +kernel
theorem dL_isSize_139 : decode cL_isSize 139 = .ok (.istore 8, 2) := by decide +kernel
theorem dL_isSize_141 : decode cL_isSize 141 = .ok (.iload 8, 2) := by decide +kernel
theorem dL_isSize_143 : decode cL_isSize 143 = .ok (.iload 6, 2) := by decide +kernel
theorem dL_isSize_145 : decode cL_isSize 145 = .ok (.if_icmp .ge 130, 3) := by decide +kernel
theorem dL_isSize_148 : decode cL_isSize 148 = .ok (.iconst 0, 1) := by decide +kernel
theorem dL_isSize_149 : decode cL_isSize 149 = .ok (.istore 9, 2) := by decide +kernel
theorem dL_isSize_151 : decode cL_isSize 151 = .ok (.iconst 0, 1) := by decide +kernel
theorem dL_isSize_152 : decode cL_isSize 152 = .ok (.istore 10, 2) := by decide +kernel
theorem dL_isSize_154 : decode cL_isSize 154 = .ok (.iload 10, 2) := by decide +kernel
theorem dL_isSize_156 : decode cL_isSize 156 = .ok (.bipush 12, 2) := by decide +kernel
theorem dL_isSize_158 : decode cL_isSize 158 = .ok (.if_icmp .ge 81, 3) := by decide +kernel
theorem dL_isSize_161 : decode cL_isSize 161 = .ok (.iconst 0, 1) := by decide +kernel
theorem dL_isSize_162 : decode cL_isSize 162 = .ok (.istore 11, 2) := by decide +kernel
theorem dL_isSize_164 : decode cL_isSize 164 = .ok (.iload 8, 2) := by decide +kernel
theorem dL_isSize_166 : decode cL_isSize 166 = .ok (.iload 11, 2) := by decide +kernel
theorem dL_isSize_168 : decode cL_isSize 168 = .ok (.iadd, 1) := by decide +kernel
theorem dL_isSize_169 : decode cL_isSize 169 = .ok (.iload 6, 2) := by decide +kernel
theorem dL_isSize_171 : decode cL_isSize 171 = .ok (.if_icmp .ge 46, 3) := by decide +kernel
theorem dL_isSize_174 : decode cL_isSize 174 = .ok (.iload 10, 2) := by decide +kernel
theorem dL_isSize_176 : decode cL_isSize 176 = .ok (.iload 11, 2) := by decide +kernel
theorem dL_isSize_178 : decode cL_isSize 178 = .ok (.iadd, 1) := by decide +kernel
theorem dL_isSize_179 : decode cL_isSize 179 = .ok (.bipush 12, 2) := by decide +kernel
theorem dL_isSize_181 : decode cL_isSize 181 = .ok (.if_icmp .ge 36, 3) := by decide +kernel
theorem dL_isSize_184 : decode cL_isSize 184 = .ok (.aload_n 0, 1) := by decide +kernel
theorem dL_isSize_185 : decode cL_isSize 185 = .ok (.iload_n 2, 1) := by decide +kernel
theorem dL_isSize_186 : decode cL_isSize 186 = .ok (.iload_n 3, 1) := by decide +kernel
theorem dL_isSize_187 : decode cL_isSize 187 = .ok (.iload 8, 2) := by decide +kernel
theorem dL_isSize_189 : decode cL_isSize 189 = .ok (.iload 11, 2) := by decide +kernel
theorem dL_isSize_191 : decode cL_isSize 191 = .ok (.iadd, 1) := by decide +kernel
theorem dL_isSize_192 : decode cL_isSize 192 = .ok (.invokevirtual 50, 3) := by decide +kernel
theorem dL_isSize_195 : decode cL_isSize 195 = .ok (.aload_n 0, 1) := by decide +kernel
theorem dL_isSize_196 : decode cL_isSize 196 = .ok (.iload_n 2, 1) := by decide +kernel
theorem dL_isSize_197 : decode cL_isSize 197 = .ok (.iconst 1, 1) := by decide +kernel
theorem dL_isSize_198 : decode cL_isSize 198 = .ok (.iadd, 1) := by decide +kernel
theorem dL_isSize_199 : decode cL_isSize 199 = .ok (.iload_n 3, 1) := by decide +kernel
theorem dL_isSize_200 : decode cL_isSize 200 = .ok (.iload 10, 2) := by decide +kernel
theorem dL_isSize_202 : decode cL_isSize 202 = .ok (.iload 11, 2) := by decide +kernel
theorem dL_isSize_204 : decode cL_isSize 204 = .ok (.iadd, 1) := by decide +kernel
theorem dL_isSize_205 : decode cL_isSize 205 = .ok (.invokevirtual 50, 3) := by decide +kernel
theorem dL_isSize_208 : decode cL_isSize 208 = .ok (.if_icmp .ne 9, 3) := by decide +kernel
theorem dL_isSize_211 : decode cL_isSize 211 = .ok (.iinc 11 1, 3) := by decide +kernel
theorem dL_isSize_214 : decode cL_isSize 214 = .ok (.goto (-50), 3) := by decide +kernel
theorem dL_isSize_217 : decode cL_isSize 217 = .ok (.iload 11, 2) := by decide +kernel
theorem dL_isSize_219 : decode cL_isSize 219 = .ok (.iload 9, 2) := by decide +kernel
theorem dL_isSize_221 : decode cL_isSize 221 = .ok (.if_icmp .le 8, 3) := by decide +kernel
theorem dL_isSize_224 : decode cL_isSize 224 = .ok (.iload 11, 2) := by decide +kernel
theorem dL_isSize_226 : decode cL_isSize 226 = .ok (.goto 5, 3) := by decide +kernel
theorem dL_isSize_229 : decode cL_isSize 229 = .ok (.iload 9, 2) := by decide +kernel
theorem dL_isSize_231 : decode cL_isSize 231 = .ok (.istore 9, 2) := by decide +kernel
theorem dL_isSize_233 : decode cL_isSize 233 = .ok (.iinc 10 1, 3) := by decide +kernel
theorem dL_isSize_236 : decode cL_isSize 236 = .ok (.goto (-82), 3) := by decide +kernel
theorem dL_isSize_239 : decode cL_isSize 239 = .ok (.iload 7, 2) := by decide +kernel
theorem dL_isSize_241 : decode cL_isSize 241 = .ok (.iload 9, 2) := by decide +kernel
theorem dL_isSize_243 : decode cL_isSize 243 = .ok (.iconst 2, 1) := by decide +kernel
theorem dL_isSize_244 : decode cL_isSize 244 = .ok (.if_icmp .le 7, 3) := by decide +kernel
theorem dL_isSize_247 : decode cL_isSize 247 = .ok (.iconst 2, 1) := by decide +kernel
theorem dL_isSize_248 : decode cL_isSize 248 = .ok (.goto 4, 3) := by decide +kernel
theorem dL_isSize_251 : decode cL_isSize 251 = .ok (.iconst 1, 1) := by decide +kernel
theorem dL_isSize_252 : decode cL_isSize 252 = .ok (.iadd, 1) := by decide +kernel
theorem dL_isSize_253 : decode cL_isSize 253 = .ok (.istore 7, 2) := by decide +kernel
theorem dL_isSize_255 : decode cL_isSize 255 = .ok (.iload 8, 2) := by decide +kernel
theorem dL_isSize_257 : decode cL_isSize 257 = .ok (.iload 9, 2) := by decide +kernel
theorem dL_isSize_259 : decode cL_isSize 259 = .ok (.iconst 2, 1) := by decide +kernel
theorem dL_isSize_260 : decode cL_isSize 260 = .ok (.if_icmp .le 8, 3) := by decide +kernel
theorem dL_isSize_263 : decode cL_isSize 263 = .ok (.iload 9, 2) := by decide +kernel
theorem dL_isSize_265 : decode cL_isSize 265 = .ok (.goto 4, 3) := by decide +kernel
theorem dL_isSize_268 : decode cL_isSize 268 = .ok (.iconst 1, 1) := by decide +kernel
theorem dL_isSize_269 : decode cL_isSize 269 = .ok (.iadd, 1) := by decide +kernel
theorem dL_isSize_270 : decode cL_isSize 270 = .ok (.istore 8, 2) := by decide +kernel
theorem dL_isSize_272 : decode cL_isSize 272 = .ok (.goto (-131), 3) := by decide +kernel
theorem dL_isSize_275 : decode cL_isSize 275 = .ok (.iload 4, 2) := by decide +kernel
theorem dL_isSize_277 : decode cL_isSize 277 = .ok (.iload 7, 2) := by decide +kernel
theorem dL_isSize_279 : decode cL_isSize 279 = .ok (.if_icmp .ne 7, 3) := by decide +kernel
theorem dL_isSize_282 : decode cL_isSize 282 = .ok (.iconst 1, 1) := by decide +kernel
theorem dL_isSize_283 : decode cL_isSize 283 = .ok (.goto 4, 3) := by decide +kernel
theorem dL_isSize_286 : decode cL_isSize 286 = .ok (.iconst 0, 1) := by decide +kernel
theorem dL_isSize_287 : decode cL_isSize 287 = .ok (.ireturn, 1) := by decide +kernel
set_option maxRecDepth 20000 in
theorem ggL_isSum_X1_oldest : GoodIn wsL_isSum wsX1_oldest := goodIn_r _ [5, 6, 63, 64, 65, 66, 67, 68] rfl (by decide +kernel)
set_option maxRecDepth 20000 in
theorem gL_isSum_X1_oldest : GoodIn wsL_isSum (wsV RL 73 RX1 yX1_oldest wsX1_oldest) := goodIn_app (goodIn_of _ (by decide +kernel)) ggL_isSum_X1_oldest
set_option maxRecDepth 20000 in
theorem ggL_isSum_X1_last : GoodIn wsL_isSum wsX1_last := goodIn_r _ [10, 11, 63, 64, 65, 66, 67, 68] rfl (by decide +kernel)
set_option maxRecDepth 20000 in
theorem gL_isSum_X1_last : GoodIn wsL_isSum (wsV RL 69 RX1 yX1_last wsX1_last) := goodIn_app (goodIn_of _ (by decide +kernel)) ggL_isSum_X1_last
set_option maxRecDepth 20000 in
theorem ggL_isSum_X1_sizeAt : GoodIn wsL_isSum wsX1_sizeAt := goodIn_ca (goodIn_r _ [15, 16, 17, 18, 4, 19, 20, 21, 6, 11, 22, 23, 24, 25, 26, 27, 28, 29, 30, 31, 32, 33, 34, 35, 36, 37, 38, 39, 40, 41, 42, 43, 44, 45, 46, 47, 48, 49, 50, 51, 52, 53, 54, 55, 56, 57, 58, 63, 64, 65, 66, 67, 68, 69, 70, 71] rfl (by decide +kernel)) (goodIn_sub (fun _ h => List.mem_cons_of_mem _ (List.mem_append_right _ h)) (by decide +kernel))
set_option maxRecDepth 20000 in
theorem gL_isSum_X1_sizeAt : GoodIn wsL_isSum (wsV RL 56 RX1 yX1_sizeAt wsX1_sizeAt) := goodIn_app (goodIn_of _ (by decide +kernel)) ggL_isSum_X1_sizeAt
set_option maxRecDepth 20000 in
theorem ggL_isSum_X1_size : GoodIn wsL_isSum wsX1_size := goodIn_r _ [62, 6, 11, 25, 26, 27, 4, 28, 29, 30, 31, 32, 33, 34, 35, 36, 37, 38, 39, 40, 41, 42, 43, 44, 45, 46, 47, 48, 49, 50, 51, 52, 53, 54, 55, 56, 57, 58, 63, 64, 65, 66, 67, 68, 69, 70, 71] rfl (by decide +kernel)
set_option maxRecDepth 20000 in
theorem gL_isSum_X1_size : GoodIn wsL_isSum (wsV RL 91 RX1 yX1_size wsX1_size) := goodIn_app (goodIn_of _ (by decide +kernel)) ggL_isSum_X1_size
theorem dL_isSum_0 : decode cL_isSum 0 = .ok (.iconst 0, 1) := by decide +kernel
theorem dL_isSum_1 : decode cL_isSum 1 = .ok (.istore_n 1, 1) := by decide +kernel
theorem dL_isSum_2 : decode cL_isSum 2 = .ok (.bipush 6, 2) := by decide +kernel
theorem dL_isSum_4 : decode cL_isSum 4 = .ok (.aload_n 0, 1) := by decide +kernel
theorem dL_isSum_5 : decode cL_isSum 5 = .ok (.invokevirtual 73, 3) := by decide +kernel
theorem dL_isSum_8 : decode cL_isSum 8 = .ok (.imul, 1) := by decide +kernel
theorem dL_isSum_9 : decode cL_isSum 9 = .ok (.istore_n 2, 1) := by decide +kernel
theorem dL_isSum_10 : decode cL_isSum 10 = .ok (.iload_n 2, 1) := by decide +kernel
theorem dL_isSum_11 : decode cL_isSum 11 = .ok (.bipush 6, 2) := by decide +kernel
theorem dL_isSum_13 : decode cL_isSum 13 = .ok (.aload_n 0, 1) := by decide +kernel
theorem dL_isSum_14 : decode cL_isSum 14 = .ok (.invokevirtual 69, 3) := by decide +kernel
theorem dL_isSum_17 : decode cL_isSum 17 = .ok (.imul, 1) := by decide +kernel
theorem dL_isSum_18 : decode cL_isSum 18 = .ok (.bipush 6, 2) := by decide +kernel
theorem dL_isSum_20 : decode cL_isSum 20 = .ok (.iadd, 1) := by decide +kernel
theorem dL_isSum_21 : decode cL_isSum 21 = .ok (.if_icmp .ge 24, 3) := by decide +kernel
theorem dL_isSum_24 : decode cL_isSum 24 = .ok (.iload_n 1, 1) := by decide +kernel
theorem dL_isSum_25 : decode cL_isSum 25 = .ok (.aload_n 0, 1) := by decide +kernel
theorem dL_isSum_26 : decode cL_isSum 26 = .ok (.iload_n 2, 1) := by decide +kernel
theorem dL_isSum_27 : decode cL_isSum 27 = .ok (.bipush 6, 2) := by decide +kernel
theorem dL_isSum_29 : decode cL_isSum 29 = .ok (.idiv, 1) := by decide +kernel
theorem dL_isSum_30 : decode cL_isSum 30 = .ok (.iload_n 2, 1) := by decide +kernel
theorem dL_isSum_31 : decode cL_isSum 31 = .ok (.bipush 6, 2) := by decide +kernel
theorem dL_isSum_33 : decode cL_isSum 33 = .ok (.irem, 1) := by decide +kernel
theorem dL_isSum_34 : decode cL_isSum 34 = .ok (.invokevirtual 56, 3) := by decide +kernel
theorem dL_isSum_37 : decode cL_isSum 37 = .ok (.iadd, 1) := by decide +kernel
theorem dL_isSum_38 : decode cL_isSum 38 = .ok (.istore_n 1, 1) := by decide +kernel
theorem dL_isSum_39 : decode cL_isSum 39 = .ok (.iinc 2 1, 3) := by decide +kernel
theorem dL_isSum_42 : decode cL_isSum 42 = .ok (.goto (-32), 3) := by decide +kernel
theorem dL_isSum_45 : decode cL_isSum 45 = .ok (.aload_n 0, 1) := by decide +kernel
theorem dL_isSum_46 : decode cL_isSum 46 = .ok (.invokevirtual 91, 3) := by decide +kernel
theorem dL_isSum_49 : decode cL_isSum 49 = .ok (.iload_n 1, 1) := by decide +kernel
theorem dL_isSum_50 : decode cL_isSum 50 = .ok (.if_icmp .ne 7, 3) := by decide +kernel
theorem dL_isSum_53 : decode cL_isSum 53 = .ok (.iconst 1, 1) := by decide +kernel
theorem dL_isSum_54 : decode cL_isSum 54 = .ok (.goto 4, 3) := by decide +kernel
theorem dL_isSum_57 : decode cL_isSum 57 = .ok (.iconst 0, 1) := by decide +kernel
theorem dL_isSum_58 : decode cL_isSum 58 = .ok (.ireturn, 1) := by decide +kernel
set_option maxRecDepth 20000 in
theorem ggL_isOnly_L_told : GoodIn wsL_isOnly wsL_told := goodIn_ca (goodIn_r _ [4, 5, 6, 7, 8, 9, 10, 11, 12, 13, 14, 15, 16, 17, 18, 19, 20, 21, 22, 23, 24, 25, 26, 27, 28, 29, 30, 31, 32, 33, 34, 35, 36, 37, 38, 39, 40, 41, 42, 43, 44, 45, 46, 47, 48, 49, 50, 51] rfl (by decide +kernel)) (goodIn_sub (fun _ h => List.mem_cons_of_mem _ (List.mem_append_right _ h)) (by decide +kernel))
set_option maxRecDepth 20000 in
theorem gL_isOnly_L_told : GoodIn wsL_isOnly (va_wsS RL 63 yL_told wsL_told) := goodIn_app (goodIn_of _ (by decide +kernel)) ggL_isOnly_L_told
theorem dL_isOnly_0 : decode cL_isOnly 0 = .ok (.iconst 1, 1) := by decide +kernel
theorem dL_isOnly_1 : decode cL_isOnly 1 = .ok (.istore_n 3, 1) := by decide +kernel
theorem dL_isOnly_2 : decode cL_isOnly 2 = .ok (.iconst 0, 1) := by decide +kernel
theorem dL_isOnly_3 : decode cL_isOnly 3 = .ok (.istore 4, 2) := by decide +kernel
theorem dL_isOnly_5 : decode cL_isOnly 5 = .ok (.iload 4, 2) := by decide +kernel
theorem dL_isOnly_7 : decode cL_isOnly 7 = .ok (.bipush 6, 2) := by decide +kernel
theorem dL_isOnly_9 : decode cL_isOnly 9 = .ok (.if_icmp .ge 40, 3) := by decide +kernel
theorem dL_isOnly_12 : decode cL_isOnly 12 = .ok (.iload_n 3, 1) := by decide +kernel
theorem dL_isOnly_13 : decode cL_isOnly 13 = .ok (.ifCond .eq 36, 3) := by decide +kernel
theorem dL_isOnly_16 : decode cL_isOnly 16 = .ok (.iload 4, 2) := by decide +kernel
theorem dL_isOnly_18 : decode cL_isOnly 18 = .ok (.iload_n 2, 1) := by decide +kernel
theorem dL_isOnly_19 : decode cL_isOnly 19 = .ok (.if_icmp .eq 18, 3) := by decide +kernel
theorem dL_isOnly_22 : decode cL_isOnly 22 = .ok (.aload_n 0, 1) := by decide +kernel
theorem dL_isOnly_23 : decode cL_isOnly 23 = .ok (.iconst (-1), 1) := by decide +kernel
theorem dL_isOnly_24 : decode cL_isOnly 24 = .ok (.iload 4, 2) := by decide +kernel
theorem dL_isOnly_26 : decode cL_isOnly 26 = .ok (.invokestatic 63, 3) := by decide +kernel
theorem dL_isOnly_29 : decode cL_isOnly 29 = .ok (.aload_n 1, 1) := by decide +kernel
theorem dL_isOnly_30 : decode cL_isOnly 30 = .ok (.iload 4, 2) := by decide +kernel
theorem dL_isOnly_32 : decode cL_isOnly 32 = .ok (.laload, 1) := by decide +kernel
theorem dL_isOnly_33 : decode cL_isOnly 33 = .ok (.lcmp, 1) := by decide +kernel
theorem dL_isOnly_34 : decode cL_isOnly 34 = .ok (.ifCond .ne 7, 3) := by decide +kernel
theorem dL_isOnly_37 : decode cL_isOnly 37 = .ok (.iconst 1, 1) := by decide +kernel
theorem dL_isOnly_38 : decode cL_isOnly 38 = .ok (.goto 4, 3) := by decide +kernel
theorem dL_isOnly_41 : decode cL_isOnly 41 = .ok (.iconst 0, 1) := by decide +kernel
theorem dL_isOnly_42 : decode cL_isOnly 42 = .ok (.istore_n 3, 1) := by decide +kernel
theorem dL_isOnly_43 : decode cL_isOnly 43 = .ok (.iinc 4 1, 3) := by decide +kernel
theorem dL_isOnly_46 : decode cL_isOnly 46 = .ok (.goto (-41), 3) := by decide +kernel
theorem dL_isOnly_49 : decode cL_isOnly 49 = .ok (.iload_n 3, 1) := by decide +kernel
theorem dL_isOnly_50 : decode cL_isOnly 50 = .ok (.ireturn, 1) := by decide +kernel
set_option maxRecDepth 20000 in
theorem ggL_all_X1_last : GoodIn wsL_all wsX1_last := goodIn_r _ [10, 11, 100, 101, 102, 103, 104, 105] rfl (by decide +kernel)
set_option maxRecDepth 20000 in
theorem gL_all_X1_last : GoodIn wsL_all (wsV RL 69 RX1 yX1_last wsX1_last) := goodIn_app (goodIn_of _ (by decide +kernel)) ggL_all_X1_last
set_option maxRecDepth 20000 in
theorem ggL_all_X1_oldest : GoodIn wsL_all wsX1_oldest := goodIn_r _ [15, 16, 100, 101, 102, 103, 104, 105] rfl (by decide +kernel)
set_option maxRecDepth 20000 in
theorem gL_all_X1_oldest : GoodIn wsL_all (wsV RL 73 RX1 yX1_oldest wsX1_oldest) := goodIn_app (goodIn_of _ (by decide +kernel)) ggL_all_X1_oldest
set_option maxRecDepth 20000 in
theorem ggL_all_X1_needs : GoodIn wsL_all wsX1_needs := goodIn_r _ [20, 21, 22, 23, 9, 24, 25, 26, 11, 27, 28, 29, 30, 31, 32, 33, 34, 35, 36, 37, 38, 39, 40, 41, 42, 100, 101, 102, 103, 104, 105, 106, 107, 108] rfl (by decide +kernel)
set_option maxRecDepth 20000 in
theorem gL_all_X1_needs : GoodIn wsL_all (wsV RL 80 RX1 yX1_needs wsX1_needs) := goodIn_app (goodIn_of _ (by decide +kernel)) ggL_all_X1_needs
set_option maxRecDepth 20000 in
theorem ggL_all_X1_size : GoodIn wsL_all wsX1_size := goodIn_r _ [46, 16, 11, 47, 48, 49, 9, 50, 26, 51, 52, 53, 27, 28, 29, 30, 31, 32, 33, 34, 35, 36, 37, 38, 39, 40, 41, 42, 54, 55, 56, 57, 58, 59, 60, 61, 62, 63, 100, 101, 102, 103, 104, 105, 106, 107, 108] rfl (by decide +kernel)
set_option maxRecDepth 20000 in
theorem gL_all_X1_size : GoodIn wsL_all (wsV RL 91 RX1 yX1_size wsX1_size) := goodIn_app (goodIn_of _ (by decide +kernel)) ggL_all_X1_size
set_option maxRecDepth 20000 in
theorem ggL_all_X1_isBroken : GoodIn wsL_all wsX1_isBroken := goodIn_r _ [67, 68, 100, 101, 102, 103, 104, 105] rfl (by decide +kernel)
set_option maxRecDepth 20000 in
theorem gL_all_X1_isBroken : GoodIn wsL_all (wsV RL 76 RX1 yX1_isBroken wsX1_isBroken) := goodIn_app (goodIn_of _ (by decide +kernel)) ggL_all_X1_isBroken
set_option maxRecDepth 20000 in
theorem ggL_all_L_told : GoodIn wsL_all wsL_told := goodIn_ca (goodIn_r _ [72, 73, 74, 75, 76, 77, 9, 78, 52, 79, 80, 81, 82, 25, 26, 83, 84, 85, 86, 87, 88, 16, 11, 89, 90, 91, 27, 28, 29, 92, 93, 94, 95, 51, 96, 97, 98, 99, 53, 106, 107, 108, 100, 101, 102, 103, 104, 105] rfl (by decide +kernel)) (goodIn_sub (fun _ h => List.mem_cons_of_mem _ (List.mem_append_right _ h)) (by decide +kernel))
set_option maxRecDepth 20000 in
theorem gL_all_L_told : GoodIn wsL_all (va_wsS RL 63 yL_told wsL_told) := goodIn_app (goodIn_of _ (by decide +kernel)) ggL_all_L_told
theorem dL_all_0 : decode cL_all 0 = .ok (.aload_n 0, 1) := by decide +kernel
theorem dL_all_1 : decode cL_all 1 = .ok (.invokevirtual 69, 3) := by decide +kernel
theorem dL_all_4 : decode cL_all 4 = .ok (.i2l, 1) := by decide +kernel
theorem dL_all_5 : decode cL_all 5 = .ok (.ldc2_w 94, 3) := by decide +kernel
theorem dL_all_8 : decode cL_all 8 = .ok (.aload_n 0, 1) := by decide +kernel
theorem dL_all_9 : decode cL_all 9 = .ok (.invokevirtual 73, 3) := by decide +kernel
theorem dL_all_12 : decode cL_all 12 = .ok (.i2l, 1) := by decide +kernel
theorem dL_all_13 : decode cL_all 13 = .ok (.lmul, 1) := by decide +kernel
theorem dL_all_14 : decode cL_all 14 = .ok (.ladd, 1) := by decide +kernel
theorem dL_all_15 : decode cL_all 15 = .ok (.ldc2_w 96, 3) := by decide +kernel
theorem dL_all_18 : decode cL_all 18 = .ok (.aload_n 0, 1) := by decide +kernel
theorem dL_all_19 : decode cL_all 19 = .ok (.invokevirtual 80, 3) := by decide +kernel
theorem dL_all_22 : decode cL_all 22 = .ok (.i2l, 1) := by decide +kernel
theorem dL_all_23 : decode cL_all 23 = .ok (.lmul, 1) := by decide +kernel
theorem dL_all_24 : decode cL_all 24 = .ok (.ladd, 1) := by decide +kernel
theorem dL_all_25 : decode cL_all 25 = .ok (.ldc2_w 98, 3) := by decide +kernel
theorem dL_all_28 : decode cL_all 28 = .ok (.aload_n 0, 1) := by decide +kernel
theorem dL_all_29 : decode cL_all 29 = .ok (.invokevirtual 91, 3) := by decide +kernel
theorem dL_all_32 : decode cL_all 32 = .ok (.i2l, 1) := by decide +kernel
theorem dL_all_33 : decode cL_all 33 = .ok (.lmul, 1) := by decide +kernel
theorem dL_all_34 : decode cL_all 34 = .ok (.ladd, 1) := by decide +kernel
theorem dL_all_35 : decode cL_all 35 = .ok (.aload_n 0, 1) := by decide +kernel
theorem dL_all_36 : decode cL_all 36 = .ok (.invokevirtual 76, 3) := by decide +kernel
theorem dL_all_39 : decode cL_all 39 = .ok (.ifCond .eq 9, 3) := by decide +kernel
theorem dL_all_42 : decode cL_all 42 = .ok (.ldc2_w 100, 3) := by decide +kernel
theorem dL_all_45 : decode cL_all 45 = .ok (.goto 4, 3) := by decide +kernel
theorem dL_all_48 : decode cL_all 48 = .ok (.lconst 0, 1) := by decide +kernel
theorem dL_all_49 : decode cL_all 49 = .ok (.ladd, 1) := by decide +kernel
theorem dL_all_50 : decode cL_all 50 = .ok (.lstore_n 1, 1) := by decide +kernel
theorem dL_all_51 : decode cL_all 51 = .ok (.iconst 0, 1) := by decide +kernel
theorem dL_all_52 : decode cL_all 52 = .ok (.istore_n 3, 1) := by decide +kernel
theorem dL_all_53 : decode cL_all 53 = .ok (.iload_n 3, 1) := by decide +kernel
theorem dL_all_54 : decode cL_all 54 = .ok (.bipush 6, 2) := by decide +kernel
theorem dL_all_56 : decode cL_all 56 = .ok (.if_icmp .ge 22, 3) := by decide +kernel
theorem dL_all_59 : decode cL_all 59 = .ok (.ldc2_w 102, 3) := by decide +kernel
theorem dL_all_62 : decode cL_all 62 = .ok (.lload_n 1, 1) := by decide +kernel
theorem dL_all_63 : decode cL_all 63 = .ok (.lmul, 1) := by decide +kernel
theorem dL_all_64 : decode cL_all 64 = .ok (.aload_n 0, 1) := by decide +kernel
theorem dL_all_65 : decode cL_all 65 = .ok (.iconst (-1), 1) := by decide +kernel
theorem dL_all_66 : decode cL_all 66 = .ok (.iload_n 3, 1) := by decide +kernel
theorem dL_all_67 : decode cL_all 67 = .ok (.invokestatic 63, 3) := by decide +kernel
theorem dL_all_70 : decode cL_all 70 = .ok (.ladd, 1) := by decide +kernel
theorem dL_all_71 : decode cL_all 71 = .ok (.lstore_n 1, 1) := by decide +kernel
theorem dL_all_72 : decode cL_all 72 = .ok (.iinc 3 1, 3) := by decide +kernel
theorem dL_all_75 : decode cL_all 75 = .ok (.goto (-22), 3) := by decide +kernel
theorem dL_all_78 : decode cL_all 78 = .ok (.lload_n 1, 1) := by decide +kernel
theorem dL_all_79 : decode cL_all 79 = .ok (.lreturn, 1) := by decide +kernel
set_option maxRecDepth 20000 in
theorem ggL_isRefused_L_all : GoodIn wsL_isRefused wsL_all := goodIn_ca (goodIn_r _ [4, 5, 6, 7, 8, 9, 10, 11, 12, 13, 14, 15, 16, 17, 18, 19, 20, 21, 22, 23, 24, 25, 26, 27, 28, 29, 30, 31, 32, 33, 34, 35, 36, 37, 38, 39, 40, 41, 42, 43, 44, 45, 46, 47, 48, 49, 50, 51, 52, 53, 54, 55, 56, 57, 58, 59, 60, 61, 62, 63, 64, 65, 66, 67, 68, 69, 70, 71, 72, 73, 74, 3, 75, 76, 77, 78, 79, 80, 81, 82, 83, 84, 85, 86, 87, 88, 89, 90, 91, 92, 93, 94, 95, 96, 97, 98, 99, 100, 101, 102, 183, 184, 185, 186, 187, 188, 189, 190, 191] rfl (by decide +kernel)) (goodIn_sub (fun _ h => List.mem_cons_of_mem _ (List.mem_append_left _ (List.mem_append_left _ (List.mem_append_right _ h)))) (by decide +kernel))
set_option maxRecDepth 20000 in
theorem gL_isRefused_L_all : GoodIn wsL_isRefused (va_wsS RL 104 yL_all wsL_all) := goodIn_app (goodIn_of _ (by decide +kernel)) ggL_isRefused_L_all
set_option maxRecDepth 20000 in
theorem ggL_isRefused_L_act : GoodIn wsL_isRefused wsL_act := goodIn_ca (goodIn_ca (goodIn_ca (goodIn_r _ [105, 106, 107, 108, 109, 110, 111, 13, 112, 113, 114, 37, 115, 92, 93, 94, 90, 91, 116, 117, 118, 119, 120, 121, 39, 40, 41, 122, 123, 124, 125, 29, 56, 126, 127, 128, 129, 130, 131, 132, 133, 134, 135, 136, 137, 138, 139, 140, 141, 57, 55, 142, 143, 144, 145, 146, 147, 148, 149, 150, 151, 152, 153, 154, 155, 156, 157, 158, 159, 15, 72, 160, 30, 161, 162, 163, 164, 25, 26, 27, 28, 31, 32, 33, 34, 35, 36, 38, 42, 43, 44, 45, 46, 165, 166, 167, 168, 20, 169, 170, 171, 172, 86, 87, 88, 89, 189, 190, 191, 183, 184, 185, 186, 187, 188] rfl (by decide +kernel)) (goodIn_sub (fun _ h => List.mem_cons_of_mem _ (List.mem_append_left _ (List.mem_append_left _ (List.mem_append_right _ h)))) (by decide +kernel))) (goodIn_sub (fun _ h => List.mem_cons_of_mem _ (List.mem_append_left _ (List.mem_append_right _ h))) (by decide +kernel))) (goodIn_sub (fun _ h => List.mem_cons_of_mem _ (List.mem_append_right _ h)) (by decide +kernel))
set_option maxRecDepth 20000 in
theorem gL_isRefused_L_act : GoodIn wsL_isRefused (va_wsS RL 108 yL_act wsL_act) := goodIn_app (goodIn_of _ (by decide +kernel)) ggL_isRefused_L_act
set_option maxRecDepth 20000 in
theorem ggL_isRefused_L_of : GoodIn wsL_isRefused wsL_of := goodIn_ca (goodIn_r _ [175, 106, 78, 79, 80, 13, 81, 56, 82, 83, 84, 85, 29, 30, 86, 87, 88, 89, 90, 91, 20, 15, 92, 93, 94, 31, 32, 33, 99, 100, 101, 102, 57, 95, 96, 97, 98, 55, 176, 177, 178, 179, 51, 52, 53, 54, 34, 35, 36, 37, 38, 39, 40, 41, 42, 43, 44, 45, 46, 58, 59, 60, 61, 62, 63, 64, 65, 66, 67, 189, 190, 191, 183, 184, 185, 186, 187, 188] rfl (by decide +kernel)) (goodIn_sub (fun _ h => List.mem_cons_of_mem _ (List.mem_append_left _ (List.mem_append_left _ (List.mem_append_right _ h)))) (by decide +kernel))
set_option maxRecDepth 20000 in
theorem gL_isRefused_L_of : GoodIn wsL_isRefused (va_wsS RL 112 yL_of wsL_of) := goodIn_app (goodIn_of _ (by decide +kernel)) ggL_isRefused_L_of
set_option maxRecDepth 20000 in
theorem ggL_isRefused_X1_kindAt : GoodIn wsL_isRefused wsX1_kindAt := goodIn_ca (goodIn_r _ [81, 56, 82, 83, 84, 13, 85, 29, 30, 86, 87, 88, 89, 90, 91, 20, 15, 92, 93, 94, 31, 32, 33, 189, 190, 191, 183, 184, 185, 186, 187, 188] rfl (by decide +kernel)) (goodIn_sub (fun _ h => List.mem_cons_of_mem _ (List.mem_append_left _ (List.mem_append_left _ (List.mem_append_right _ h)))) (by decide +kernel))
set_option maxRecDepth 20000 in
theorem gL_isRefused_X1_kindAt : GoodIn wsL_isRefused (wsV RL 47 RX1 yX1_kindAt wsX1_kindAt) := goodIn_app (goodIn_of _ (by decide +kernel)) ggL_isRefused_X1_kindAt
set_option maxRecDepth 20000 in
theorem ggL_isRefused_L_length : GoodIn wsL_isRefused wsL_length := goodIn_ca (goodIn_r _ [182, 99, 100, 101, 13, 102, 90, 91, 57, 82, 83, 84, 85, 29, 30, 86, 87, 88, 89, 20, 15, 92, 93, 94, 31, 32, 33, 189, 190, 191, 183, 184, 185, 186, 187, 188] rfl (by decide +kernel)) (goodIn_sub (fun _ h => List.mem_cons_of_mem _ (List.mem_append_left _ (List.mem_append_left _ (List.mem_append_right _ h)))) (by decide +kernel))
set_option maxRecDepth 20000 in
theorem gL_isRefused_L_length : GoodIn wsL_isRefused (va_wsS RL 83 yL_length wsL_length) := goodIn_app (goodIn_of _ (by decide +kernel)) ggL_isRefused_L_length
theorem dL_isRefused_0 : decode cL_isRefused 0 = .ok (.iload_n 2, 1) := by decide +kernel
theorem dL_isRefused_1 : decode cL_isRefused 1 = .ok (.iconst 2, 1) := by decide +kernel
theorem dL_isRefused_2 : decode cL_isRefused 2 = .ok (.irem, 1) := by decide +kernel
theorem dL_isRefused_3 : decode cL_isRefused 3 = .ok (.ifCond .ne 7, 3) := by decide +kernel
theorem dL_isRefused_6 : decode cL_isRefused 6 = .ok (.iconst 1, 1) := by decide +kernel
theorem dL_isRefused_7 : decode cL_isRefused 7 = .ok (.goto 4, 3) := by decide +kernel
theorem dL_isRefused_10 : decode cL_isRefused 10 = .ok (.iconst 0, 1) := by decide +kernel
theorem dL_isRefused_11 : decode cL_isRefused 11 = .ok (.istore_n 3, 1) := by decide +kernel
theorem dL_isRefused_12 : decode cL_isRefused 12 = .ok (.iload_n 3, 1) := by decide +kernel
theorem dL_isRefused_13 : decode cL_isRefused 13 = .ok (.ifCond .eq 12, 3) := by decide +kernel
theorem dL_isRefused_16 : decode cL_isRefused 16 = .ok (.iconst (-1), 1) := by decide +kernel
theorem dL_isRefused_17 : decode cL_isRefused 17 = .ok (.iload_n 2, 1) := by decide +kernel
theorem dL_isRefused_18 : decode cL_isRefused 18 = .ok (.bipush 30, 2) := by decide +kernel
theorem dL_isRefused_20 : decode cL_isRefused 20 = .ok (.irem, 1) := by decide +kernel
theorem dL_isRefused_21 : decode cL_isRefused 21 = .ok (.isub, 1) := by decide +kernel
theorem dL_isRefused_22 : decode cL_isRefused 22 = .ok (.goto 10, 3) := by decide +kernel
theorem dL_isRefused_25 : decode cL_isRefused 25 = .ok (.bipush 6, 2) := by decide +kernel
theorem dL_isRefused_27 : decode cL_isRefused 27 = .ok (.iload_n 2, 1) := by decide +kernel
theorem dL_isRefused_28 : decode cL_isRefused 28 = .ok (.bipush 30, 2) := by decide +kernel
theorem dL_isRefused_30 : decode cL_isRefused 30 = .ok (.irem, 1) := by decide +kernel
theorem dL_isRefused_31 : decode cL_isRefused 31 = .ok (.iadd, 1) := by decide +kernel
theorem dL_isRefused_32 : decode cL_isRefused 32 = .ok (.istore 4, 2) := by decide +kernel
theorem dL_isRefused_34 : decode cL_isRefused 34 = .ok (.iload_n 3, 1) := by decide +kernel
theorem dL_isRefused_35 : decode cL_isRefused 35 = .ok (.ifCond .eq 13, 3) := by decide +kernel
theorem dL_isRefused_38 : decode cL_isRefused 38 = .ok (.bipush (-2), 2) := by decide +kernel
theorem dL_isRefused_40 : decode cL_isRefused 40 = .ok (.iload_n 2, 1) := by decide +kernel
theorem dL_isRefused_41 : decode cL_isRefused 41 = .ok (.bipush 30, 2) := by decide +kernel
theorem dL_isRefused_43 : decode cL_isRefused 43 = .ok (.irem, 1) := by decide +kernel
theorem dL_isRefused_44 : decode cL_isRefused 44 = .ok (.isub, 1) := by decide +kernel
theorem dL_isRefused_45 : decode cL_isRefused 45 = .ok (.goto 13, 3) := by decide +kernel
theorem dL_isRefused_48 : decode cL_isRefused 48 = .ok (.aload_n 1, 1) := by decide +kernel
theorem dL_isRefused_49 : decode cL_isRefused 49 = .ok (.iconst 0, 1) := by decide +kernel
theorem dL_isRefused_50 : decode cL_isRefused 50 = .ok (.iaload, 1) := by decide +kernel
theorem dL_isRefused_51 : decode cL_isRefused 51 = .ok (.iconst 1, 1) := by decide +kernel
theorem dL_isRefused_52 : decode cL_isRefused 52 = .ok (.iadd, 1) := by decide +kernel
theorem dL_isRefused_53 : decode cL_isRefused 53 = .ok (.iload_n 2, 1) := by decide +kernel
theorem dL_isRefused_54 : decode cL_isRefused 54 = .ok (.bipush 30, 2) := by decide +kernel
theorem dL_isRefused_56 : decode cL_isRefused 56 = .ok (.irem, 1) := by decide +kernel
theorem dL_isRefused_57 : decode cL_isRefused 57 = .ok (.iadd, 1) := by decide +kernel
theorem dL_isRefused_58 : decode cL_isRefused 58 = .ok (.istore 5, 2) := by decide +kernel
theorem dL_isRefused_60 : decode cL_isRefused 60 = .ok (.aload_n 0, 1) := by decide +kernel
theorem dL_isRefused_61 : decode cL_isRefused 61 = .ok (.invokestatic 104, 3) := by decide +kernel
theorem dL_isRefused_64 : decode cL_isRefused 64 = .ok (.lstore 6, 2) := by decide +kernel
theorem dL_isRefused_66 : decode cL_isRefused 66 = .ok (.aload_n 0, 1) := by decide +kernel
theorem dL_isRefused_67 : decode cL_isRefused 67 = .ok (.iconst 0, 1) := by decide +kernel
theorem dL_isRefused_68 : decode cL_isRefused 68 = .ok (.iload 4, 2) := by decide +kernel
theorem dL_isRefused_70 : decode cL_isRefused 70 = .ok (.iconst 0, 1) := by decide +kernel
theorem dL_isRefused_71 : decode cL_isRefused 71 = .ok (.iconst 0, 1) := by decide +kernel
theorem dL_isRefused_72 : decode cL_isRefused 72 = .ok (.invokestatic 108, 3) := by decide +kernel
theorem dL_isRefused_75 : decode cL_isRefused 75 = .ok (.sipush (-1161), 3) := by decide +kernel
theorem dL_isRefused_78 : decode cL_isRefused 78 = .ok (.if_icmp .ne 456, 3) := by decide +kernel
theorem dL_isRefused_81 : decode cL_isRefused 81 = .ok (.aload_n 0, 1) := by decide +kernel
theorem dL_isRefused_82 : decode cL_isRefused 82 = .ok (.iconst 1, 1) := by decide +kernel
theorem dL_isRefused_83 : decode cL_isRefused 83 = .ok (.iload 4, 2) := by decide +kernel
theorem dL_isRefused_85 : decode cL_isRefused 85 = .ok (.iconst 0, 1) := by decide +kernel
theorem dL_isRefused_86 : decode cL_isRefused 86 = .ok (.iconst 0, 1) := by decide +kernel
theorem dL_isRefused_87 : decode cL_isRefused 87 = .ok (.invokestatic 108, 3) := by decide +kernel
theorem dL_isRefused_90 : decode cL_isRefused 90 = .ok (.sipush (-1161), 3) := by decide +kernel
theorem dL_isRefused_93 : decode cL_isRefused 93 = .ok (.if_icmp .ne 441, 3) := by decide +kernel
theorem dL_isRefused_96 : decode cL_isRefused 96 = .ok (.aload_n 0, 1) := by decide +kernel
theorem dL_isRefused_97 : decode cL_isRefused 97 = .ok (.iconst 1, 1) := by decide +kernel
theorem dL_isRefused_98 : decode cL_isRefused 98 = .ok (.iconst 0, 1) := by decide +kernel
theorem dL_isRefused_99 : decode cL_isRefused 99 = .ok (.iload 4, 2) := by decide +kernel
theorem dL_isRefused_101 : decode cL_isRefused 101 = .ok (.iconst 0, 1) := by decide +kernel
theorem dL_isRefused_102 : decode cL_isRefused 102 = .ok (.invokestatic 108, 3) := by decide +kernel
theorem dL_isRefused_105 : decode cL_isRefused 105 = .ok (.sipush (-1161), 3) := by decide +kernel
theorem dL_isRefused_108 : decode cL_isRefused 108 = .ok (.if_icmp .ne 426, 3) := by decide +kernel
theorem dL_isRefused_111 : decode cL_isRefused 111 = .ok (.aload_n 0, 1) := by decide +kernel
theorem dL_isRefused_112 : decode cL_isRefused 112 = .ok (.iconst 2, 1) := by decide +kernel
theorem dL_isRefused_113 : decode cL_isRefused 113 = .ok (.iload 4, 2) := by decide +kernel
theorem dL_isRefused_115 : decode cL_isRefused 115 = .ok (.iconst 0, 1) := by decide +kernel
theorem dL_isRefused_116 : decode cL_isRefused 116 = .ok (.iconst 0, 1) := by decide +kernel
theorem dL_isRefused_117 : decode cL_isRefused 117 = .ok (.invokestatic 108, 3) := by decide +kernel
theorem dL_isRefused_120 : decode cL_isRefused 120 = .ok (.sipush (-1161), 3) := by decide +kernel
theorem dL_isRefused_123 : decode cL_isRefused 123 = .ok (.if_icmp .ne 411, 3) := by decide +kernel
theorem dL_isRefused_126 : decode cL_isRefused 126 = .ok (.aload_n 0, 1) := by decide +kernel
theorem dL_isRefused_127 : decode cL_isRefused 127 = .ok (.iconst 3, 1) := by decide +kernel
theorem dL_isRefused_128 : decode cL_isRefused 128 = .ok (.iload 4, 2) := by decide +kernel
theorem dL_isRefused_130 : decode cL_isRefused 130 = .ok (.iconst (-1), 1) := by decide +kernel
theorem dL_isRefused_131 : decode cL_isRefused 131 = .ok (.iconst (-1), 1) := by decide +kernel
theorem dL_isRefused_132 : decode cL_isRefused 132 = .ok (.invokestatic 108, 3) := by decide +kernel
theorem dL_isRefused_135 : decode cL_isRefused 135 = .ok (.sipush (-1161), 3) := by decide +kernel
theorem dL_isRefused_138 : decode cL_isRefused 138 = .ok (.if_icmp .ne 396, 3) := by decide +kernel
theorem dL_isRefused_141 : decode cL_isRefused 141 = .ok (.aload_n 0, 1) := by decide +kernel
theorem dL_isRefused_142 : decode cL_isRefused 142 = .ok (.iconst 4, 1) := by decide +kernel
theorem dL_isRefused_143 : decode cL_isRefused 143 = .ok (.iload 4, 2) := by decide +kernel
theorem dL_isRefused_145 : decode cL_isRefused 145 = .ok (.iconst (-1), 1) := by decide +kernel
theorem dL_isRefused_146 : decode cL_isRefused 146 = .ok (.iconst 0, 1) := by decide +kernel
theorem dL_isRefused_147 : decode cL_isRefused 147 = .ok (.invokestatic 108, 3) := by decide +kernel
theorem dL_isRefused_150 : decode cL_isRefused 150 = .ok (.sipush (-1161), 3) := by decide +kernel
theorem dL_isRefused_153 : decode cL_isRefused 153 = .ok (.if_icmp .ne 381, 3) := by decide +kernel
theorem dL_isRefused_156 : decode cL_isRefused 156 = .ok (.aload_n 0, 1) := by decide +kernel
theorem dL_isRefused_157 : decode cL_isRefused 157 = .ok (.iconst 5, 1) := by decide +kernel
theorem dL_isRefused_158 : decode cL_isRefused 158 = .ok (.iload 4, 2) := by decide +kernel
theorem dL_isRefused_160 : decode cL_isRefused 160 = .ok (.iconst (-1), 1) := by decide +kernel
theorem dL_isRefused_161 : decode cL_isRefused 161 = .ok (.iconst 0, 1) := by decide +kernel
theorem dL_isRefused_162 : decode cL_isRefused 162 = .ok (.invokestatic 108, 3) := by decide +kernel
theorem dL_isRefused_165 : decode cL_isRefused 165 = .ok (.sipush (-1161), 3) := by decide +kernel
theorem dL_isRefused_168 : decode cL_isRefused 168 = .ok (.if_icmp .ne 366, 3) := by decide +kernel
theorem dL_isRefused_171 : decode cL_isRefused 171 = .ok (.aload_n 0, 1) := by decide +kernel
theorem dL_isRefused_172 : decode cL_isRefused 172 = .ok (.bipush 6, 2) := by decide +kernel
theorem dL_isRefused_174 : decode cL_isRefused 174 = .ok (.iload_n 3, 1) := by decide +kernel
theorem dL_isRefused_175 : decode cL_isRefused 175 = .ok (.ifCond .eq 12, 3) := by decide +kernel
theorem dL_isRefused_178 : decode cL_isRefused 178 = .ok (.iconst (-1), 1) := by decide +kernel
theorem dL_isRefused_179 : decode cL_isRefused 179 = .ok (.iload_n 2, 1) := by decide +kernel
theorem dL_isRefused_180 : decode cL_isRefused 180 = .ok (.bipush 30, 2) := by decide +kernel
theorem dL_isRefused_182 : decode cL_isRefused 182 = .ok (.irem, 1) := by decide +kernel
theorem dL_isRefused_183 : decode cL_isRefused 183 = .ok (.isub, 1) := by decide +kernel
theorem dL_isRefused_184 : decode cL_isRefused 184 = .ok (.goto 10, 3) := by decide +kernel
theorem dL_isRefused_187 : decode cL_isRefused 187 = .ok (.bipush 7, 2) := by decide +kernel
theorem dL_isRefused_189 : decode cL_isRefused 189 = .ok (.iload_n 2, 1) := by decide +kernel
theorem dL_isRefused_190 : decode cL_isRefused 190 = .ok (.bipush 30, 2) := by decide +kernel
theorem dL_isRefused_192 : decode cL_isRefused 192 = .ok (.irem, 1) := by decide +kernel
theorem dL_isRefused_193 : decode cL_isRefused 193 = .ok (.iadd, 1) := by decide +kernel
theorem dL_isRefused_194 : decode cL_isRefused 194 = .ok (.iconst 0, 1) := by decide +kernel
theorem dL_isRefused_195 : decode cL_isRefused 195 = .ok (.iconst 0, 1) := by decide +kernel
theorem dL_isRefused_196 : decode cL_isRefused 196 = .ok (.invokestatic 108, 3) := by decide +kernel
theorem dL_isRefused_199 : decode cL_isRefused 199 = .ok (.sipush (-1162), 3) := by decide +kernel
theorem dL_isRefused_202 : decode cL_isRefused 202 = .ok (.if_icmp .ne 332, 3) := by decide +kernel
theorem dL_isRefused_205 : decode cL_isRefused 205 = .ok (.aload_n 0, 1) := by decide +kernel
theorem dL_isRefused_206 : decode cL_isRefused 206 = .ok (.bipush 7, 2) := by decide +kernel
theorem dL_isRefused_208 : decode cL_isRefused 208 = .ok (.iload_n 3, 1) := by decide +kernel
theorem dL_isRefused_209 : decode cL_isRefused 209 = .ok (.ifCond .eq 12, 3) := by decide +kernel
theorem dL_isRefused_212 : decode cL_isRefused 212 = .ok (.iconst 0, 1) := by decide +kernel
theorem dL_isRefused_213 : decode cL_isRefused 213 = .ok (.iload_n 2, 1) := by decide +kernel
theorem dL_isRefused_214 : decode cL_isRefused 214 = .ok (.bipush 30, 2) := by decide +kernel
theorem dL_isRefused_216 : decode cL_isRefused 216 = .ok (.irem, 1) := by decide +kernel
theorem dL_isRefused_217 : decode cL_isRefused 217 = .ok (.isub, 1) := by decide +kernel
theorem dL_isRefused_218 : decode cL_isRefused 218 = .ok (.goto 10, 3) := by decide +kernel
theorem dL_isRefused_221 : decode cL_isRefused 221 = .ok (.bipush 41, 2) := by decide +kernel
theorem dL_isRefused_223 : decode cL_isRefused 223 = .ok (.iload_n 2, 1) := by decide +kernel
theorem dL_isRefused_224 : decode cL_isRefused 224 = .ok (.bipush 30, 2) := by decide +kernel
theorem dL_isRefused_226 : decode cL_isRefused 226 = .ok (.irem, 1) := by decide +kernel
theorem dL_isRefused_227 : decode cL_isRefused 227 = .ok (.iadd, 1) := by decide +kernel
theorem dL_isRefused_228 : decode cL_isRefused 228 = .ok (.iconst 0, 1) := by decide +kernel
theorem dL_isRefused_229 : decode cL_isRefused 229 = .ok (.iconst 0, 1) := by decide +kernel
theorem dL_isRefused_230 : decode cL_isRefused 230 = .ok (.invokestatic 108, 3) := by decide +kernel
theorem dL_isRefused_233 : decode cL_isRefused 233 = .ok (.sipush (-1162), 3) := by decide +kernel
theorem dL_isRefused_236 : decode cL_isRefused 236 = .ok (.if_icmp .ne 298, 3) := by decide +kernel
theorem dL_isRefused_239 : decode cL_isRefused 239 = .ok (.aload_n 0, 1) := by decide +kernel
theorem dL_isRefused_240 : decode cL_isRefused 240 = .ok (.bipush 7, 2) := by decide +kernel
theorem dL_isRefused_242 : decode cL_isRefused 242 = .ok (.aload_n 1, 1) := by decide +kernel
theorem dL_isRefused_243 : decode cL_isRefused 243 = .ok (.iconst 0, 1) := by decide +kernel
theorem dL_isRefused_244 : decode cL_isRefused 244 = .ok (.iaload, 1) := by decide +kernel
theorem dL_isRefused_245 : decode cL_isRefused 245 = .ok (.aload_n 1, 1) := by decide +kernel
theorem dL_isRefused_246 : decode cL_isRefused 246 = .ok (.iconst 1, 1) := by decide +kernel
theorem dL_isRefused_247 : decode cL_isRefused 247 = .ok (.iaload, 1) := by decide +kernel
theorem dL_isRefused_248 : decode cL_isRefused 248 = .ok (.isub, 1) := by decide +kernel
theorem dL_isRefused_249 : decode cL_isRefused 249 = .ok (.iconst 1, 1) := by decide +kernel
theorem dL_isRefused_250 : decode cL_isRefused 250 = .ok (.iadd, 1) := by decide +kernel
theorem dL_isRefused_251 : decode cL_isRefused 251 = .ok (.iload_n 2, 1) := by decide +kernel
theorem dL_isRefused_252 : decode cL_isRefused 252 = .ok (.bipush 20, 2) := by decide +kernel
theorem dL_isRefused_254 : decode cL_isRefused 254 = .ok (.irem, 1) := by decide +kernel
theorem dL_isRefused_255 : decode cL_isRefused 255 = .ok (.iadd, 1) := by decide +kernel
theorem dL_isRefused_256 : decode cL_isRefused 256 = .ok (.iconst 0, 1) := by decide +kernel
theorem dL_isRefused_257 : decode cL_isRefused 257 = .ok (.iconst 0, 1) := by decide +kernel
theorem dL_isRefused_258 : decode cL_isRefused 258 = .ok (.invokestatic 108, 3) := by decide +kernel
theorem dL_isRefused_261 : decode cL_isRefused 261 = .ok (.sipush (-1163), 3) := by decide +kernel
theorem dL_isRefused_264 : decode cL_isRefused 264 = .ok (.if_icmp .ne 270, 3) := by decide +kernel
theorem dL_isRefused_267 : decode cL_isRefused 267 = .ok (.aload_n 0, 1) := by decide +kernel
theorem dL_isRefused_268 : decode cL_isRefused 268 = .ok (.bipush 8, 2) := by decide +kernel
theorem dL_isRefused_270 : decode cL_isRefused 270 = .ok (.iload 5, 2) := by decide +kernel
theorem dL_isRefused_272 : decode cL_isRefused 272 = .ok (.iconst 0, 1) := by decide +kernel
theorem dL_isRefused_273 : decode cL_isRefused 273 = .ok (.iconst 0, 1) := by decide +kernel
theorem dL_isRefused_274 : decode cL_isRefused 274 = .ok (.invokestatic 108, 3) := by decide +kernel
theorem dL_isRefused_277 : decode cL_isRefused 277 = .ok (.sipush (-1161), 3) := by decide +kernel
theorem dL_isRefused_280 : decode cL_isRefused 280 = .ok (.if_icmp .ne 254, 3) := by decide +kernel
theorem dL_isRefused_283 : decode cL_isRefused 283 = .ok (.aload_n 0, 1) := by decide +kernel
theorem dL_isRefused_284 : decode cL_isRefused 284 = .ok (.bipush 8, 2) := by decide +kernel
theorem dL_isRefused_286 : decode cL_isRefused 286 = .ok (.iconst (-1), 1) := by decide +kernel
theorem dL_isRefused_287 : decode cL_isRefused 287 = .ok (.iconst 0, 1) := by decide +kernel
theorem dL_isRefused_288 : decode cL_isRefused 288 = .ok (.iconst 0, 1) := by decide +kernel
theorem dL_isRefused_289 : decode cL_isRefused 289 = .ok (.invokestatic 108, 3) := by decide +kernel
theorem dL_isRefused_292 : decode cL_isRefused 292 = .ok (.sipush (-1161), 3) := by decide +kernel
theorem dL_isRefused_295 : decode cL_isRefused 295 = .ok (.if_icmp .ne 239, 3) := by decide +kernel
theorem dL_isRefused_298 : decode cL_isRefused 298 = .ok (.aload_n 1, 1) := by decide +kernel
theorem dL_isRefused_299 : decode cL_isRefused 299 = .ok (.iconst 1, 1) := by decide +kernel
theorem dL_isRefused_300 : decode cL_isRefused 300 = .ok (.iaload, 1) := by decide +kernel
theorem dL_isRefused_301 : decode cL_isRefused 301 = .ok (.ifCond .eq 58, 3) := by decide +kernel
theorem dL_isRefused_304 : decode cL_isRefused 304 = .ok (.aload_n 0, 1) := by decide +kernel
theorem dL_isRefused_305 : decode cL_isRefused 305 = .ok (.bipush 8, 2) := by decide +kernel
theorem dL_isRefused_307 : decode cL_isRefused 307 = .ok (.aload_n 1, 1) := by decide +kernel
theorem dL_isRefused_308 : decode cL_isRefused 308 = .ok (.iconst 1, 1) := by decide +kernel
theorem dL_isRefused_309 : decode cL_isRefused 309 = .ok (.iaload, 1) := by decide +kernel
theorem dL_isRefused_310 : decode cL_isRefused 310 = .ok (.iconst 1, 1) := by decide +kernel
theorem dL_isRefused_311 : decode cL_isRefused 311 = .ok (.isub, 1) := by decide +kernel
theorem dL_isRefused_312 : decode cL_isRefused 312 = .ok (.iconst 0, 1) := by decide +kernel
theorem dL_isRefused_313 : decode cL_isRefused 313 = .ok (.iconst 0, 1) := by decide +kernel
theorem dL_isRefused_314 : decode cL_isRefused 314 = .ok (.invokestatic 108, 3) := by decide +kernel
theorem dL_isRefused_317 : decode cL_isRefused 317 = .ok (.sipush (-1161), 3) := by decide +kernel
theorem dL_isRefused_320 : decode cL_isRefused 320 = .ok (.if_icmp .ne 214, 3) := by decide +kernel
theorem dL_isRefused_323 : decode cL_isRefused 323 = .ok (.aload_n 0, 1) := by decide +kernel
theorem dL_isRefused_324 : decode cL_isRefused 324 = .ok (.iconst 0, 1) := by decide +kernel
theorem dL_isRefused_325 : decode cL_isRefused 325 = .ok (.aload_n 1, 1) := by decide +kernel
theorem dL_isRefused_326 : decode cL_isRefused 326 = .ok (.iconst 1, 1) := by decide +kernel
theorem dL_isRefused_327 : decode cL_isRefused 327 = .ok (.iaload, 1) := by decide +kernel
theorem dL_isRefused_328 : decode cL_isRefused 328 = .ok (.iconst 1, 1) := by decide +kernel
theorem dL_isRefused_329 : decode cL_isRefused 329 = .ok (.isub, 1) := by decide +kernel
theorem dL_isRefused_330 : decode cL_isRefused 330 = .ok (.iconst 0, 1) := by decide +kernel
theorem dL_isRefused_331 : decode cL_isRefused 331 = .ok (.iconst 0, 1) := by decide +kernel
theorem dL_isRefused_332 : decode cL_isRefused 332 = .ok (.invokestatic 112, 3) := by decide +kernel
theorem dL_isRefused_335 : decode cL_isRefused 335 = .ok (.sipush (-1161), 3) := by decide +kernel
theorem dL_isRefused_338 : decode cL_isRefused 338 = .ok (.if_icmp .ne 196, 3) := by decide +kernel
theorem dL_isRefused_341 : decode cL_isRefused 341 = .ok (.aload_n 0, 1) := by decide +kernel
theorem dL_isRefused_342 : decode cL_isRefused 342 = .ok (.iconst 3, 1) := by decide +kernel
theorem dL_isRefused_343 : decode cL_isRefused 343 = .ok (.aload_n 1, 1) := by decide +kernel
theorem dL_isRefused_344 : decode cL_isRefused 344 = .ok (.iconst 1, 1) := by decide +kernel
theorem dL_isRefused_345 : decode cL_isRefused 345 = .ok (.iaload, 1) := by decide +kernel
theorem dL_isRefused_346 : decode cL_isRefused 346 = .ok (.iconst 1, 1) := by decide +kernel
theorem dL_isRefused_347 : decode cL_isRefused 347 = .ok (.isub, 1) := by decide +kernel
theorem dL_isRefused_348 : decode cL_isRefused 348 = .ok (.iconst 0, 1) := by decide +kernel
theorem dL_isRefused_349 : decode cL_isRefused 349 = .ok (.iconst 0, 1) := by decide +kernel
theorem dL_isRefused_350 : decode cL_isRefused 350 = .ok (.invokestatic 112, 3) := by decide +kernel
theorem dL_isRefused_353 : decode cL_isRefused 353 = .ok (.sipush (-1161), 3) := by decide +kernel
theorem dL_isRefused_356 : decode cL_isRefused 356 = .ok (.if_icmp .ne 178, 3) := by decide +kernel
theorem dL_isRefused_359 : decode cL_isRefused 359 = .ok (.aload_n 0, 1) := by decide +kernel
theorem dL_isRefused_360 : decode cL_isRefused 360 = .ok (.iconst 0, 1) := by decide +kernel
theorem dL_isRefused_361 : decode cL_isRefused 361 = .ok (.iload 5, 2) := by decide +kernel
theorem dL_isRefused_363 : decode cL_isRefused 363 = .ok (.iconst 0, 1) := by decide +kernel
theorem dL_isRefused_364 : decode cL_isRefused 364 = .ok (.iconst 0, 1) := by decide +kernel
theorem dL_isRefused_365 : decode cL_isRefused 365 = .ok (.invokestatic 112, 3) := by decide +kernel
theorem dL_isRefused_368 : decode cL_isRefused 368 = .ok (.sipush (-1161), 3) := by decide +kernel
theorem dL_isRefused_371 : decode cL_isRefused 371 = .ok (.if_icmp .ne 163, 3) := by decide +kernel
theorem dL_isRefused_374 : decode cL_isRefused 374 = .ok (.aload_n 0, 1) := by decide +kernel
theorem dL_isRefused_375 : decode cL_isRefused 375 = .ok (.iconst 0, 1) := by decide +kernel
theorem dL_isRefused_376 : decode cL_isRefused 376 = .ok (.iconst (-1), 1) := by decide +kernel
theorem dL_isRefused_377 : decode cL_isRefused 377 = .ok (.iload 4, 2) := by decide +kernel
theorem dL_isRefused_379 : decode cL_isRefused 379 = .ok (.iconst 0, 1) := by decide +kernel
theorem dL_isRefused_380 : decode cL_isRefused 380 = .ok (.invokestatic 112, 3) := by decide +kernel
theorem dL_isRefused_383 : decode cL_isRefused 383 = .ok (.sipush (-1161), 3) := by decide +kernel
theorem dL_isRefused_386 : decode cL_isRefused 386 = .ok (.if_icmp .ne 148, 3) := by decide +kernel
theorem dL_isRefused_389 : decode cL_isRefused 389 = .ok (.aload_n 0, 1) := by decide +kernel
theorem dL_isRefused_390 : decode cL_isRefused 390 = .ok (.iconst 1, 1) := by decide +kernel
theorem dL_isRefused_391 : decode cL_isRefused 391 = .ok (.iload 5, 2) := by decide +kernel
theorem dL_isRefused_393 : decode cL_isRefused 393 = .ok (.iconst 0, 1) := by decide +kernel
theorem dL_isRefused_394 : decode cL_isRefused 394 = .ok (.iconst 0, 1) := by decide +kernel
theorem dL_isRefused_395 : decode cL_isRefused 395 = .ok (.invokestatic 112, 3) := by decide +kernel
theorem dL_isRefused_398 : decode cL_isRefused 398 = .ok (.sipush (-1161), 3) := by decide +kernel
theorem dL_isRefused_401 : decode cL_isRefused 401 = .ok (.if_icmp .ne 133, 3) := by decide +kernel
theorem dL_isRefused_404 : decode cL_isRefused 404 = .ok (.aload_n 0, 1) := by decide +kernel
theorem dL_isRefused_405 : decode cL_isRefused 405 = .ok (.iconst 1, 1) := by decide +kernel
theorem dL_isRefused_406 : decode cL_isRefused 406 = .ok (.aload_n 1, 1) := by decide +kernel
theorem dL_isRefused_407 : decode cL_isRefused 407 = .ok (.iconst 0, 1) := by decide +kernel
theorem dL_isRefused_408 : decode cL_isRefused 408 = .ok (.iaload, 1) := by decide +kernel
theorem dL_isRefused_409 : decode cL_isRefused 409 = .ok (.iload 4, 2) := by decide +kernel
theorem dL_isRefused_411 : decode cL_isRefused 411 = .ok (.iconst 0, 1) := by decide +kernel
theorem dL_isRefused_412 : decode cL_isRefused 412 = .ok (.invokestatic 112, 3) := by decide +kernel
theorem dL_isRefused_415 : decode cL_isRefused 415 = .ok (.sipush (-1161), 3) := by decide +kernel
theorem dL_isRefused_418 : decode cL_isRefused 418 = .ok (.if_icmp .ne 116, 3) := by decide +kernel
theorem dL_isRefused_421 : decode cL_isRefused 421 = .ok (.aload_n 0, 1) := by decide +kernel
theorem dL_isRefused_422 : decode cL_isRefused 422 = .ok (.iconst 1, 1) := by decide +kernel
theorem dL_isRefused_423 : decode cL_isRefused 423 = .ok (.iconst (-1), 1) := by decide +kernel
theorem dL_isRefused_424 : decode cL_isRefused 424 = .ok (.iconst 0, 1) := by decide +kernel
theorem dL_isRefused_425 : decode cL_isRefused 425 = .ok (.iload_n 3, 1) := by decide +kernel
theorem dL_isRefused_426 : decode cL_isRefused 426 = .ok (.ifCond .eq 12, 3) := by decide +kernel
theorem dL_isRefused_429 : decode cL_isRefused 429 = .ok (.iconst (-1), 1) := by decide +kernel
theorem dL_isRefused_430 : decode cL_isRefused 430 = .ok (.iload_n 2, 1) := by decide +kernel
theorem dL_isRefused_431 : decode cL_isRefused 431 = .ok (.bipush 30, 2) := by decide +kernel
theorem dL_isRefused_433 : decode cL_isRefused 433 = .ok (.irem, 1) := by decide +kernel
theorem dL_isRefused_434 : decode cL_isRefused 434 = .ok (.isub, 1) := by decide +kernel
theorem dL_isRefused_435 : decode cL_isRefused 435 = .ok (.goto 10, 3) := by decide +kernel
theorem dL_isRefused_438 : decode cL_isRefused 438 = .ok (.bipush 12, 2) := by decide +kernel
theorem dL_isRefused_440 : decode cL_isRefused 440 = .ok (.iload_n 2, 1) := by decide +kernel
theorem dL_isRefused_441 : decode cL_isRefused 441 = .ok (.bipush 30, 2) := by decide +kernel
theorem dL_isRefused_443 : decode cL_isRefused 443 = .ok (.irem, 1) := by decide +kernel
theorem dL_isRefused_444 : decode cL_isRefused 444 = .ok (.iadd, 1) := by decide +kernel
theorem dL_isRefused_445 : decode cL_isRefused 445 = .ok (.invokestatic 112, 3) := by decide +kernel
theorem dL_isRefused_448 : decode cL_isRefused 448 = .ok (.sipush (-1161), 3) := by decide +kernel
theorem dL_isRefused_451 : decode cL_isRefused 451 = .ok (.if_icmp .ne 83, 3) := by decide +kernel
theorem dL_isRefused_454 : decode cL_isRefused 454 = .ok (.aload_n 0, 1) := by decide +kernel
theorem dL_isRefused_455 : decode cL_isRefused 455 = .ok (.iconst 2, 1) := by decide +kernel
theorem dL_isRefused_456 : decode cL_isRefused 456 = .ok (.iload 5, 2) := by decide +kernel
theorem dL_isRefused_458 : decode cL_isRefused 458 = .ok (.iconst 0, 1) := by decide +kernel
theorem dL_isRefused_459 : decode cL_isRefused 459 = .ok (.iconst 0, 1) := by decide +kernel
theorem dL_isRefused_460 : decode cL_isRefused 460 = .ok (.invokestatic 112, 3) := by decide +kernel
theorem dL_isRefused_463 : decode cL_isRefused 463 = .ok (.sipush (-1161), 3) := by decide +kernel
theorem dL_isRefused_466 : decode cL_isRefused 466 = .ok (.if_icmp .ne 68, 3) := by decide +kernel
theorem dL_isRefused_469 : decode cL_isRefused 469 = .ok (.aload_n 0, 1) := by decide +kernel
theorem dL_isRefused_470 : decode cL_isRefused 470 = .ok (.iconst 2, 1) := by decide +kernel
theorem dL_isRefused_471 : decode cL_isRefused 471 = .ok (.iconst (-1), 1) := by decide +kernel
theorem dL_isRefused_472 : decode cL_isRefused 472 = .ok (.iload 4, 2) := by decide +kernel
theorem dL_isRefused_474 : decode cL_isRefused 474 = .ok (.iconst 0, 1) := by decide +kernel
theorem dL_isRefused_475 : decode cL_isRefused 475 = .ok (.invokestatic 112, 3) := by decide +kernel
theorem dL_isRefused_478 : decode cL_isRefused 478 = .ok (.sipush (-1161), 3) := by decide +kernel
theorem dL_isRefused_481 : decode cL_isRefused 481 = .ok (.if_icmp .ne 53, 3) := by decide +kernel
theorem dL_isRefused_484 : decode cL_isRefused 484 = .ok (.aload_n 0, 1) := by decide +kernel
theorem dL_isRefused_485 : decode cL_isRefused 485 = .ok (.iconst 3, 1) := by decide +kernel
theorem dL_isRefused_486 : decode cL_isRefused 486 = .ok (.iload 5, 2) := by decide +kernel
theorem dL_isRefused_488 : decode cL_isRefused 488 = .ok (.iconst 0, 1) := by decide +kernel
theorem dL_isRefused_489 : decode cL_isRefused 489 = .ok (.iconst 0, 1) := by decide +kernel
theorem dL_isRefused_490 : decode cL_isRefused 490 = .ok (.invokestatic 112, 3) := by decide +kernel
theorem dL_isRefused_493 : decode cL_isRefused 493 = .ok (.sipush (-1161), 3) := by decide +kernel
theorem dL_isRefused_496 : decode cL_isRefused 496 = .ok (.if_icmp .ne 38, 3) := by decide +kernel
theorem dL_isRefused_499 : decode cL_isRefused 499 = .ok (.aload_n 0, 1) := by decide +kernel
theorem dL_isRefused_500 : decode cL_isRefused 500 = .ok (.iconst 3, 1) := by decide +kernel
theorem dL_isRefused_501 : decode cL_isRefused 501 = .ok (.iconst (-1), 1) := by decide +kernel
theorem dL_isRefused_502 : decode cL_isRefused 502 = .ok (.iconst 0, 1) := by decide +kernel
theorem dL_isRefused_503 : decode cL_isRefused 503 = .ok (.iconst 0, 1) := by decide +kernel
theorem dL_isRefused_504 : decode cL_isRefused 504 = .ok (.invokestatic 112, 3) := by decide +kernel
theorem dL_isRefused_507 : decode cL_isRefused 507 = .ok (.sipush (-1161), 3) := by decide +kernel
theorem dL_isRefused_510 : decode cL_isRefused 510 = .ok (.if_icmp .ne 24, 3) := by decide +kernel
theorem dL_isRefused_513 : decode cL_isRefused 513 = .ok (.aload_n 0, 1) := by decide +kernel
theorem dL_isRefused_514 : decode cL_isRefused 514 = .ok (.iconst 3, 1) := by decide +kernel
theorem dL_isRefused_515 : decode cL_isRefused 515 = .ok (.aload_n 1, 1) := by decide +kernel
theorem dL_isRefused_516 : decode cL_isRefused 516 = .ok (.iconst 0, 1) := by decide +kernel
theorem dL_isRefused_517 : decode cL_isRefused 517 = .ok (.iaload, 1) := by decide +kernel
theorem dL_isRefused_518 : decode cL_isRefused 518 = .ok (.iload 4, 2) := by decide +kernel
theorem dL_isRefused_520 : decode cL_isRefused 520 = .ok (.iconst 0, 1) := by decide +kernel
theorem dL_isRefused_521 : decode cL_isRefused 521 = .ok (.invokestatic 112, 3) := by decide +kernel
theorem dL_isRefused_524 : decode cL_isRefused 524 = .ok (.sipush (-1161), 3) := by decide +kernel
theorem dL_isRefused_527 : decode cL_isRefused 527 = .ok (.if_icmp .ne 7, 3) := by decide +kernel
theorem dL_isRefused_530 : decode cL_isRefused 530 = .ok (.iconst 1, 1) := by decide +kernel
theorem dL_isRefused_531 : decode cL_isRefused 531 = .ok (.goto 4, 3) := by decide +kernel
theorem dL_isRefused_534 : decode cL_isRefused 534 = .ok (.iconst 0, 1) := by decide +kernel
theorem dL_isRefused_535 : decode cL_isRefused 535 = .ok (.istore 8, 2) := by decide +kernel
theorem dL_isRefused_537 : decode cL_isRefused 537 = .ok (.iconst 0, 1) := by decide +kernel
theorem dL_isRefused_538 : decode cL_isRefused 538 = .ok (.istore 9, 2) := by decide +kernel
theorem dL_isRefused_540 : decode cL_isRefused 540 = .ok (.iload 9, 2) := by decide +kernel
theorem dL_isRefused_542 : decode cL_isRefused 542 = .ok (.bipush 6, 2) := by decide +kernel
theorem dL_isRefused_544 : decode cL_isRefused 544 = .ok (.if_icmp .ge 269, 3) := by decide +kernel
theorem dL_isRefused_547 : decode cL_isRefused 547 = .ok (.iload 8, 2) := by decide +kernel
theorem dL_isRefused_549 : decode cL_isRefused 549 = .ok (.ifCond .eq 264, 3) := by decide +kernel
theorem dL_isRefused_552 : decode cL_isRefused 552 = .ok (.aload_n 0, 1) := by decide +kernel
theorem dL_isRefused_553 : decode cL_isRefused 553 = .ok (.iconst (-1), 1) := by decide +kernel
theorem dL_isRefused_554 : decode cL_isRefused 554 = .ok (.iload 9, 2) := by decide +kernel
theorem dL_isRefused_556 : decode cL_isRefused 556 = .ok (.invokevirtual 47, 3) := by decide +kernel
theorem dL_isRefused_559 : decode cL_isRefused 559 = .ok (.istore 10, 2) := by decide +kernel
theorem dL_isRefused_561 : decode cL_isRefused 561 = .ok (.aload_n 0, 1) := by decide +kernel
theorem dL_isRefused_562 : decode cL_isRefused 562 = .ok (.iconst (-1), 1) := by decide +kernel
theorem dL_isRefused_563 : decode cL_isRefused 563 = .ok (.iload 9, 2) := by decide +kernel
theorem dL_isRefused_565 : decode cL_isRefused 565 = .ok (.invokestatic 83, 3) := by decide +kernel
theorem dL_isRefused_568 : decode cL_isRefused 568 = .ok (.istore 11, 2) := by decide +kernel
theorem dL_isRefused_570 : decode cL_isRefused 570 = .ok (.iload 10, 2) := by decide +kernel
theorem dL_isRefused_572 : decode cL_isRefused 572 = .ok (.ifCond .ne 26, 3) := by decide +kernel
theorem dL_isRefused_575 : decode cL_isRefused 575 = .ok (.aload_n 0, 1) := by decide +kernel
theorem dL_isRefused_576 : decode cL_isRefused 576 = .ok (.iconst 5, 1) := by decide +kernel
theorem dL_isRefused_577 : decode cL_isRefused 577 = .ok (.iload 9, 2) := by decide +kernel
theorem dL_isRefused_579 : decode cL_isRefused 579 = .ok (.iconst (-1), 1) := by decide +kernel
theorem dL_isRefused_580 : decode cL_isRefused 580 = .ok (.iconst 0, 1) := by decide +kernel
theorem dL_isRefused_581 : decode cL_isRefused 581 = .ok (.invokestatic 108, 3) := by decide +kernel
theorem dL_isRefused_584 : decode cL_isRefused 584 = .ok (.sipush (-1163), 3) := by decide +kernel
theorem dL_isRefused_587 : decode cL_isRefused 587 = .ok (.if_icmp .ne 7, 3) := by decide +kernel
theorem dL_isRefused_590 : decode cL_isRefused 590 = .ok (.iconst 1, 1) := by decide +kernel
theorem dL_isRefused_591 : decode cL_isRefused 591 = .ok (.goto 46, 3) := by decide +kernel
theorem dL_isRefused_594 : decode cL_isRefused 594 = .ok (.iconst 0, 1) := by decide +kernel
theorem dL_isRefused_595 : decode cL_isRefused 595 = .ok (.goto 42, 3) := by decide +kernel
theorem dL_isRefused_598 : decode cL_isRefused 598 = .ok (.aload_n 0, 1) := by decide +kernel
theorem dL_isRefused_599 : decode cL_isRefused 599 = .ok (.iconst 5, 1) := by decide +kernel
theorem dL_isRefused_600 : decode cL_isRefused 600 = .ok (.iload 9, 2) := by decide +kernel
theorem dL_isRefused_602 : decode cL_isRefused 602 = .ok (.iload_n 3, 1) := by decide +kernel
theorem dL_isRefused_603 : decode cL_isRefused 603 = .ok (.ifCond .eq 12, 3) := by decide +kernel
theorem dL_isRefused_606 : decode cL_isRefused 606 = .ok (.iconst (-1), 1) := by decide +kernel
theorem dL_isRefused_607 : decode cL_isRefused 607 = .ok (.iload_n 2, 1) := by decide +kernel
theorem dL_isRefused_608 : decode cL_isRefused 608 = .ok (.bipush 30, 2) := by decide +kernel
theorem dL_isRefused_610 : decode cL_isRefused 610 = .ok (.irem, 1) := by decide +kernel
theorem dL_isRefused_611 : decode cL_isRefused 611 = .ok (.isub, 1) := by decide +kernel
theorem dL_isRefused_612 : decode cL_isRefused 612 = .ok (.goto 10, 3) := by decide +kernel
theorem dL_isRefused_615 : decode cL_isRefused 615 = .ok (.bipush 8, 2) := by decide +kernel
theorem dL_isRefused_617 : decode cL_isRefused 617 = .ok (.iload_n 2, 1) := by decide +kernel
theorem dL_isRefused_618 : decode cL_isRefused 618 = .ok (.bipush 30, 2) := by decide +kernel
theorem dL_isRefused_620 : decode cL_isRefused 620 = .ok (.irem, 1) := by decide +kernel
theorem dL_isRefused_621 : decode cL_isRefused 621 = .ok (.iadd, 1) := by decide +kernel
theorem dL_isRefused_622 : decode cL_isRefused 622 = .ok (.iconst 0, 1) := by decide +kernel
theorem dL_isRefused_623 : decode cL_isRefused 623 = .ok (.invokestatic 108, 3) := by decide +kernel
theorem dL_isRefused_626 : decode cL_isRefused 626 = .ok (.sipush (-1162), 3) := by decide +kernel
theorem dL_isRefused_629 : decode cL_isRefused 629 = .ok (.if_icmp .ne 7, 3) := by decide +kernel
theorem dL_isRefused_632 : decode cL_isRefused 632 = .ok (.iconst 1, 1) := by decide +kernel
theorem dL_isRefused_633 : decode cL_isRefused 633 = .ok (.goto 4, 3) := by decide +kernel
theorem dL_isRefused_636 : decode cL_isRefused 636 = .ok (.iconst 0, 1) := by decide +kernel
theorem dL_isRefused_637 : decode cL_isRefused 637 = .ok (.istore 8, 2) := by decide +kernel
theorem dL_isRefused_639 : decode cL_isRefused 639 = .ok (.iload 8, 2) := by decide +kernel
theorem dL_isRefused_641 : decode cL_isRefused 641 = .ok (.ifCond .eq 98, 3) := by decide +kernel
theorem dL_isRefused_644 : decode cL_isRefused 644 = .ok (.iload 10, 2) := by decide +kernel
theorem dL_isRefused_646 : decode cL_isRefused 646 = .ok (.iconst 1, 1) := by decide +kernel
theorem dL_isRefused_647 : decode cL_isRefused 647 = .ok (.if_icmp .ne 10, 3) := by decide +kernel
theorem dL_isRefused_650 : decode cL_isRefused 650 = .ok (.iload 11, 2) := by decide +kernel
theorem dL_isRefused_652 : decode cL_isRefused 652 = .ok (.bipush 12, 2) := by decide +kernel
theorem dL_isRefused_654 : decode cL_isRefused 654 = .ok (.if_icmp .ne 21, 3) := by decide +kernel
theorem dL_isRefused_657 : decode cL_isRefused 657 = .ok (.aload_n 0, 1) := by decide +kernel
theorem dL_isRefused_658 : decode cL_isRefused 658 = .ok (.iconst 3, 1) := by decide +kernel
theorem dL_isRefused_659 : decode cL_isRefused 659 = .ok (.iload 9, 2) := by decide +kernel
theorem dL_isRefused_661 : decode cL_isRefused 661 = .ok (.iconst (-1), 1) := by decide +kernel
theorem dL_isRefused_662 : decode cL_isRefused 662 = .ok (.iconst (-1), 1) := by decide +kernel
theorem dL_isRefused_663 : decode cL_isRefused 663 = .ok (.invokestatic 108, 3) := by decide +kernel
theorem dL_isRefused_666 : decode cL_isRefused 666 = .ok (.sipush (-1163), 3) := by decide +kernel
theorem dL_isRefused_669 : decode cL_isRefused 669 = .ok (.if_icmp .ne 70, 3) := by decide +kernel
theorem dL_isRefused_672 : decode cL_isRefused 672 = .ok (.goto 63, 3) := by decide +kernel
theorem dL_isRefused_675 : decode cL_isRefused 675 = .ok (.aload_n 0, 1) := by decide +kernel
theorem dL_isRefused_676 : decode cL_isRefused 676 = .ok (.iconst 3, 1) := by decide +kernel
theorem dL_isRefused_677 : decode cL_isRefused 677 = .ok (.iload 9, 2) := by decide +kernel
theorem dL_isRefused_679 : decode cL_isRefused 679 = .ok (.iload_n 3, 1) := by decide +kernel
theorem dL_isRefused_680 : decode cL_isRefused 680 = .ok (.ifCond .eq 7, 3) := by decide +kernel
theorem dL_isRefused_683 : decode cL_isRefused 683 = .ok (.iconst (-1), 1) := by decide +kernel
theorem dL_isRefused_684 : decode cL_isRefused 684 = .ok (.goto 12, 3) := by decide +kernel
theorem dL_isRefused_687 : decode cL_isRefused 687 = .ok (.iload 11, 2) := by decide +kernel
theorem dL_isRefused_689 : decode cL_isRefused 689 = .ok (.iconst 1, 1) := by decide +kernel
theorem dL_isRefused_690 : decode cL_isRefused 690 = .ok (.iadd, 1) := by decide +kernel
theorem dL_isRefused_691 : decode cL_isRefused 691 = .ok (.iload_n 2, 1) := by decide +kernel
theorem dL_isRefused_692 : decode cL_isRefused 692 = .ok (.bipush 30, 2) := by decide +kernel
theorem dL_isRefused_694 : decode cL_isRefused 694 = .ok (.irem, 1) := by decide +kernel
theorem dL_isRefused_695 : decode cL_isRefused 695 = .ok (.iadd, 1) := by decide +kernel
theorem dL_isRefused_696 : decode cL_isRefused 696 = .ok (.iconst 5, 1) := by decide +kernel
theorem dL_isRefused_697 : decode cL_isRefused 697 = .ok (.invokestatic 108, 3) := by decide +kernel
theorem dL_isRefused_700 : decode cL_isRefused 700 = .ok (.sipush (-1162), 3) := by decide +kernel
theorem dL_isRefused_703 : decode cL_isRefused 703 = .ok (.if_icmp .ne 36, 3) := by decide +kernel
theorem dL_isRefused_706 : decode cL_isRefused 706 = .ok (.aload_n 0, 1) := by decide +kernel
theorem dL_isRefused_707 : decode cL_isRefused 707 = .ok (.iconst 3, 1) := by decide +kernel
theorem dL_isRefused_708 : decode cL_isRefused 708 = .ok (.iload 9, 2) := by decide +kernel
theorem dL_isRefused_710 : decode cL_isRefused 710 = .ok (.iconst 0, 1) := by decide +kernel
theorem dL_isRefused_711 : decode cL_isRefused 711 = .ok (.iload_n 3, 1) := by decide +kernel
theorem dL_isRefused_712 : decode cL_isRefused 712 = .ok (.ifCond .eq 7, 3) := by decide +kernel
theorem dL_isRefused_715 : decode cL_isRefused 715 = .ok (.iconst (-1), 1) := by decide +kernel
theorem dL_isRefused_716 : decode cL_isRefused 716 = .ok (.goto 10, 3) := by decide +kernel
theorem dL_isRefused_719 : decode cL_isRefused 719 = .ok (.bipush 10, 2) := by decide +kernel
theorem dL_isRefused_721 : decode cL_isRefused 721 = .ok (.iload_n 2, 1) := by decide +kernel
theorem dL_isRefused_722 : decode cL_isRefused 722 = .ok (.bipush 30, 2) := by decide +kernel
theorem dL_isRefused_724 : decode cL_isRefused 724 = .ok (.irem, 1) := by decide +kernel
theorem dL_isRefused_725 : decode cL_isRefused 725 = .ok (.iadd, 1) := by decide +kernel
theorem dL_isRefused_726 : decode cL_isRefused 726 = .ok (.invokestatic 108, 3) := by decide +kernel
theorem dL_isRefused_729 : decode cL_isRefused 729 = .ok (.sipush (-1162), 3) := by decide +kernel
theorem dL_isRefused_732 : decode cL_isRefused 732 = .ok (.if_icmp .ne 7, 3) := by decide +kernel
theorem dL_isRefused_735 : decode cL_isRefused 735 = .ok (.iconst 1, 1) := by decide +kernel
theorem dL_isRefused_736 : decode cL_isRefused 736 = .ok (.goto 4, 3) := by decide +kernel
theorem dL_isRefused_739 : decode cL_isRefused 739 = .ok (.iconst 0, 1) := by decide +kernel
theorem dL_isRefused_740 : decode cL_isRefused 740 = .ok (.istore 8, 2) := by decide +kernel
theorem dL_isRefused_742 : decode cL_isRefused 742 = .ok (.iload 8, 2) := by decide +kernel
theorem dL_isRefused_744 : decode cL_isRefused 744 = .ok (.ifCond .eq 60, 3) := by decide +kernel
theorem dL_isRefused_747 : decode cL_isRefused 747 = .ok (.iload 10, 2) := by decide +kernel
theorem dL_isRefused_749 : decode cL_isRefused 749 = .ok (.iconst 1, 1) := by decide +kernel
theorem dL_isRefused_750 : decode cL_isRefused 750 = .ok (.if_icmp .eq 21, 3) := by decide +kernel
theorem dL_isRefused_753 : decode cL_isRefused 753 = .ok (.aload_n 0, 1) := by decide +kernel
theorem dL_isRefused_754 : decode cL_isRefused 754 = .ok (.iconst 4, 1) := by decide +kernel
theorem dL_isRefused_755 : decode cL_isRefused 755 = .ok (.iload 9, 2) := by decide +kernel
theorem dL_isRefused_757 : decode cL_isRefused 757 = .ok (.iconst (-1), 1) := by decide +kernel
theorem dL_isRefused_758 : decode cL_isRefused 758 = .ok (.iconst 0, 1) := by decide +kernel
theorem dL_isRefused_759 : decode cL_isRefused 759 = .ok (.invokestatic 108, 3) := by decide +kernel
theorem dL_isRefused_762 : decode cL_isRefused 762 = .ok (.sipush (-1163), 3) := by decide +kernel
theorem dL_isRefused_765 : decode cL_isRefused 765 = .ok (.if_icmp .ne 39, 3) := by decide +kernel
theorem dL_isRefused_768 : decode cL_isRefused 768 = .ok (.goto 32, 3) := by decide +kernel
theorem dL_isRefused_771 : decode cL_isRefused 771 = .ok (.aload_n 0, 1) := by decide +kernel
theorem dL_isRefused_772 : decode cL_isRefused 772 = .ok (.iconst 4, 1) := by decide +kernel
theorem dL_isRefused_773 : decode cL_isRefused 773 = .ok (.iload 9, 2) := by decide +kernel
theorem dL_isRefused_775 : decode cL_isRefused 775 = .ok (.iload_n 3, 1) := by decide +kernel
theorem dL_isRefused_776 : decode cL_isRefused 776 = .ok (.ifCond .eq 7, 3) := by decide +kernel
theorem dL_isRefused_779 : decode cL_isRefused 779 = .ok (.iconst (-1), 1) := by decide +kernel
theorem dL_isRefused_780 : decode cL_isRefused 780 = .ok (.goto 10, 3) := by decide +kernel
theorem dL_isRefused_783 : decode cL_isRefused 783 = .ok (.iload 11, 2) := by decide +kernel
theorem dL_isRefused_785 : decode cL_isRefused 785 = .ok (.iload_n 2, 1) := by decide +kernel
theorem dL_isRefused_786 : decode cL_isRefused 786 = .ok (.bipush 30, 2) := by decide +kernel
theorem dL_isRefused_788 : decode cL_isRefused 788 = .ok (.irem, 1) := by decide +kernel
theorem dL_isRefused_789 : decode cL_isRefused 789 = .ok (.iadd, 1) := by decide +kernel
theorem dL_isRefused_790 : decode cL_isRefused 790 = .ok (.iconst 0, 1) := by decide +kernel
theorem dL_isRefused_791 : decode cL_isRefused 791 = .ok (.invokestatic 108, 3) := by decide +kernel
theorem dL_isRefused_794 : decode cL_isRefused 794 = .ok (.sipush (-1162), 3) := by decide +kernel
theorem dL_isRefused_797 : decode cL_isRefused 797 = .ok (.if_icmp .ne 7, 3) := by decide +kernel
theorem dL_isRefused_800 : decode cL_isRefused 800 = .ok (.iconst 1, 1) := by decide +kernel
theorem dL_isRefused_801 : decode cL_isRefused 801 = .ok (.goto 4, 3) := by decide +kernel
theorem dL_isRefused_804 : decode cL_isRefused 804 = .ok (.iconst 0, 1) := by decide +kernel
theorem dL_isRefused_805 : decode cL_isRefused 805 = .ok (.istore 8, 2) := by decide +kernel
theorem dL_isRefused_807 : decode cL_isRefused 807 = .ok (.iinc 9 1, 3) := by decide +kernel
theorem dL_isRefused_810 : decode cL_isRefused 810 = .ok (.goto (-270), 3) := by decide +kernel
theorem dL_isRefused_813 : decode cL_isRefused 813 = .ok (.iload 8, 2) := by decide +kernel
theorem dL_isRefused_815 : decode cL_isRefused 815 = .ok (.ifCond .eq 17, 3) := by decide +kernel
theorem dL_isRefused_818 : decode cL_isRefused 818 = .ok (.aload_n 0, 1) := by decide +kernel
theorem dL_isRefused_819 : decode cL_isRefused 819 = .ok (.invokestatic 104, 3) := by decide +kernel
theorem dL_isRefused_822 : decode cL_isRefused 822 = .ok (.lload 6, 2) := by decide +kernel
theorem dL_isRefused_824 : decode cL_isRefused 824 = .ok (.lcmp, 1) := by decide +kernel
theorem dL_isRefused_825 : decode cL_isRefused 825 = .ok (.ifCond .ne 7, 3) := by decide +kernel
theorem dL_isRefused_828 : decode cL_isRefused 828 = .ok (.iconst 1, 1) := by decide +kernel
theorem dL_isRefused_829 : decode cL_isRefused 829 = .ok (.goto 4, 3) := by decide +kernel
theorem dL_isRefused_832 : decode cL_isRefused 832 = .ok (.iconst 0, 1) := by decide +kernel
theorem dL_isRefused_833 : decode cL_isRefused 833 = .ok (.ireturn, 1) := by decide +kernel
set_option maxRecDepth 20000 in
theorem ggL_isEdited_X1_kindAt : GoodIn wsL_isEdited wsX1_kindAt := goodIn_ca (goodIn_r _ [5, 6, 7, 8, 9, 4, 10, 11, 12, 13, 14, 15, 16, 17, 18, 19, 20, 21, 22, 23, 24, 25, 26, 137, 138, 139, 140, 141, 142, 143, 144, 145] rfl (by decide +kernel)) (goodIn_sub (fun _ h => List.mem_cons_of_mem _ (List.mem_append_left _ (List.mem_append_left _ (List.mem_append_right _ h)))) (by decide +kernel))
set_option maxRecDepth 20000 in
theorem gL_isEdited_X1_kindAt : GoodIn wsL_isEdited (wsV RL 47 RX1 yX1_kindAt wsX1_kindAt) := goodIn_app (goodIn_of _ (by decide +kernel)) ggL_isEdited_X1_kindAt
set_option maxRecDepth 20000 in
theorem ggL_isEdited_X1_rightsAt : GoodIn wsL_isEdited wsX1_rightsAt := goodIn_ca (goodIn_r _ [30, 31, 7, 8, 9, 4, 10, 11, 12, 13, 14, 15, 16, 17, 18, 19, 20, 21, 22, 23, 24, 25, 26, 137, 138, 139, 140, 141, 142, 143, 144, 145] rfl (by decide +kernel)) (goodIn_sub (fun _ h => List.mem_cons_of_mem _ (List.mem_append_left _ (List.mem_append_left _ (List.mem_append_right _ h)))) (by decide +kernel))
set_option maxRecDepth 20000 in
theorem gL_isEdited_X1_rightsAt : GoodIn wsL_isEdited (wsV RL 53 RX1 yX1_rightsAt wsX1_rightsAt) := goodIn_app (goodIn_of _ (by decide +kernel)) ggL_isEdited_X1_rightsAt
set_option maxRecDepth 20000 in
theorem ggL_isEdited_L_length : GoodIn wsL_isEdited wsL_length := goodIn_ca (goodIn_r _ [35, 36, 37, 38, 4, 39, 17, 18, 40, 7, 8, 9, 10, 11, 12, 13, 14, 15, 16, 19, 20, 21, 22, 23, 24, 25, 26, 137, 138, 139, 140, 141, 142, 143, 144, 145] rfl (by decide +kernel)) (goodIn_sub (fun _ h => List.mem_cons_of_mem _ (List.mem_append_left _ (List.mem_append_left _ (List.mem_append_right _ h)))) (by decide +kernel))
set_option maxRecDepth 20000 in
theorem gL_isEdited_L_length : GoodIn wsL_isEdited (va_wsS RL 83 yL_length wsL_length) := goodIn_app (goodIn_of _ (by decide +kernel)) ggL_isEdited_L_length
set_option maxRecDepth 20000 in
theorem ggL_isEdited_X1_numberAt : GoodIn wsL_isEdited wsX1_numberAt := goodIn_ca (goodIn_r _ [39, 17, 18, 40, 7, 8, 9, 4, 10, 11, 12, 13, 14, 15, 16, 19, 20, 21, 22, 23, 24, 25, 26, 137, 138, 139, 140, 141, 142, 143, 144, 145] rfl (by decide +kernel)) (goodIn_sub (fun _ h => List.mem_cons_of_mem _ (List.mem_append_left _ (List.mem_append_left _ (List.mem_append_right _ h)))) (by decide +kernel))
set_option maxRecDepth 20000 in
theorem gL_isEdited_X1_numberAt : GoodIn wsL_isEdited (wsV RL 50 RX1 yX1_numberAt wsX1_numberAt) := goodIn_app (goodIn_of _ (by decide +kernel)) ggL_isEdited_X1_numberAt
set_option maxRecDepth 20000 in
theorem ggL_isEdited_L_act : GoodIn wsL_isEdited wsL_act := goodIn_ca (goodIn_ca (goodIn_ca (goodIn_r _ [43, 44, 45, 46, 47, 48, 49, 4, 50, 51, 52, 53, 54, 21, 22, 23, 17, 18, 55, 56, 57, 58, 59, 60, 61, 62, 63, 64, 65, 66, 67, 11, 6, 68, 69, 70, 71, 72, 73, 74, 75, 76, 77, 78, 79, 80, 81, 82, 83, 40, 31, 84, 85, 86, 87, 88, 89, 90, 91, 92, 93, 94, 95, 96, 97, 98, 99, 100, 101, 20, 102, 103, 12, 104, 105, 106, 107, 108, 109, 110, 111, 24, 25, 26, 112, 113, 114, 115, 116, 117, 118, 119, 120, 121, 122, 123, 124, 19, 125, 126, 127, 128, 13, 14, 15, 16, 137, 138, 139, 140, 141, 142, 143, 144, 145] rfl (by decide +kernel)) (goodIn_sub (fun _ h => List.mem_cons_of_mem _ (List.mem_append_left _ (List.mem_append_left _ (List.mem_append_right _ h)))) (by decide +kernel))) (goodIn_sub (fun _ h => List.mem_cons_of_mem _ (List.mem_append_left _ (List.mem_append_right _ h))) (by decide +kernel))) (goodIn_sub (fun _ h => List.mem_cons_of_mem _ (List.mem_append_right _ h)) (by decide +kernel))
set_option maxRecDepth 20000 in
theorem gL_isEdited_L_act : GoodIn wsL_isEdited (va_wsS RL 108 yL_act wsL_act) := goodIn_app (goodIn_of _ (by decide +kernel)) ggL_isEdited_L_act
set_option maxRecDepth 20000 in
theorem ggL_isEdited_L_isOnly : GoodIn wsL_isEdited wsL_isOnly := goodIn_ca (goodIn_r _ [131, 132, 133, 34, 134, 135, 136, 1, 2, 3, 4, 5, 6, 7, 8, 9, 10, 11, 12, 13, 14, 15, 16, 17, 18, 19, 20, 21, 22, 23, 24, 25, 26, 27, 28, 29, 30, 31, 36, 37, 38, 39, 40, 137, 138, 139, 140, 141, 142, 143, 144, 145] rfl (by decide +kernel)) (goodIn_sub (fun _ h => List.mem_cons_of_mem _ (List.mem_append_left _ (List.mem_append_left _ (List.mem_append_right _ h)))) (by decide +kernel))
set_option maxRecDepth 20000 in
theorem gL_isEdited_L_isOnly : GoodIn wsL_isEdited (va_wsS RL 115 yL_isOnly wsL_isOnly) := goodIn_app (goodIn_of _ (by decide +kernel)) ggL_isEdited_L_isOnly
set_option maxRecDepth 20000 in
theorem ggL_isEdited_L_told : GoodIn wsL_isEdited wsL_told := goodIn_ca (goodIn_r _ [134, 135, 136, 1, 2, 3, 4, 5, 6, 7, 8, 9, 10, 11, 12, 13, 14, 15, 16, 17, 18, 19, 20, 21, 22, 23, 24, 25, 26, 27, 28, 29, 30, 31, 36, 37, 38, 39, 40, 137, 138, 139, 140, 141, 142, 143, 144, 145] rfl (by decide +kernel)) (goodIn_sub (fun _ h => List.mem_cons_of_mem _ (List.mem_append_left _ (List.mem_append_left _ (List.mem_append_right _ h)))) (by decide +kernel))
set_option maxRecDepth 20000 in
theorem gL_isEdited_L_told : GoodIn wsL_isEdited (va_wsS RL 63 yL_told wsL_told) := goodIn_app (goodIn_of _ (by decide +kernel)) ggL_isEdited_L_told
theorem dL_isEdited_0 : decode cL_isEdited 0 = .ok (.aload_n 0, 1) := by decide +kernel
theorem dL_isEdited_1 : decode cL_isEdited 1 = .ok (.iconst (-1), 1) := by decide +kernel
theorem dL_isEdited_2 : decode cL_isEdited 2 = .ok (.iload_n 2, 1) := by decide +kernel
theorem dL_isEdited_3 : decode cL_isEdited 3 = .ok (.invokevirtual 47, 3) := by decide +kernel
theorem dL_isEdited_6 : decode cL_isEdited 6 = .ok (.istore 5, 2) := by decide +kernel
theorem dL_isEdited_8 : decode cL_isEdited 8 = .ok (.aload_n 0, 1) := by decide +kernel
theorem dL_isEdited_9 : decode cL_isEdited 9 = .ok (.iconst (-1), 1) := by decide +kernel
theorem dL_isEdited_10 : decode cL_isEdited 10 = .ok (.iload_n 2, 1) := by decide +kernel
theorem dL_isEdited_11 : decode cL_isEdited 11 = .ok (.invokevirtual 53, 3) := by decide +kernel
theorem dL_isEdited_14 : decode cL_isEdited 14 = .ok (.istore 6, 2) := by decide +kernel
theorem dL_isEdited_16 : decode cL_isEdited 16 = .ok (.aload_n 0, 1) := by decide +kernel
theorem dL_isEdited_17 : decode cL_isEdited 17 = .ok (.iconst (-1), 1) := by decide +kernel
theorem dL_isEdited_18 : decode cL_isEdited 18 = .ok (.iload_n 2, 1) := by decide +kernel
theorem dL_isEdited_19 : decode cL_isEdited 19 = .ok (.invokestatic 83, 3) := by decide +kernel
theorem dL_isEdited_22 : decode cL_isEdited 22 = .ok (.istore 7, 2) := by decide +kernel
theorem dL_isEdited_24 : decode cL_isEdited 24 = .ok (.iload 5, 2) := by decide +kernel
theorem dL_isEdited_26 : decode cL_isEdited 26 = .ok (.ifCond .ne 7, 3) := by decide +kernel
theorem dL_isEdited_29 : decode cL_isEdited 29 = .ok (.iconst (-1), 1) := by decide +kernel
theorem dL_isEdited_30 : decode cL_isEdited 30 = .ok (.goto 14, 3) := by decide +kernel
theorem dL_isEdited_33 : decode cL_isEdited 33 = .ok (.aload_n 0, 1) := by decide +kernel
theorem dL_isEdited_34 : decode cL_isEdited 34 = .ok (.iconst (-1), 1) := by decide +kernel
theorem dL_isEdited_35 : decode cL_isEdited 35 = .ok (.iload_n 2, 1) := by decide +kernel
theorem dL_isEdited_36 : decode cL_isEdited 36 = .ok (.iload 4, 2) := by decide +kernel
theorem dL_isEdited_38 : decode cL_isEdited 38 = .ok (.bipush 12, 2) := by decide +kernel

theorem goodIn_co {big a : List Cond} {c : Cond} (h : GoodIn big [c]) (ha : GoodIn big a) : GoodIn big (c :: a) := fun w hw => (List.mem_cons.mp hw).elim (fun e => h w (List.mem_cons.mpr (Or.inl e))) (ha w)
theorem dL_below_0 : decode cL_below 0 = .ok (.iload_n 0, 1) := by decide +kernel
theorem dL_below_1 : decode cL_below 1 = .ok (.ldc 7, 2) := by decide +kernel
theorem dL_below_3 : decode cL_below 3 = .ok (.iand, 1) := by decide +kernel
theorem dL_below_4 : decode cL_below 4 = .ok (.iload_n 1, 1) := by decide +kernel
theorem dL_below_5 : decode cL_below 5 = .ok (.irem, 1) := by decide +kernel
theorem dL_below_6 : decode cL_below 6 = .ok (.ireturn, 1) := by decide +kernel
theorem dL_cell_0 : decode cL_cell 0 = .ok (.iload_n 1, 1) := by decide +kernel
theorem dL_cell_1 : decode cL_cell 1 = .ok (.aload_n 0, 1) := by decide +kernel
theorem dL_cell_2 : decode cL_cell 2 = .ok (.arraylength, 1) := by decide +kernel
theorem dL_cell_3 : decode cL_cell 3 = .ok (.if_icmp .ge 9, 3) := by decide +kernel
theorem dL_cell_6 : decode cL_cell 6 = .ok (.aload_n 0, 1) := by decide +kernel
theorem dL_cell_7 : decode cL_cell 7 = .ok (.iload_n 1, 1) := by decide +kernel
theorem dL_cell_8 : decode cL_cell 8 = .ok (.iaload, 1) := by decide +kernel
theorem dL_cell_9 : decode cL_cell 9 = .ok (.goto 9, 3) := by decide +kernel
theorem dL_cell_12 : decode cL_cell 12 = .ok (.ldc 8, 2) := by decide +kernel
theorem dL_cell_14 : decode cL_cell 14 = .ok (.iload_n 1, 1) := by decide +kernel
theorem dL_cell_15 : decode cL_cell 15 = .ok (.iconst 3, 1) := by decide +kernel
theorem dL_cell_16 : decode cL_cell 16 = .ok (.iadd, 1) := by decide +kernel
theorem dL_cell_17 : decode cL_cell 17 = .ok (.imul, 1) := by decide +kernel
theorem dL_cell_18 : decode cL_cell 18 = .ok (.ireturn, 1) := by decide +kernel
set_option maxRecDepth 20000 in
theorem ggL_act_L_below : GoodIn wsL_act wsL_below := goodIn_r _ [12, 13] (by decide +kernel) (by decide +kernel)
set_option maxRecDepth 20000 in
theorem gL_act_L_below : GoodIn wsL_act (va_wsS RL 15 yL_below wsL_below) := goodIn_app (goodIn_of _ (by decide +kernel)) ggL_act_L_below
set_option maxRecDepth 20000 in
theorem ggL_act_X4_reckon : GoodIn wsL_act wsX4_reckon := goodIn_r _ [18, 19, 20, 21, 22, 23, 24, 25, 183, 184, 185, 186, 187, 188, 189] (by decide +kernel) (by decide +kernel)
set_option maxRecDepth 20000 in
theorem gL_act_X4_reckon : GoodIn wsL_act (wsV RL 21 RX4 yX4_reckon wsX4_reckon) := goodIn_app (goodIn_of _ (by decide +kernel)) ggL_act_X4_reckon
set_option maxRecDepth 20000 in
theorem ggL_act_X3_find : GoodIn wsL_act wsX3_find := goodIn_ca (goodIn_r _ [30, 31, 32, 33, 34, 35, 36, 37, 38, 39, 40, 41, 42, 43, 44, 45, 46, 47, 48, 49, 50, 51, 52, 53, 54, 55, 56, 29, 57, 58, 59, 60, 61, 62, 63, 64, 65, 190, 191, 192, 193, 194, 195, 196, 197, 198, 199] (by decide +kernel) (by decide +kernel)) (goodIn_sub (fun _ h => List.mem_cons_of_mem _ (List.mem_append_left _ (List.mem_append_left _ (List.mem_append_right _ h)))) (by decide +kernel))
set_option maxRecDepth 20000 in
theorem gL_act_X3_find : GoodIn wsL_act (wsV RL 25 RX3 yX3_find wsX3_find) := goodIn_app (goodIn_of _ (by decide +kernel)) ggL_act_X3_find
set_option maxRecDepth 20000 in
theorem ggL_act_X4_more : GoodIn wsL_act wsX4_more := goodIn_r _ [68, 69] (by decide +kernel) (by decide +kernel)
set_option maxRecDepth 20000 in
theorem gL_act_X4_more : GoodIn wsL_act (va_wsS RL 39 yX4_more wsX4_more) := goodIn_app (goodIn_of _ (by decide +kernel)) ggL_act_X4_more
set_option maxRecDepth 20000 in
theorem ggL_act_X3_same : GoodIn wsL_act wsX3_same := goodIn_ca (goodIn_ca (goodIn_r _ [73, 31, 32, 33, 74, 75, 76, 29, 77, 34, 35, 36, 37, 38, 39, 78, 79, 80, 81, 82, 83, 84, 85, 86, 51, 56, 57, 87, 88, 89, 90, 44, 91, 92, 93, 94, 95, 45, 46, 47, 48, 49, 50, 52, 53, 54, 55, 58, 59, 60, 61, 62, 63, 64, 65, 96, 97, 98, 99, 100, 101, 102, 103, 104, 105, 106, 190, 191, 192, 193, 194, 195, 196, 197, 198, 199] (by decide +kernel) (by decide +kernel)) (goodIn_sub (fun _ h => List.mem_cons_of_mem _ (List.mem_append_left _ (List.mem_append_left _ (List.mem_append_right _ h)))) (by decide +kernel))) (goodIn_sub (fun _ h => List.mem_cons_of_mem _ (List.mem_append_left _ (List.mem_append_right _ h))) (by decide +kernel))
set_option maxRecDepth 20000 in
theorem gL_act_X3_same : GoodIn wsL_act (wsV RL 46 RX3 yX3_same wsX3_same) := goodIn_app (goodIn_of _ (by decide +kernel)) ggL_act_X3_same
set_option maxRecDepth 20000 in
theorem ggL_act_X3_above : GoodIn wsL_act wsX3_above := goodIn_ca (goodIn_ca (goodIn_r _ [110, 31, 32, 33, 74, 75, 76, 29, 77, 34, 35, 36, 37, 38, 39, 78, 79, 80, 81, 82, 111, 112, 113, 114, 44, 56, 57, 115, 84, 85, 86, 51, 116, 117, 118, 119, 91, 92, 93, 94, 95, 45, 46, 47, 48, 49, 50, 52, 53, 54, 55, 58, 59, 60, 61, 62, 63, 64, 65, 120, 121, 122, 123, 100, 101, 102, 103, 104, 105, 106, 190, 191, 192, 193, 194, 195, 196, 197, 198, 199] (by decide +kernel) (by decide +kernel)) (goodIn_sub (fun _ h => List.mem_cons_of_mem _ (List.mem_append_left _ (List.mem_append_left _ (List.mem_append_right _ h)))) (by decide +kernel))) (goodIn_sub (fun _ h => List.mem_cons_of_mem _ (List.mem_append_left _ (List.mem_append_right _ h))) (by decide +kernel))
set_option maxRecDepth 20000 in
theorem gL_act_X3_above : GoodIn wsL_act (wsV RL 51 RX3 yX3_above wsX3_above) := goodIn_app (goodIn_of _ (by decide +kernel)) ggL_act_X3_above
set_option maxRecDepth 20000 in
theorem ggL_act_X3_sift : GoodIn wsL_act wsX3_sift := goodIn_ca (goodIn_ca (goodIn_r _ [127, 128, 129, 130, 74, 75, 76, 29, 77, 33, 34, 35, 36, 37, 38, 39, 78, 79, 80, 81, 82, 131, 132, 133, 134, 135, 136, 137, 138, 139, 190, 191, 192, 193, 194, 195, 196, 197, 198, 199, 200] (by decide +kernel) (by decide +kernel)) (goodIn_sub (fun _ h => List.mem_cons_of_mem _ (List.mem_append_right _ h)) (by decide +kernel))) (goodIn_sub (fun _ h => List.mem_cons_of_mem _ (List.mem_append_left _ (List.mem_append_right _ h))) (by decide +kernel))
set_option maxRecDepth 20000 in
theorem gL_act_X3_sift : GoodIn wsL_act (wsV RL 57 RX3 yX3_sift wsX3_sift) := goodIn_app (goodIn_of _ (by decide +kernel)) ggL_act_X3_sift
set_option maxRecDepth 20000 in
theorem ggL_act_X3_clear : GoodIn wsL_act wsX3_clear := goodIn_ca (goodIn_ca (goodIn_r _ [143, 31, 32, 144, 74, 75, 76, 29, 77, 33, 34, 35, 36, 37, 38, 39, 78, 79, 80, 81, 82, 145, 146, 147, 148, 149, 150, 56, 57, 151, 152, 153, 154, 155, 156, 157, 158, 159, 160, 190, 191, 192, 193, 194, 195, 196, 197, 198, 199, 201, 202, 203] (by decide +kernel) (by decide +kernel)) (goodIn_sub (fun _ h => List.mem_cons_of_mem _ (List.mem_append_left _ (List.mem_append_left _ (List.mem_append_right _ h)))) (by decide +kernel))) (goodIn_sub (fun _ h => List.mem_cons_of_mem _ (List.mem_append_left _ (List.mem_append_right _ h))) (by decide +kernel))
set_option maxRecDepth 20000 in
theorem gL_act_X3_clear : GoodIn wsL_act (wsV RL 64 RX3 yX3_clear wsX3_clear) := goodIn_app (goodIn_of _ (by decide +kernel)) ggL_act_X3_clear
set_option maxRecDepth 20000 in
theorem ggL_act_X3_hearth : GoodIn wsL_act wsX3_hearth := goodIn_ca (goodIn_ca (goodIn_r _ [164, 128, 129, 144, 74, 75, 76, 29, 77, 33, 34, 35, 36, 37, 38, 39, 78, 79, 80, 81, 82, 165, 166, 167, 148, 168, 150, 155, 160, 169, 170, 171, 172, 96, 97, 98, 99, 44, 120, 121, 122, 123, 51, 173, 174, 175, 176, 177, 63, 64, 65, 56, 57, 190, 191, 192, 193, 194, 195, 196, 197, 198, 199, 201, 202, 203] (by decide +kernel) (by decide +kernel)) (goodIn_sub (fun _ h => List.mem_cons_of_mem _ (List.mem_append_right _ h)) (by decide +kernel))) (goodIn_sub (fun _ h => List.mem_cons_of_mem _ (List.mem_append_left _ (List.mem_append_right _ h))) (by decide +kernel))
set_option maxRecDepth 20000 in
theorem gL_act_X3_hearth : GoodIn wsL_act (wsV RL 68 RX3 yX3_hearth wsX3_hearth) := goodIn_app (goodIn_of _ (by decide +kernel)) ggL_act_X3_hearth
set_option maxRecDepth 20000 in
theorem ggL_act_X4_from : GoodIn wsL_act wsX4_from := goodIn_r _ [181, 19, 22, 23, 182, 183, 184, 185, 186, 187, 188, 189] (by decide +kernel) (by decide +kernel)
set_option maxRecDepth 20000 in
theorem gL_act_X4_from : GoodIn wsL_act (wsV RL 71 RX4 yX4_from wsX4_from) := goodIn_app (goodIn_of _ (by decide +kernel)) ggL_act_X4_from
theorem dL_act_0 : decode cL_act 0 = .ok (.aload_n 1, 1) := by decide +kernel
theorem dL_act_1 : decode cL_act 1 = .ok (.getfield 9, 3) := by decide +kernel
theorem dL_act_4 : decode cL_act 4 = .ok (.istore_n 3, 1) := by decide +kernel
theorem dL_act_5 : decode cL_act 5 = .ok (.iload_n 3, 1) := by decide +kernel
theorem dL_act_6 : decode cL_act 6 = .ok (.ifCond .ne 7, 3) := by decide +kernel
theorem dL_act_9 : decode cL_act 9 = .ok (.iconst 0, 1) := by decide +kernel
theorem dL_act_10 : decode cL_act 10 = .ok (.goto 8, 3) := by decide +kernel
theorem dL_act_13 : decode cL_act 13 = .ok (.iload_n 2, 1) := by decide +kernel
theorem dL_act_14 : decode cL_act 14 = .ok (.iload_n 3, 1) := by decide +kernel
theorem dL_act_15 : decode cL_act 15 = .ok (.invokestatic 15, 3) := by decide +kernel
theorem dL_act_18 : decode cL_act 18 = .ok (.istore 4, 2) := by decide +kernel
theorem dL_act_20 : decode cL_act 20 = .ok (.iload_n 3, 1) := by decide +kernel
theorem dL_act_21 : decode cL_act 21 = .ok (.ifCond .ne 7, 3) := by decide +kernel
theorem dL_act_24 : decode cL_act 24 = .ok (.iconst 0, 1) := by decide +kernel
theorem dL_act_25 : decode cL_act 25 = .ok (.goto 10, 3) := by decide +kernel
theorem dL_act_28 : decode cL_act 28 = .ok (.iload_n 2, 1) := by decide +kernel
theorem dL_act_29 : decode cL_act 29 = .ok (.iconst 3, 1) := by decide +kernel
theorem dL_act_30 : decode cL_act 30 = .ok (.ishr, 1) := by decide +kernel
theorem dL_act_31 : decode cL_act 31 = .ok (.iload_n 3, 1) := by decide +kernel
theorem dL_act_32 : decode cL_act 32 = .ok (.invokestatic 15, 3) := by decide +kernel
theorem dL_act_35 : decode cL_act 35 = .ok (.istore 5, 2) := by decide +kernel
theorem dL_act_37 : decode cL_act 37 = .ok (.aload_n 1, 1) := by decide +kernel
theorem dL_act_38 : decode cL_act 38 = .ok (.invokevirtual 21, 3) := by decide +kernel
theorem dL_act_41 : decode cL_act 41 = .ok (.pop, 1) := by decide +kernel
theorem dL_act_42 : decode cL_act 42 = .ok (.iload_n 3, 1) := by decide +kernel
theorem dL_act_43 : decode cL_act 43 = .ok (.ifCond .ne 7, 3) := by decide +kernel
theorem dL_act_46 : decode cL_act 46 = .ok (.iconst 0, 1) := by decide +kernel
theorem dL_act_47 : decode cL_act 47 = .ok (.goto 12, 3) := by decide +kernel
theorem dL_act_50 : decode cL_act 50 = .ok (.iload_n 2, 1) := by decide +kernel
theorem dL_act_51 : decode cL_act 51 = .ok (.bipush 9, 2) := by decide +kernel
theorem dL_act_53 : decode cL_act 53 = .ok (.ishr, 1) := by decide +kernel
theorem dL_act_54 : decode cL_act 54 = .ok (.bipush 16, 2) := by decide +kernel
theorem dL_act_56 : decode cL_act 56 = .ok (.invokestatic 15, 3) := by decide +kernel
theorem dL_act_59 : decode cL_act 59 = .ok (.tableswitch 505 0 10 #[57, 89, 89, 230, 230, 230, 230, 361, 361, 361, 445], 57) := by decide +kernel
theorem dL_act_116 : decode cL_act 116 = .ok (.iload_n 3, 1) := by decide +kernel
theorem dL_act_117 : decode cL_act 117 = .ok (.bipush 12, 2) := by decide +kernel
theorem dL_act_119 : decode cL_act 119 = .ok (.if_icmp .ne 5, 3) := by decide +kernel
theorem dL_act_122 : decode cL_act 122 = .ok (.iconst 1, 1) := by decide +kernel
theorem dL_act_123 : decode cL_act 123 = .ok (.ireturn, 1) := by decide +kernel
theorem dL_act_124 : decode cL_act 124 = .ok (.aload_n 1, 1) := by decide +kernel
theorem dL_act_125 : decode cL_act 125 = .ok (.dup, 1) := by decide +kernel
theorem dL_act_126 : decode cL_act 126 = .ok (.getfield 9, 3) := by decide +kernel
theorem dL_act_129 : decode cL_act 129 = .ok (.iconst 1, 1) := by decide +kernel
theorem dL_act_130 : decode cL_act 130 = .ok (.iadd, 1) := by decide +kernel
theorem dL_act_131 : decode cL_act 131 = .ok (.putfield 9, 3) := by decide +kernel
theorem dL_act_134 : decode cL_act 134 = .ok (.aload_n 0, 1) := by decide +kernel
theorem dL_act_135 : decode cL_act 135 = .ok (.invokevirtual 25, 3) := by decide +kernel
theorem dL_act_138 : decode cL_act 138 = .ok (.iload_n 3, 1) := by decide +kernel
theorem dL_act_139 : decode cL_act 139 = .ok (.if_icmp .ne 7, 3) := by decide +kernel
theorem dL_act_142 : decode cL_act 142 = .ok (.iconst 1, 1) := by decide +kernel
theorem dL_act_143 : decode cL_act 143 = .ok (.goto 4, 3) := by decide +kernel
theorem dL_act_146 : decode cL_act 146 = .ok (.iconst 0, 1) := by decide +kernel
theorem dL_act_147 : decode cL_act 147 = .ok (.ireturn, 1) := by decide +kernel
theorem dL_act_148 : decode cL_act 148 = .ok (.aload_n 1, 1) := by decide +kernel
theorem dL_act_149 : decode cL_act 149 = .ok (.getfield 31, 3) := by decide +kernel
theorem dL_act_152 : decode cL_act 152 = .ok (.iload 4, 2) := by decide +kernel
theorem dL_act_154 : decode cL_act 154 = .ok (.aaload, 1) := by decide +kernel
theorem dL_act_155 : decode cL_act 155 = .ok (.iload 5, 2) := by decide +kernel
theorem dL_act_157 : decode cL_act 157 = .ok (.baload, 1) := by decide +kernel
theorem dL_act_158 : decode cL_act 158 = .ok (.ifCond .ne 26, 3) := by decide +kernel
theorem dL_act_161 : decode cL_act 161 = .ok (.aload_n 1, 1) := by decide +kernel
theorem dL_act_162 : decode cL_act 162 = .ok (.getfield 31, 3) := by decide +kernel
theorem dL_act_165 : decode cL_act 165 = .ok (.iload 5, 2) := by decide +kernel
theorem dL_act_167 : decode cL_act 167 = .ok (.aaload, 1) := by decide +kernel
theorem dL_act_168 : decode cL_act 168 = .ok (.iload 4, 2) := by decide +kernel
theorem dL_act_170 : decode cL_act 170 = .ok (.baload, 1) := by decide +kernel
theorem dL_act_171 : decode cL_act 171 = .ok (.ifCond .ne 13, 3) := by decide +kernel
theorem dL_act_174 : decode cL_act 174 = .ok (.iload_n 2, 1) := by decide +kernel
theorem dL_act_175 : decode cL_act 175 = .ok (.iconst 5, 1) := by decide +kernel
theorem dL_act_176 : decode cL_act 176 = .ok (.ishr, 1) := by decide +kernel
theorem dL_act_177 : decode cL_act 177 = .ok (.iconst 2, 1) := by decide +kernel
theorem dL_act_178 : decode cL_act 178 = .ok (.invokestatic 15, 3) := by decide +kernel
theorem dL_act_181 : decode cL_act 181 = .ok (.ifCond .ne 5, 3) := by decide +kernel
theorem dL_act_184 : decode cL_act 184 = .ok (.iconst 1, 1) := by decide +kernel
theorem dL_act_185 : decode cL_act 185 = .ok (.ireturn, 1) := by decide +kernel
theorem dL_act_186 : decode cL_act 186 = .ok (.aload_n 1, 1) := by decide +kernel
theorem dL_act_187 : decode cL_act 187 = .ok (.aload_n 1, 1) := by decide +kernel
theorem dL_act_188 : decode cL_act 188 = .ok (.getfield 35, 3) := by decide +kernel
theorem dL_act_191 : decode cL_act 191 = .ok (.iconst 2, 1) := by decide +kernel
theorem dL_act_192 : decode cL_act 192 = .ok (.newarray .int, 2) := by decide +kernel
theorem dL_act_194 : decode cL_act 194 = .ok (.dup, 1) := by decide +kernel
theorem dL_act_195 : decode cL_act 195 = .ok (.iconst 0, 1) := by decide +kernel
theorem dL_act_196 : decode cL_act 196 = .ok (.iload 4, 2) := by decide +kernel
theorem dL_act_198 : decode cL_act 198 = .ok (.iastore, 1) := by decide +kernel
theorem dL_act_199 : decode cL_act 199 = .ok (.dup, 1) := by decide +kernel
theorem dL_act_200 : decode cL_act 200 = .ok (.iconst 1, 1) := by decide +kernel
theorem dL_act_201 : decode cL_act 201 = .ok (.iload 5, 2) := by decide +kernel
theorem dL_act_203 : decode cL_act 203 = .ok (.iastore, 1) := by decide +kernel
theorem dL_act_204 : decode cL_act 204 = .ok (.invokestatic 39, 3) := by decide +kernel
theorem dL_act_207 : decode cL_act 207 = .ok (.putfield 35, 3) := by decide +kernel
theorem dL_act_210 : decode cL_act 210 = .ok (.aload_n 1, 1) := by decide +kernel
theorem dL_act_211 : decode cL_act 211 = .ok (.invokevirtual 21, 3) := by decide +kernel
theorem dL_act_214 : decode cL_act 214 = .ok (.pop, 1) := by decide +kernel
theorem dL_act_215 : decode cL_act 215 = .ok (.iconst 0, 1) := by decide +kernel
theorem dL_act_216 : decode cL_act 216 = .ok (.istore 6, 2) := by decide +kernel
theorem dL_act_218 : decode cL_act 218 = .ok (.aload_n 1, 1) := by decide +kernel
theorem dL_act_219 : decode cL_act 219 = .ok (.getfield 43, 3) := by decide +kernel
theorem dL_act_222 : decode cL_act 222 = .ok (.iload 4, 2) := by decide +kernel
theorem dL_act_224 : decode cL_act 224 = .ok (.aaload, 1) := by decide +kernel
theorem dL_act_225 : decode cL_act 225 = .ok (.astore 7, 2) := by decide +kernel
theorem dL_act_227 : decode cL_act 227 = .ok (.aload 7, 2) := by decide +kernel
theorem dL_act_229 : decode cL_act 229 = .ok (.arraylength, 1) := by decide +kernel
theorem dL_act_230 : decode cL_act 230 = .ok (.istore 8, 2) := by decide +kernel
theorem dL_act_232 : decode cL_act 232 = .ok (.iconst 0, 1) := by decide +kernel
theorem dL_act_233 : decode cL_act 233 = .ok (.istore 9, 2) := by decide +kernel
theorem dL_act_235 : decode cL_act 235 = .ok (.iload 9, 2) := by decide +kernel
theorem dL_act_237 : decode cL_act 237 = .ok (.iload 8, 2) := by decide +kernel
theorem dL_act_239 : decode cL_act 239 = .ok (.if_icmp .ge 31, 3) := by decide +kernel
theorem dL_act_242 : decode cL_act 242 = .ok (.aload 7, 2) := by decide +kernel
theorem dL_act_244 : decode cL_act 244 = .ok (.iload 9, 2) := by decide +kernel
theorem dL_act_246 : decode cL_act 246 = .ok (.baload, 1) := by decide +kernel
theorem dL_act_247 : decode cL_act 247 = .ok (.istore 10, 2) := by decide +kernel
theorem dL_act_249 : decode cL_act 249 = .ok (.iload 6, 2) := by decide +kernel
theorem dL_act_251 : decode cL_act 251 = .ok (.iload 10, 2) := by decide +kernel
theorem dL_act_253 : decode cL_act 253 = .ok (.ifCond .eq 7, 3) := by decide +kernel
theorem dL_act_256 : decode cL_act 256 = .ok (.iconst 1, 1) := by decide +kernel
theorem dL_act_257 : decode cL_act 257 = .ok (.goto 4, 3) := by decide +kernel
theorem dL_act_260 : decode cL_act 260 = .ok (.iconst 0, 1) := by decide +kernel
theorem dL_act_261 : decode cL_act 261 = .ok (.iadd, 1) := by decide +kernel
theorem dL_act_262 : decode cL_act 262 = .ok (.istore 6, 2) := by decide +kernel
theorem dL_act_264 : decode cL_act 264 = .ok (.iinc 9 1, 3) := by decide +kernel
theorem dL_act_267 : decode cL_act 267 = .ok (.goto (-32), 3) := by decide +kernel
theorem dL_act_270 : decode cL_act 270 = .ok (.aload_n 0, 1) := by decide +kernel
theorem dL_act_271 : decode cL_act 271 = .ok (.iload 4, 2) := by decide +kernel
theorem dL_act_273 : decode cL_act 273 = .ok (.iload 5, 2) := by decide +kernel
theorem dL_act_275 : decode cL_act 275 = .ok (.invokevirtual 46, 3) := by decide +kernel
theorem dL_act_278 : decode cL_act 278 = .ok (.iload 6, 2) := by decide +kernel
theorem dL_act_280 : decode cL_act 280 = .ok (.if_icmp .ne 7, 3) := by decide +kernel
theorem dL_act_283 : decode cL_act 283 = .ok (.iconst 1, 1) := by decide +kernel
theorem dL_act_284 : decode cL_act 284 = .ok (.goto 4, 3) := by decide +kernel
theorem dL_act_287 : decode cL_act 287 = .ok (.iconst 0, 1) := by decide +kernel
theorem dL_act_288 : decode cL_act 288 = .ok (.ireturn, 1) := by decide +kernel
theorem dL_act_289 : decode cL_act 289 = .ok (.aload_n 1, 1) := by decide +kernel
theorem dL_act_290 : decode cL_act 290 = .ok (.getfield 43, 3) := by decide +kernel
theorem dL_act_293 : decode cL_act 293 = .ok (.iload 4, 2) := by decide +kernel
theorem dL_act_295 : decode cL_act 295 = .ok (.aaload, 1) := by decide +kernel
theorem dL_act_296 : decode cL_act 296 = .ok (.iload 5, 2) := by decide +kernel
theorem dL_act_298 : decode cL_act 298 = .ok (.baload, 1) := by decide +kernel
theorem dL_act_299 : decode cL_act 299 = .ok (.ifCond .ne 16, 3) := by decide +kernel
theorem dL_act_302 : decode cL_act 302 = .ok (.aload_n 1, 1) := by decide +kernel
theorem dL_act_303 : decode cL_act 303 = .ok (.getfield 31, 3) := by decide +kernel
theorem dL_act_306 : decode cL_act 306 = .ok (.iload 5, 2) := by decide +kernel
theorem dL_act_308 : decode cL_act 308 = .ok (.aaload, 1) := by decide +kernel
theorem dL_act_309 : decode cL_act 309 = .ok (.iload 4, 2) := by decide +kernel
theorem dL_act_311 : decode cL_act 311 = .ok (.baload, 1) := by decide +kernel
theorem dL_act_312 : decode cL_act 312 = .ok (.ifCond .eq 5, 3) := by decide +kernel
theorem dL_act_315 : decode cL_act 315 = .ok (.iconst 1, 1) := by decide +kernel
theorem dL_act_316 : decode cL_act 316 = .ok (.ireturn, 1) := by decide +kernel
theorem dL_act_317 : decode cL_act 317 = .ok (.aload_n 1, 1) := by decide +kernel
theorem dL_act_318 : decode cL_act 318 = .ok (.aload_n 1, 1) := by decide +kernel
theorem dL_act_319 : decode cL_act 319 = .ok (.getfield 48, 3) := by decide +kernel
theorem dL_act_322 : decode cL_act 322 = .ok (.iconst 2, 1) := by decide +kernel
theorem dL_act_323 : decode cL_act 323 = .ok (.newarray .int, 2) := by decide +kernel
theorem dL_act_325 : decode cL_act 325 = .ok (.dup, 1) := by decide +kernel
theorem dL_act_326 : decode cL_act 326 = .ok (.iconst 0, 1) := by decide +kernel
theorem dL_act_327 : decode cL_act 327 = .ok (.iload 4, 2) := by decide +kernel
theorem dL_act_329 : decode cL_act 329 = .ok (.iastore, 1) := by decide +kernel
theorem dL_act_330 : decode cL_act 330 = .ok (.dup, 1) := by decide +kernel
theorem dL_act_331 : decode cL_act 331 = .ok (.iconst 1, 1) := by decide +kernel
theorem dL_act_332 : decode cL_act 332 = .ok (.iload 5, 2) := by decide +kernel
theorem dL_act_334 : decode cL_act 334 = .ok (.iastore, 1) := by decide +kernel
theorem dL_act_335 : decode cL_act 335 = .ok (.invokestatic 39, 3) := by decide +kernel
theorem dL_act_338 : decode cL_act 338 = .ok (.putfield 48, 3) := by decide +kernel
theorem dL_act_341 : decode cL_act 341 = .ok (.aload_n 1, 1) := by decide +kernel
theorem dL_act_342 : decode cL_act 342 = .ok (.invokevirtual 21, 3) := by decide +kernel
theorem dL_act_345 : decode cL_act 345 = .ok (.pop, 1) := by decide +kernel
theorem dL_act_346 : decode cL_act 346 = .ok (.iconst 0, 1) := by decide +kernel
theorem dL_act_347 : decode cL_act 347 = .ok (.istore 7, 2) := by decide +kernel
theorem dL_act_349 : decode cL_act 349 = .ok (.aload_n 1, 1) := by decide +kernel
theorem dL_act_350 : decode cL_act 350 = .ok (.getfield 31, 3) := by decide +kernel
theorem dL_act_353 : decode cL_act 353 = .ok (.iload 4, 2) := by decide +kernel
theorem dL_act_355 : decode cL_act 355 = .ok (.aaload, 1) := by decide +kernel
theorem dL_act_356 : decode cL_act 356 = .ok (.astore 8, 2) := by decide +kernel
theorem dL_act_358 : decode cL_act 358 = .ok (.aload 8, 2) := by decide +kernel
theorem dL_act_360 : decode cL_act 360 = .ok (.arraylength, 1) := by decide +kernel
theorem dL_act_361 : decode cL_act 361 = .ok (.istore 9, 2) := by decide +kernel
theorem dL_act_363 : decode cL_act 363 = .ok (.iconst 0, 1) := by decide +kernel
theorem dL_act_364 : decode cL_act 364 = .ok (.istore 10, 2) := by decide +kernel
theorem dL_act_366 : decode cL_act 366 = .ok (.iload 10, 2) := by decide +kernel
theorem dL_act_368 : decode cL_act 368 = .ok (.iload 9, 2) := by decide +kernel
theorem dL_act_370 : decode cL_act 370 = .ok (.if_icmp .ge 31, 3) := by decide +kernel
theorem dL_act_373 : decode cL_act 373 = .ok (.aload 8, 2) := by decide +kernel
theorem dL_act_375 : decode cL_act 375 = .ok (.iload 10, 2) := by decide +kernel
theorem dL_act_377 : decode cL_act 377 = .ok (.baload, 1) := by decide +kernel
theorem dL_act_378 : decode cL_act 378 = .ok (.istore 11, 2) := by decide +kernel
theorem dL_act_380 : decode cL_act 380 = .ok (.iload 7, 2) := by decide +kernel
theorem dL_act_382 : decode cL_act 382 = .ok (.iload 11, 2) := by decide +kernel
theorem dL_act_384 : decode cL_act 384 = .ok (.ifCond .eq 7, 3) := by decide +kernel
theorem dL_act_387 : decode cL_act 387 = .ok (.iconst 1, 1) := by decide +kernel
theorem dL_act_388 : decode cL_act 388 = .ok (.goto 4, 3) := by decide +kernel
theorem dL_act_391 : decode cL_act 391 = .ok (.iconst 0, 1) := by decide +kernel
theorem dL_act_392 : decode cL_act 392 = .ok (.iadd, 1) := by decide +kernel
theorem dL_act_393 : decode cL_act 393 = .ok (.istore 7, 2) := by decide +kernel
theorem dL_act_395 : decode cL_act 395 = .ok (.iinc 10 1, 3) := by decide +kernel
theorem dL_act_398 : decode cL_act 398 = .ok (.goto (-32), 3) := by decide +kernel
theorem dL_act_401 : decode cL_act 401 = .ok (.aload_n 0, 1) := by decide +kernel
theorem dL_act_402 : decode cL_act 402 = .ok (.iload 4, 2) := by decide +kernel
theorem dL_act_404 : decode cL_act 404 = .ok (.iload 5, 2) := by decide +kernel
theorem dL_act_406 : decode cL_act 406 = .ok (.invokevirtual 51, 3) := by decide +kernel
theorem dL_act_409 : decode cL_act 409 = .ok (.iload 7, 2) := by decide +kernel
theorem dL_act_411 : decode cL_act 411 = .ok (.if_icmp .ne 7, 3) := by decide +kernel
theorem dL_act_414 : decode cL_act 414 = .ok (.iconst 1, 1) := by decide +kernel
theorem dL_act_415 : decode cL_act 415 = .ok (.goto 4, 3) := by decide +kernel
theorem dL_act_418 : decode cL_act 418 = .ok (.iconst 0, 1) := by decide +kernel
theorem dL_act_419 : decode cL_act 419 = .ok (.ireturn, 1) := by decide +kernel
theorem dL_act_420 : decode cL_act 420 = .ok (.iload_n 2, 1) := by decide +kernel
theorem dL_act_421 : decode cL_act 421 = .ok (.iconst 2, 1) := by decide +kernel
theorem dL_act_422 : decode cL_act 422 = .ok (.ishr, 1) := by decide +kernel
theorem dL_act_423 : decode cL_act 423 = .ok (.iconst 4, 1) := by decide +kernel
theorem dL_act_424 : decode cL_act 424 = .ok (.invokestatic 15, 3) := by decide +kernel
theorem dL_act_427 : decode cL_act 427 = .ok (.istore 8, 2) := by decide +kernel
theorem dL_act_429 : decode cL_act 429 = .ok (.aload_n 1, 1) := by decide +kernel
theorem dL_act_430 : decode cL_act 430 = .ok (.getfield 54, 3) := by decide +kernel
theorem dL_act_433 : decode cL_act 433 = .ok (.iload 4, 2) := by decide +kernel
theorem dL_act_435 : decode cL_act 435 = .ok (.aaload, 1) := by decide +kernel
theorem dL_act_436 : decode cL_act 436 = .ok (.iload 8, 2) := by decide +kernel
theorem dL_act_438 : decode cL_act 438 = .ok (.iaload, 1) := by decide +kernel
theorem dL_act_439 : decode cL_act 439 = .ok (.istore 9, 2) := by decide +kernel
theorem dL_act_441 : decode cL_act 441 = .ok (.aload_n 1, 1) := by decide +kernel
theorem dL_act_442 : decode cL_act 442 = .ok (.getfield 54, 3) := by decide +kernel
theorem dL_act_445 : decode cL_act 445 = .ok (.iload 4, 2) := by decide +kernel
theorem dL_act_447 : decode cL_act 447 = .ok (.aaload, 1) := by decide +kernel
theorem dL_act_448 : decode cL_act 448 = .ok (.iload 8, 2) := by decide +kernel
theorem dL_act_450 : decode cL_act 450 = .ok (.iload_n 2, 1) := by decide +kernel
theorem dL_act_451 : decode cL_act 451 = .ok (.iconst 4, 1) := by decide +kernel
theorem dL_act_452 : decode cL_act 452 = .ok (.ishr, 1) := by decide +kernel
theorem dL_act_453 : decode cL_act 453 = .ok (.iload_n 2, 1) := by decide +kernel
theorem dL_act_454 : decode cL_act 454 = .ok (.bipush 6, 2) := by decide +kernel
theorem dL_act_456 : decode cL_act 456 = .ok (.ishr, 1) := by decide +kernel
theorem dL_act_457 : decode cL_act 457 = .ok (.iconst 2, 1) := by decide +kernel
theorem dL_act_458 : decode cL_act 458 = .ok (.invokestatic 15, 3) := by decide +kernel
theorem dL_act_461 : decode cL_act 461 = .ok (.ifCond .ne 8, 3) := by decide +kernel
theorem dL_act_464 : decode cL_act 464 = .ok (.bipush 100, 2) := by decide +kernel
theorem dL_act_466 : decode cL_act 466 = .ok (.goto 5, 3) := by decide +kernel
theorem dL_act_469 : decode cL_act 469 = .ok (.bipush 6, 2) := by decide +kernel
theorem dL_act_471 : decode cL_act 471 = .ok (.invokestatic 15, 3) := by decide +kernel
theorem dL_act_474 : decode cL_act 474 = .ok (.iastore, 1) := by decide +kernel
theorem dL_act_475 : decode cL_act 475 = .ok (.aload_n 0, 1) := by decide +kernel
theorem dL_act_476 : decode cL_act 476 = .ok (.iload 4, 2) := by decide +kernel
theorem dL_act_478 : decode cL_act 478 = .ok (.iload 8, 2) := by decide +kernel
theorem dL_act_480 : decode cL_act 480 = .ok (.aload_n 1, 1) := by decide +kernel
theorem dL_act_481 : decode cL_act 481 = .ok (.getfield 54, 3) := by decide +kernel
theorem dL_act_484 : decode cL_act 484 = .ok (.iload 4, 2) := by decide +kernel
theorem dL_act_486 : decode cL_act 486 = .ok (.aaload, 1) := by decide +kernel
theorem dL_act_487 : decode cL_act 487 = .ok (.iload 8, 2) := by decide +kernel
theorem dL_act_489 : decode cL_act 489 = .ok (.iaload, 1) := by decide +kernel
theorem dL_act_490 : decode cL_act 490 = .ok (.invokevirtual 57, 3) := by decide +kernel
theorem dL_act_493 : decode cL_act 493 = .ok (.iload 9, 2) := by decide +kernel
theorem dL_act_495 : decode cL_act 495 = .ok (.if_icmp .ne 7, 3) := by decide +kernel
theorem dL_act_498 : decode cL_act 498 = .ok (.iconst 1, 1) := by decide +kernel
theorem dL_act_499 : decode cL_act 499 = .ok (.goto 4, 3) := by decide +kernel
theorem dL_act_502 : decode cL_act 502 = .ok (.iconst 0, 1) := by decide +kernel
theorem dL_act_503 : decode cL_act 503 = .ok (.ireturn, 1) := by decide +kernel
theorem dL_act_504 : decode cL_act 504 = .ok (.aload_n 1, 1) := by decide +kernel
theorem dL_act_505 : decode cL_act 505 = .ok (.getfield 61, 3) := by decide +kernel
theorem dL_act_508 : decode cL_act 508 = .ok (.iload 4, 2) := by decide +kernel
theorem dL_act_510 : decode cL_act 510 = .ok (.aaload, 1) := by decide +kernel
theorem dL_act_511 : decode cL_act 511 = .ok (.iconst 0, 1) := by decide +kernel
theorem dL_act_512 : decode cL_act 512 = .ok (.iaload, 1) := by decide +kernel
theorem dL_act_513 : decode cL_act 513 = .ok (.ifCond .ge 5, 3) := by decide +kernel
theorem dL_act_516 : decode cL_act 516 = .ok (.iconst 1, 1) := by decide +kernel
theorem dL_act_517 : decode cL_act 517 = .ok (.ireturn, 1) := by decide +kernel
theorem dL_act_518 : decode cL_act 518 = .ok (.aload_n 1, 1) := by decide +kernel
theorem dL_act_519 : decode cL_act 519 = .ok (.getfield 61, 3) := by decide +kernel
theorem dL_act_522 : decode cL_act 522 = .ok (.iload 4, 2) := by decide +kernel
theorem dL_act_524 : decode cL_act 524 = .ok (.aaload, 1) := by decide +kernel
theorem dL_act_525 : decode cL_act 525 = .ok (.iconst 0, 1) := by decide +kernel
theorem dL_act_526 : decode cL_act 526 = .ok (.iaload, 1) := by decide +kernel
theorem dL_act_527 : decode cL_act 527 = .ok (.istore 10, 2) := by decide +kernel
theorem dL_act_529 : decode cL_act 529 = .ok (.aload_n 1, 1) := by decide +kernel
theorem dL_act_530 : decode cL_act 530 = .ok (.getfield 61, 3) := by decide +kernel
theorem dL_act_533 : decode cL_act 533 = .ok (.iload 4, 2) := by decide +kernel
theorem dL_act_535 : decode cL_act 535 = .ok (.iconst 2, 1) := by decide +kernel
theorem dL_act_536 : decode cL_act 536 = .ok (.newarray .int, 2) := by decide +kernel
theorem dL_act_538 : decode cL_act 538 = .ok (.dup, 1) := by decide +kernel
theorem dL_act_539 : decode cL_act 539 = .ok (.iconst 0, 1) := by decide +kernel
theorem dL_act_540 : decode cL_act 540 = .ok (.iconst (-1), 1) := by decide +kernel
theorem dL_act_541 : decode cL_act 541 = .ok (.iastore, 1) := by decide +kernel
theorem dL_act_542 : decode cL_act 542 = .ok (.dup, 1) := by decide +kernel
theorem dL_act_543 : decode cL_act 543 = .ok (.iconst 1, 1) := by decide +kernel
theorem dL_act_544 : decode cL_act 544 = .ok (.iconst (-1), 1) := by decide +kernel
theorem dL_act_545 : decode cL_act 545 = .ok (.iastore, 1) := by decide +kernel
theorem dL_act_546 : decode cL_act 546 = .ok (.aastore, 1) := by decide +kernel
theorem dL_act_547 : decode cL_act 547 = .ok (.aload_n 0, 1) := by decide +kernel
theorem dL_act_548 : decode cL_act 548 = .ok (.iload 4, 2) := by decide +kernel
theorem dL_act_550 : decode cL_act 550 = .ok (.invokevirtual 64, 3) := by decide +kernel
theorem dL_act_553 : decode cL_act 553 = .ok (.iload 10, 2) := by decide +kernel
theorem dL_act_555 : decode cL_act 555 = .ok (.if_icmp .ne 7, 3) := by decide +kernel
theorem dL_act_558 : decode cL_act 558 = .ok (.iconst 1, 1) := by decide +kernel
theorem dL_act_559 : decode cL_act 559 = .ok (.goto 4, 3) := by decide +kernel
theorem dL_act_562 : decode cL_act 562 = .ok (.iconst 0, 1) := by decide +kernel
theorem dL_act_563 : decode cL_act 563 = .ok (.ireturn, 1) := by decide +kernel
theorem dL_act_564 : decode cL_act 564 = .ok (.iload_n 2, 1) := by decide +kernel
theorem dL_act_565 : decode cL_act 565 = .ok (.iconst 3, 1) := by decide +kernel
theorem dL_act_566 : decode cL_act 566 = .ok (.imul, 1) := by decide +kernel
theorem dL_act_567 : decode cL_act 567 = .ok (.sipush 9900, 3) := by decide +kernel
theorem dL_act_570 : decode cL_act 570 = .ok (.invokestatic 15, 3) := by decide +kernel
theorem dL_act_573 : decode cL_act 573 = .ok (.istore 11, 2) := by decide +kernel
theorem dL_act_575 : decode cL_act 575 = .ok (.iload 11, 2) := by decide +kernel
theorem dL_act_577 : decode cL_act 577 = .ok (.iload_n 2, 1) := by decide +kernel
theorem dL_act_578 : decode cL_act 578 = .ok (.iconst 2, 1) := by decide +kernel
theorem dL_act_579 : decode cL_act 579 = .ok (.ishr, 1) := by decide +kernel
theorem dL_act_580 : decode cL_act 580 = .ok (.iload_n 2, 1) := by decide +kernel
theorem dL_act_581 : decode cL_act 581 = .ok (.bipush 7, 2) := by decide +kernel
theorem dL_act_583 : decode cL_act 583 = .ok (.ishr, 1) := by decide +kernel
theorem dL_act_584 : decode cL_act 584 = .ok (.iconst 2, 1) := by decide +kernel
theorem dL_act_585 : decode cL_act 585 = .ok (.invokestatic 15, 3) := by decide +kernel
theorem dL_act_588 : decode cL_act 588 = .ok (.ifCond .ne 8, 3) := by decide +kernel
theorem dL_act_591 : decode cL_act 591 = .ok (.bipush 100, 2) := by decide +kernel
theorem dL_act_593 : decode cL_act 593 = .ok (.goto 6, 3) := by decide +kernel
theorem dL_act_596 : decode cL_act 596 = .ok (.sipush 3000, 3) := by decide +kernel
theorem dL_act_599 : decode cL_act 599 = .ok (.invokestatic 15, 3) := by decide +kernel
theorem dL_act_602 : decode cL_act 602 = .ok (.iadd, 1) := by decide +kernel
theorem dL_act_603 : decode cL_act 603 = .ok (.istore 12, 2) := by decide +kernel
theorem dL_act_605 : decode cL_act 605 = .ok (.iload 12, 2) := by decide +kernel
theorem dL_act_607 : decode cL_act 607 = .ok (.sipush 9999, 3) := by decide +kernel
theorem dL_act_610 : decode cL_act 610 = .ok (.if_icmp .le 8, 3) := by decide +kernel
theorem dL_act_613 : decode cL_act 613 = .ok (.sipush 9999, 3) := by decide +kernel
theorem dL_act_616 : decode cL_act 616 = .ok (.istore 12, 2) := by decide +kernel
theorem dL_act_618 : decode cL_act 618 = .ok (.aload_n 1, 1) := by decide +kernel
theorem dL_act_619 : decode cL_act 619 = .ok (.getfield 61, 3) := by decide +kernel
theorem dL_act_622 : decode cL_act 622 = .ok (.iload 4, 2) := by decide +kernel
theorem dL_act_624 : decode cL_act 624 = .ok (.iconst 2, 1) := by decide +kernel
theorem dL_act_625 : decode cL_act 625 = .ok (.newarray .int, 2) := by decide +kernel
theorem dL_act_627 : decode cL_act 627 = .ok (.dup, 1) := by decide +kernel
theorem dL_act_628 : decode cL_act 628 = .ok (.iconst 0, 1) := by decide +kernel
theorem dL_act_629 : decode cL_act 629 = .ok (.iload 11, 2) := by decide +kernel
theorem dL_act_631 : decode cL_act 631 = .ok (.iastore, 1) := by decide +kernel
theorem dL_act_632 : decode cL_act 632 = .ok (.dup, 1) := by decide +kernel
theorem dL_act_633 : decode cL_act 633 = .ok (.iconst 1, 1) := by decide +kernel
theorem dL_act_634 : decode cL_act 634 = .ok (.iload 12, 2) := by decide +kernel
theorem dL_act_636 : decode cL_act 636 = .ok (.iastore, 1) := by decide +kernel
theorem dL_act_637 : decode cL_act 637 = .ok (.aastore, 1) := by decide +kernel
theorem dL_act_638 : decode cL_act 638 = .ok (.aload_n 0, 1) := by decide +kernel
theorem dL_act_639 : decode cL_act 639 = .ok (.iload 4, 2) := by decide +kernel
theorem dL_act_641 : decode cL_act 641 = .ok (.iload 11, 2) := by decide +kernel
theorem dL_act_643 : decode cL_act 643 = .ok (.iload 12, 2) := by decide +kernel
theorem dL_act_645 : decode cL_act 645 = .ok (.invokevirtual 68, 3) := by decide +kernel
theorem dL_act_648 : decode cL_act 648 = .ok (.aload_n 1, 1) := by decide +kernel
theorem dL_act_649 : decode cL_act 649 = .ok (.iload 4, 2) := by decide +kernel
theorem dL_act_651 : decode cL_act 651 = .ok (.invokevirtual 71, 3) := by decide +kernel
theorem dL_act_654 : decode cL_act 654 = .ok (.if_icmp .ne 7, 3) := by decide +kernel
theorem dL_act_657 : decode cL_act 657 = .ok (.iconst 1, 1) := by decide +kernel
theorem dL_act_658 : decode cL_act 658 = .ok (.goto 4, 3) := by decide +kernel
theorem dL_act_661 : decode cL_act 661 = .ok (.iconst 0, 1) := by decide +kernel
theorem dL_act_662 : decode cL_act 662 = .ok (.ireturn, 1) := by decide +kernel

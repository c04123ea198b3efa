set_option maxRecDepth 20000 in
theorem ggX4_isSame_X4_reckon : GoodIn wsX4_isSame wsX4_reckon := goodIn_r _ [16, 1, 17, 2, 5, 3, 18, 19, 216, 217, 218, 219, 220, 221, 222] (by decide +kernel) (by decide +kernel)
set_option maxRecDepth 20000 in
theorem gX4_isSame_X4_reckon : GoodIn wsX4_isSame (wsV RX4 44 RX4 yX4_reckon wsX4_reckon) := goodIn_app (goodIn_of _ (by decide +kernel)) ggX4_isSame_X4_reckon
set_option maxRecDepth 20000 in
theorem ggX4_isSame_X3_order : GoodIn wsX4_isSame wsX3_order := goodIn_ca (goodIn_r _ [24, 25, 26, 27, 28, 29, 30, 31, 32, 33, 23, 34, 35, 36, 37, 38, 39, 40, 41, 223, 224, 225, 226, 227, 228, 229, 230, 231, 232] (by decide +kernel) (by decide +kernel)) (goodIn_sub (fun _ h => List.mem_cons_of_mem _ (List.mem_append_right _ h)) (by decide +kernel))
set_option maxRecDepth 20000 in
theorem gX4_isSame_X3_order : GoodIn wsX4_isSame (wsV RX4 48 RX3 yX3_order wsX3_order) := goodIn_app (goodIn_of _ (by decide +kernel)) ggX4_isSame_X3_order
set_option maxRecDepth 20000 in
theorem ggX4_isSame_X3_later : GoodIn wsX4_isSame wsX3_later := goodIn_ca (goodIn_r _ [45, 25, 46, 47, 48, 23, 49, 26, 27, 28, 29, 30, 31, 32, 33, 34, 35, 36, 50, 51, 52, 53, 54, 55, 56, 223, 224, 225, 226, 227, 228, 229, 230, 231, 232] (by decide +kernel) (by decide +kernel)) (goodIn_sub (fun _ h => List.mem_cons_of_mem _ (List.mem_append_right _ h)) (by decide +kernel))
set_option maxRecDepth 20000 in
theorem gX4_isSame_X3_later : GoodIn wsX4_isSame (wsV RX4 53 RX3 yX3_later wsX3_later) := goodIn_app (goodIn_of _ (by decide +kernel)) ggX4_isSame_X3_later
set_option maxRecDepth 20000 in
theorem ggX4_isSame_X3_between : GoodIn wsX4_isSame wsX3_between := goodIn_ca (goodIn_r _ [60, 25, 46, 47, 48, 23, 49, 26, 27, 28, 29, 30, 31, 32, 33, 34, 35, 36, 50, 51, 52, 53, 54, 55, 56, 61, 62, 63, 64, 65, 66, 67, 68, 69, 70, 71, 72, 73, 74, 75, 76, 223, 224, 225, 226, 227, 228, 229, 230, 231, 232] (by decide +kernel) (by decide +kernel)) (goodIn_sub (fun _ h => List.mem_cons_of_mem _ (List.mem_append_right _ h)) (by decide +kernel))
set_option maxRecDepth 20000 in
theorem gX4_isSame_X3_between : GoodIn wsX4_isSame (wsV RX4 56 RX3 yX3_between wsX3_between) := goodIn_app (goodIn_of _ (by decide +kernel)) ggX4_isSame_X3_between
set_option maxRecDepth 20000 in
theorem ggX4_isSame_X4_phase : GoodIn wsX4_isSame wsX4_phase := goodIn_r _ [80, 1, 2, 3, 216, 217, 218, 219, 220, 221, 222] (by decide +kernel) (by decide +kernel)
set_option maxRecDepth 20000 in
theorem gX4_isSame_X4_phase : GoodIn wsX4_isSame (wsV RX4 60 RX4 yX4_phase wsX4_phase) := goodIn_app (goodIn_of _ (by decide +kernel)) ggX4_isSame_X4_phase
set_option maxRecDepth 20000 in
theorem ggX4_isSame_X4_from : GoodIn wsX4_isSame wsX4_from := goodIn_r _ [84, 1, 5, 3, 7, 216, 217, 218, 219, 220, 221, 222] (by decide +kernel) (by decide +kernel)
set_option maxRecDepth 20000 in
theorem gX4_isSame_X4_from : GoodIn wsX4_isSame (wsV RX4 37 RX4 yX4_from wsX4_from) := goodIn_app (goodIn_of _ (by decide +kernel)) ggX4_isSame_X4_from
set_option maxRecDepth 20000 in
theorem ggX4_isSame_X4_to : GoodIn wsX4_isSame wsX4_to := goodIn_r _ [88, 1, 5, 3, 7, 216, 217, 218, 219, 220, 221, 222] (by decide +kernel) (by decide +kernel)
set_option maxRecDepth 20000 in
theorem gX4_isSame_X4_to : GoodIn wsX4_isSame (wsV RX4 41 RX4 yX4_to wsX4_to) := goodIn_app (goodIn_of _ (by decide +kernel)) ggX4_isSame_X4_to
set_option maxRecDepth 20000 in
theorem ggX4_isSame_X4_season : GoodIn wsX4_isSame wsX4_season := goodIn_r _ [92, 4] (by decide +kernel) (by decide +kernel)
set_option maxRecDepth 20000 in
theorem gX4_isSame_X4_season : GoodIn wsX4_isSame (wsV RX4 63 RX4 yX4_season wsX4_season) := goodIn_app (goodIn_of _ (by decide +kernel)) ggX4_isSame_X4_season
set_option maxRecDepth 20000 in
theorem ggX4_isSame_X3_told : GoodIn wsX4_isSame wsX3_told := goodIn_ca (goodIn_r _ [96, 46, 47, 48, 23, 49, 25, 26, 27, 28, 29, 30, 31, 32, 33, 34, 35, 36, 97, 98, 99, 100, 101, 102, 103, 104, 105, 106, 107, 108, 109, 110, 61, 62, 63, 64, 54, 111, 112, 113, 114, 115, 116, 117, 9, 10, 11, 55, 56, 118, 119, 120, 121, 65, 66, 67, 68, 69, 122, 123, 124, 125, 126, 127, 128, 129, 130, 131, 132, 133, 134, 135, 136, 137, 138, 70, 71, 72, 73, 74, 75, 76, 139, 140, 141, 142, 143, 144, 145, 146, 147, 148, 149, 150, 151, 152, 153, 154, 155, 156, 157, 158, 159, 160, 161, 223, 224, 225, 226, 227, 228, 229, 230, 231, 232, 233, 234, 235, 236] (by decide +kernel) (by decide +kernel)) (goodIn_sub (fun _ h => List.mem_cons_of_mem _ (List.mem_append_right _ h)) (by decide +kernel))
set_option maxRecDepth 20000 in
theorem gX4_isSame_X3_told : GoodIn wsX4_isSame (wsV RX4 67 RX3 yX3_told wsX3_told) := goodIn_app (goodIn_of _ (by decide +kernel)) ggX4_isSame_X3_told
set_option maxRecDepth 20000 in
theorem ggX4_isSame_X3_finds : GoodIn wsX4_isSame wsX3_finds := goodIn_ca (goodIn_r _ [165, 46, 47, 48, 23, 49, 25, 26, 27, 28, 29, 30, 31, 32, 33, 34, 35, 36, 166, 167, 168, 143, 144, 145, 146, 147, 106, 107, 108, 109, 110, 148, 149, 150, 151, 152, 153, 55, 56, 223, 224, 225, 226, 227, 228, 229, 230, 231, 232, 236] (by decide +kernel) (by decide +kernel)) (goodIn_sub (fun _ h => List.mem_cons_of_mem _ (List.mem_append_right _ h)) (by decide +kernel))
set_option maxRecDepth 20000 in
theorem gX4_isSame_X3_finds : GoodIn wsX4_isSame (wsV RX4 70 RX3 yX3_finds wsX3_finds) := goodIn_app (goodIn_of _ (by decide +kernel)) ggX4_isSame_X3_finds
set_option maxRecDepth 20000 in
theorem ggX4_isSame_X4_doubtful : GoodIn wsX4_isSame wsX4_doubtful := goodIn_r _ [172, 1, 81, 82, 83, 15, 84, 5, 3, 7, 85, 86, 87, 88, 216, 217, 218, 219, 220, 221, 222] (by decide +kernel) (by decide +kernel)
set_option maxRecDepth 20000 in
theorem gX4_isSame_X4_doubtful : GoodIn wsX4_isSame (wsV RX4 77 RX4 yX4_doubtful wsX4_doubtful) := goodIn_app (goodIn_of _ (by decide +kernel)) ggX4_isSame_X4_doubtful
set_option maxRecDepth 20000 in
theorem ggX4_isSame_X4_pairs : GoodIn wsX4_isSame wsX4_pairs := goodIn_r _ [176, 3, 216, 217, 218, 219, 220, 221, 222] (by decide +kernel) (by decide +kernel)
set_option maxRecDepth 20000 in
theorem gX4_isSame_X4_pairs : GoodIn wsX4_isSame (wsV RX4 81 RX4 yX4_pairs wsX4_pairs) := goodIn_app (goodIn_of _ (by decide +kernel)) ggX4_isSame_X4_pairs
set_option maxRecDepth 20000 in
theorem ggX4_isSame_X3_count : GoodIn wsX4_isSame wsX3_count := goodIn_ca (goodIn_r _ [180, 32, 33, 23, 34, 35, 36, 181, 182, 183, 184, 25, 101, 147, 26, 27, 28, 29, 30, 31, 185, 186, 187, 188, 138, 189, 9, 10, 11, 190, 191, 192, 193, 130, 131, 132, 133, 102, 103, 104, 105, 106, 107, 108, 109, 110, 61, 62, 63, 64, 54, 111, 112, 113, 114, 115, 116, 117, 55, 56, 118, 119, 120, 121, 65, 66, 67, 68, 69, 122, 123, 124, 125, 126, 127, 128, 129, 194, 195, 196, 197, 161, 198, 71, 72, 73, 74, 75, 76, 199, 200, 201, 202, 203, 204, 205, 206, 207, 208, 209, 210, 151, 211, 153, 223, 224, 225, 226, 227, 228, 229, 230, 231, 232, 233, 234, 235, 236] (by decide +kernel) (by decide +kernel)) (goodIn_sub (fun _ h => List.mem_cons_of_mem _ (List.mem_append_right _ h)) (by decide +kernel))
set_option maxRecDepth 20000 in
theorem gX4_isSame_X3_count : GoodIn wsX4_isSame (wsV RX4 84 RX3 yX3_count wsX3_count) := goodIn_app (goodIn_of _ (by decide +kernel)) ggX4_isSame_X3_count
set_option maxRecDepth 20000 in
theorem ggX4_isSame_X3_mean : GoodIn wsX4_isSame wsX3_mean := goodIn_r _ [215, 25, 26, 27, 28, 29, 30, 31, 134, 135, 136, 137, 138, 223, 224, 225, 226, 227, 228, 229, 230, 231, 232] (by decide +kernel) (by decide +kernel)
set_option maxRecDepth 20000 in
theorem gX4_isSame_X3_mean : GoodIn wsX4_isSame (wsV RX4 87 RX3 yX3_mean wsX3_mean) := goodIn_app (goodIn_of _ (by decide +kernel)) ggX4_isSame_X3_mean
theorem dX4_isSame_0 : decode cX4_isSame 0 = .ok (.aload_n 0, 1) := by decide +kernel
theorem dX4_isSame_1 : decode cX4_isSame 1 = .ok (.invokevirtual 44, 3) := by decide +kernel
theorem dX4_isSame_4 : decode cX4_isSame 4 = .ok (.pop, 1) := by decide +kernel
theorem dX4_isSame_5 : decode cX4_isSame 5 = .ok (.iconst 0, 1) := by decide +kernel
theorem dX4_isSame_6 : decode cX4_isSame 6 = .ok (.istore_n 2, 1) := by decide +kernel
theorem dX4_isSame_7 : decode cX4_isSame 7 = .ok (.iconst 0, 1) := by decide +kernel
theorem dX4_isSame_8 : decode cX4_isSame 8 = .ok (.istore_n 3, 1) := by decide +kernel
theorem dX4_isSame_9 : decode cX4_isSame 9 = .ok (.iconst 0, 1) := by decide +kernel
theorem dX4_isSame_10 : decode cX4_isSame 10 = .ok (.istore 4, 2) := by decide +kernel
theorem dX4_isSame_12 : decode cX4_isSame 12 = .ok (.iconst 0, 1) := by decide +kernel
theorem dX4_isSame_13 : decode cX4_isSame 13 = .ok (.istore 5, 2) := by decide +kernel
theorem dX4_isSame_15 : decode cX4_isSame 15 = .ok (.iconst 0, 1) := by decide +kernel
theorem dX4_isSame_16 : decode cX4_isSame 16 = .ok (.istore 6, 2) := by decide +kernel
theorem dX4_isSame_18 : decode cX4_isSame 18 = .ok (.aload_n 0, 1) := by decide +kernel
theorem dX4_isSame_19 : decode cX4_isSame 19 = .ok (.getfield 25, 3) := by decide +kernel
theorem dX4_isSame_22 : decode cX4_isSame 22 = .ok (.newarray .boolean, 2) := by decide +kernel
theorem dX4_isSame_24 : decode cX4_isSame 24 = .ok (.astore 7, 2) := by decide +kernel
theorem dX4_isSame_26 : decode cX4_isSame 26 = .ok (.iconst 0, 1) := by decide +kernel
theorem dX4_isSame_27 : decode cX4_isSame 27 = .ok (.istore 8, 2) := by decide +kernel
theorem dX4_isSame_29 : decode cX4_isSame 29 = .ok (.iload 8, 2) := by decide +kernel
theorem dX4_isSame_31 : decode cX4_isSame 31 = .ok (.aload_n 0, 1) := by decide +kernel
theorem dX4_isSame_32 : decode cX4_isSame 32 = .ok (.getfield 25, 3) := by decide +kernel
theorem dX4_isSame_35 : decode cX4_isSame 35 = .ok (.if_icmp .ge 125, 3) := by decide +kernel
theorem dX4_isSame_38 : decode cX4_isSame 38 = .ok (.iconst (-1), 1) := by decide +kernel
theorem dX4_isSame_39 : decode cX4_isSame 39 = .ok (.istore 9, 2) := by decide +kernel
theorem dX4_isSame_41 : decode cX4_isSame 41 = .ok (.aload_n 0, 1) := by decide +kernel
theorem dX4_isSame_42 : decode cX4_isSame 42 = .ok (.getfield 25, 3) := by decide +kernel
theorem dX4_isSame_45 : decode cX4_isSame 45 = .ok (.iconst 1, 1) := by decide +kernel
theorem dX4_isSame_46 : decode cX4_isSame 46 = .ok (.isub, 1) := by decide +kernel
theorem dX4_isSame_47 : decode cX4_isSame 47 = .ok (.istore 10, 2) := by decide +kernel
theorem dX4_isSame_49 : decode cX4_isSame 49 = .ok (.iload 10, 2) := by decide +kernel
theorem dX4_isSame_51 : decode cX4_isSame 51 = .ok (.ifCond .lt 84, 3) := by decide +kernel
theorem dX4_isSame_54 : decode cX4_isSame 54 = .ok (.aload 7, 2) := by decide +kernel
theorem dX4_isSame_56 : decode cX4_isSame 56 = .ok (.iload 10, 2) := by decide +kernel
theorem dX4_isSame_58 : decode cX4_isSame 58 = .ok (.baload, 1) := by decide +kernel
theorem dX4_isSame_59 : decode cX4_isSame 59 = .ok (.ifCond .ne 7, 3) := by decide +kernel
theorem dX4_isSame_62 : decode cX4_isSame 62 = .ok (.iconst 1, 1) := by decide +kernel
theorem dX4_isSame_63 : decode cX4_isSame 63 = .ok (.goto 4, 3) := by decide +kernel
theorem dX4_isSame_66 : decode cX4_isSame 66 = .ok (.iconst 0, 1) := by decide +kernel
theorem dX4_isSame_67 : decode cX4_isSame 67 = .ok (.istore 11, 2) := by decide +kernel
theorem dX4_isSame_69 : decode cX4_isSame 69 = .ok (.iconst 0, 1) := by decide +kernel
theorem dX4_isSame_70 : decode cX4_isSame 70 = .ok (.istore 12, 2) := by decide +kernel
theorem dX4_isSame_72 : decode cX4_isSame 72 = .ok (.iload 12, 2) := by decide +kernel
theorem dX4_isSame_74 : decode cX4_isSame 74 = .ok (.aload_n 0, 1) := by decide +kernel
theorem dX4_isSame_75 : decode cX4_isSame 75 = .ok (.getfield 25, 3) := by decide +kernel
theorem dX4_isSame_78 : decode cX4_isSame 78 = .ok (.if_icmp .ge 42, 3) := by decide +kernel
theorem dX4_isSame_81 : decode cX4_isSame 81 = .ok (.iload 11, 2) := by decide +kernel
theorem dX4_isSame_83 : decode cX4_isSame 83 = .ok (.ifCond .eq 28, 3) := by decide +kernel
theorem dX4_isSame_86 : decode cX4_isSame 86 = .ok (.aload 7, 2) := by decide +kernel
theorem dX4_isSame_88 : decode cX4_isSame 88 = .ok (.iload 12, 2) := by decide +kernel
theorem dX4_isSame_90 : decode cX4_isSame 90 = .ok (.baload, 1) := by decide +kernel
theorem dX4_isSame_91 : decode cX4_isSame 91 = .ok (.ifCond .ne 16, 3) := by decide +kernel
theorem dX4_isSame_94 : decode cX4_isSame 94 = .ok (.aload_n 0, 1) := by decide +kernel
theorem dX4_isSame_95 : decode cX4_isSame 95 = .ok (.getfield 34, 3) := by decide +kernel
theorem dX4_isSame_98 : decode cX4_isSame 98 = .ok (.iload 10, 2) := by decide +kernel
theorem dX4_isSame_100 : decode cX4_isSame 100 = .ok (.aaload, 1) := by decide +kernel
theorem dX4_isSame_101 : decode cX4_isSame 101 = .ok (.iload 12, 2) := by decide +kernel
theorem dX4_isSame_103 : decode cX4_isSame 103 = .ok (.baload, 1) := by decide +kernel
theorem dX4_isSame_104 : decode cX4_isSame 104 = .ok (.ifCond .ne 7, 3) := by decide +kernel
theorem dX4_isSame_107 : decode cX4_isSame 107 = .ok (.iconst 1, 1) := by decide +kernel
theorem dX4_isSame_108 : decode cX4_isSame 108 = .ok (.goto 4, 3) := by decide +kernel
theorem dX4_isSame_111 : decode cX4_isSame 111 = .ok (.iconst 0, 1) := by decide +kernel
theorem dX4_isSame_112 : decode cX4_isSame 112 = .ok (.istore 11, 2) := by decide +kernel
theorem dX4_isSame_114 : decode cX4_isSame 114 = .ok (.iinc 12 1, 3) := by decide +kernel
theorem dX4_isSame_117 : decode cX4_isSame 117 = .ok (.goto (-45), 3) := by decide +kernel
theorem dX4_isSame_120 : decode cX4_isSame 120 = .ok (.iload 11, 2) := by decide +kernel
theorem dX4_isSame_122 : decode cX4_isSame 122 = .ok (.ifCond .eq 7, 3) := by decide +kernel
theorem dX4_isSame_125 : decode cX4_isSame 125 = .ok (.iload 10, 2) := by decide +kernel
theorem dX4_isSame_127 : decode cX4_isSame 127 = .ok (.istore 9, 2) := by decide +kernel
theorem dX4_isSame_129 : decode cX4_isSame 129 = .ok (.iinc 10 (-1), 3) := by decide +kernel
theorem dX4_isSame_132 : decode cX4_isSame 132 = .ok (.goto (-83), 3) := by decide +kernel
theorem dX4_isSame_135 : decode cX4_isSame 135 = .ok (.aload 7, 2) := by decide +kernel
theorem dX4_isSame_137 : decode cX4_isSame 137 = .ok (.iload 9, 2) := by decide +kernel
theorem dX4_isSame_139 : decode cX4_isSame 139 = .ok (.iconst 1, 1) := by decide +kernel
theorem dX4_isSame_140 : decode cX4_isSame 140 = .ok (.bastore, 1) := by decide +kernel
theorem dX4_isSame_141 : decode cX4_isSame 141 = .ok (.aload_n 1, 1) := by decide +kernel
theorem dX4_isSame_142 : decode cX4_isSame 142 = .ok (.iload 8, 2) := by decide +kernel
theorem dX4_isSame_144 : decode cX4_isSame 144 = .ok (.invokevirtual 48, 3) := by decide +kernel
theorem dX4_isSame_147 : decode cX4_isSame 147 = .ok (.iload 9, 2) := by decide +kernel
theorem dX4_isSame_149 : decode cX4_isSame 149 = .ok (.if_icmp .eq 5, 3) := by decide +kernel
theorem dX4_isSame_152 : decode cX4_isSame 152 = .ok (.iconst 0, 1) := by decide +kernel
theorem dX4_isSame_153 : decode cX4_isSame 153 = .ok (.ireturn, 1) := by decide +kernel
theorem dX4_isSame_154 : decode cX4_isSame 154 = .ok (.iinc 8 1, 3) := by decide +kernel
theorem dX4_isSame_157 : decode cX4_isSame 157 = .ok (.goto (-128), 3) := by decide +kernel
theorem dX4_isSame_160 : decode cX4_isSame 160 = .ok (.iconst 0, 1) := by decide +kernel
theorem dX4_isSame_161 : decode cX4_isSame 161 = .ok (.istore 8, 2) := by decide +kernel
theorem dX4_isSame_163 : decode cX4_isSame 163 = .ok (.iload 8, 2) := by decide +kernel
theorem dX4_isSame_165 : decode cX4_isSame 165 = .ok (.aload_n 0, 1) := by decide +kernel
theorem dX4_isSame_166 : decode cX4_isSame 166 = .ok (.getfield 25, 3) := by decide +kernel
theorem dX4_isSame_169 : decode cX4_isSame 169 = .ok (.if_icmp .ge 572, 3) := by decide +kernel
theorem dX4_isSame_172 : decode cX4_isSame 172 = .ok (.iconst 0, 1) := by decide +kernel
theorem dX4_isSame_173 : decode cX4_isSame 173 = .ok (.istore 9, 2) := by decide +kernel
theorem dX4_isSame_175 : decode cX4_isSame 175 = .ok (.iconst 0, 1) := by decide +kernel
theorem dX4_isSame_176 : decode cX4_isSame 176 = .ok (.istore 10, 2) := by decide +kernel
theorem dX4_isSame_178 : decode cX4_isSame 178 = .ok (.iconst 0, 1) := by decide +kernel
theorem dX4_isSame_179 : decode cX4_isSame 179 = .ok (.istore 11, 2) := by decide +kernel
theorem dX4_isSame_181 : decode cX4_isSame 181 = .ok (.iconst 1, 1) := by decide +kernel
theorem dX4_isSame_182 : decode cX4_isSame 182 = .ok (.istore 12, 2) := by decide +kernel
theorem dX4_isSame_184 : decode cX4_isSame 184 = .ok (.iconst 4, 1) := by decide +kernel
theorem dX4_isSame_185 : decode cX4_isSame 185 = .ok (.newarray .int, 2) := by decide +kernel
theorem dX4_isSame_187 : decode cX4_isSame 187 = .ok (.astore 13, 2) := by decide +kernel
theorem dX4_isSame_189 : decode cX4_isSame 189 = .ok (.iconst 0, 1) := by decide +kernel
theorem dX4_isSame_190 : decode cX4_isSame 190 = .ok (.istore 14, 2) := by decide +kernel
theorem dX4_isSame_192 : decode cX4_isSame 192 = .ok (.iload 14, 2) := by decide +kernel
theorem dX4_isSame_194 : decode cX4_isSame 194 = .ok (.aload_n 0, 1) := by decide +kernel
theorem dX4_isSame_195 : decode cX4_isSame 195 = .ok (.getfield 25, 3) := by decide +kernel
theorem dX4_isSame_198 : decode cX4_isSame 198 = .ok (.if_icmp .ge 309, 3) := by decide +kernel
theorem dX4_isSame_201 : decode cX4_isSame 201 = .ok (.iload 9, 2) := by decide +kernel
theorem dX4_isSame_203 : decode cX4_isSame 203 = .ok (.aload_n 0, 1) := by decide +kernel
theorem dX4_isSame_204 : decode cX4_isSame 204 = .ok (.getfield 34, 3) := by decide +kernel
theorem dX4_isSame_207 : decode cX4_isSame 207 = .ok (.iload 8, 2) := by decide +kernel
theorem dX4_isSame_209 : decode cX4_isSame 209 = .ok (.aaload, 1) := by decide +kernel
theorem dX4_isSame_210 : decode cX4_isSame 210 = .ok (.iload 14, 2) := by decide +kernel
theorem dX4_isSame_212 : decode cX4_isSame 212 = .ok (.baload, 1) := by decide +kernel
theorem dX4_isSame_213 : decode cX4_isSame 213 = .ok (.ifCond .eq 7, 3) := by decide +kernel
theorem dX4_isSame_216 : decode cX4_isSame 216 = .ok (.iconst 1, 1) := by decide +kernel
theorem dX4_isSame_217 : decode cX4_isSame 217 = .ok (.goto 4, 3) := by decide +kernel
theorem dX4_isSame_220 : decode cX4_isSame 220 = .ok (.iconst 0, 1) := by decide +kernel
theorem dX4_isSame_221 : decode cX4_isSame 221 = .ok (.iadd, 1) := by decide +kernel
theorem dX4_isSame_222 : decode cX4_isSame 222 = .ok (.istore 9, 2) := by decide +kernel
theorem dX4_isSame_224 : decode cX4_isSame 224 = .ok (.iload 10, 2) := by decide +kernel
theorem dX4_isSame_226 : decode cX4_isSame 226 = .ok (.aload_n 0, 1) := by decide +kernel
theorem dX4_isSame_227 : decode cX4_isSame 227 = .ok (.getfield 34, 3) := by decide +kernel
theorem dX4_isSame_230 : decode cX4_isSame 230 = .ok (.iload 14, 2) := by decide +kernel
theorem dX4_isSame_232 : decode cX4_isSame 232 = .ok (.aaload, 1) := by decide +kernel
theorem dX4_isSame_233 : decode cX4_isSame 233 = .ok (.iload 8, 2) := by decide +kernel
theorem dX4_isSame_235 : decode cX4_isSame 235 = .ok (.baload, 1) := by decide +kernel
theorem dX4_isSame_236 : decode cX4_isSame 236 = .ok (.ifCond .eq 7, 3) := by decide +kernel
theorem dX4_isSame_239 : decode cX4_isSame 239 = .ok (.iconst 1, 1) := by decide +kernel
theorem dX4_isSame_240 : decode cX4_isSame 240 = .ok (.goto 4, 3) := by decide +kernel
theorem dX4_isSame_243 : decode cX4_isSame 243 = .ok (.iconst 0, 1) := by decide +kernel
theorem dX4_isSame_244 : decode cX4_isSame 244 = .ok (.iadd, 1) := by decide +kernel
theorem dX4_isSame_245 : decode cX4_isSame 245 = .ok (.istore 10, 2) := by decide +kernel
theorem dX4_isSame_247 : decode cX4_isSame 247 = .ok (.iload 11, 2) := by decide +kernel
theorem dX4_isSame_249 : decode cX4_isSame 249 = .ok (.aload_n 0, 1) := by decide +kernel
theorem dX4_isSame_250 : decode cX4_isSame 250 = .ok (.getfield 31, 3) := by decide +kernel
theorem dX4_isSame_253 : decode cX4_isSame 253 = .ok (.iload 8, 2) := by decide +kernel
theorem dX4_isSame_255 : decode cX4_isSame 255 = .ok (.aaload, 1) := by decide +kernel
theorem dX4_isSame_256 : decode cX4_isSame 256 = .ok (.iload 14, 2) := by decide +kernel
theorem dX4_isSame_258 : decode cX4_isSame 258 = .ok (.baload, 1) := by decide +kernel
theorem dX4_isSame_259 : decode cX4_isSame 259 = .ok (.ifCond .eq 7, 3) := by decide +kernel
theorem dX4_isSame_262 : decode cX4_isSame 262 = .ok (.iconst 1, 1) := by decide +kernel
theorem dX4_isSame_263 : decode cX4_isSame 263 = .ok (.goto 4, 3) := by decide +kernel
theorem dX4_isSame_266 : decode cX4_isSame 266 = .ok (.iconst 0, 1) := by decide +kernel
theorem dX4_isSame_267 : decode cX4_isSame 267 = .ok (.iadd, 1) := by decide +kernel
theorem dX4_isSame_268 : decode cX4_isSame 268 = .ok (.istore 11, 2) := by decide +kernel
theorem dX4_isSame_270 : decode cX4_isSame 270 = .ok (.iload 12, 2) := by decide +kernel
theorem dX4_isSame_272 : decode cX4_isSame 272 = .ok (.ifCond .eq 27, 3) := by decide +kernel
theorem dX4_isSame_275 : decode cX4_isSame 275 = .ok (.iload 14, 2) := by decide +kernel
theorem dX4_isSame_277 : decode cX4_isSame 277 = .ok (.iload 8, 2) := by decide +kernel
theorem dX4_isSame_279 : decode cX4_isSame 279 = .ok (.if_icmp .ge 16, 3) := by decide +kernel
theorem dX4_isSame_282 : decode cX4_isSame 282 = .ok (.aload_n 0, 1) := by decide +kernel
theorem dX4_isSame_283 : decode cX4_isSame 283 = .ok (.getfield 31, 3) := by decide +kernel
theorem dX4_isSame_286 : decode cX4_isSame 286 = .ok (.iload 8, 2) := by decide +kernel
theorem dX4_isSame_288 : decode cX4_isSame 288 = .ok (.aaload, 1) := by decide +kernel
theorem dX4_isSame_289 : decode cX4_isSame 289 = .ok (.iload 14, 2) := by decide +kernel
theorem dX4_isSame_291 : decode cX4_isSame 291 = .ok (.baload, 1) := by decide +kernel
theorem dX4_isSame_292 : decode cX4_isSame 292 = .ok (.ifCond .ne 7, 3) := by decide +kernel
theorem dX4_isSame_295 : decode cX4_isSame 295 = .ok (.iconst 1, 1) := by decide +kernel
theorem dX4_isSame_296 : decode cX4_isSame 296 = .ok (.goto 4, 3) := by decide +kernel
theorem dX4_isSame_299 : decode cX4_isSame 299 = .ok (.iconst 0, 1) := by decide +kernel
theorem dX4_isSame_300 : decode cX4_isSame 300 = .ok (.istore 12, 2) := by decide +kernel
theorem dX4_isSame_302 : decode cX4_isSame 302 = .ok (.iconst 0, 1) := by decide +kernel
theorem dX4_isSame_303 : decode cX4_isSame 303 = .ok (.istore 15, 2) := by decide +kernel
theorem dX4_isSame_305 : decode cX4_isSame 305 = .ok (.iload 15, 2) := by decide +kernel
theorem dX4_isSame_307 : decode cX4_isSame 307 = .ok (.iconst 4, 1) := by decide +kernel
theorem dX4_isSame_308 : decode cX4_isSame 308 = .ok (.if_icmp .ge 44, 3) := by decide +kernel
theorem dX4_isSame_311 : decode cX4_isSame 311 = .ok (.aload 13, 2) := by decide +kernel
theorem dX4_isSame_313 : decode cX4_isSame 313 = .ok (.iload 15, 2) := by decide +kernel
theorem dX4_isSame_315 : decode cX4_isSame 315 = .ok (.dup2, 1) := by decide +kernel
theorem dX4_isSame_316 : decode cX4_isSame 316 = .ok (.iaload, 1) := by decide +kernel
theorem dX4_isSame_317 : decode cX4_isSame 317 = .ok (.aload_n 0, 1) := by decide +kernel
theorem dX4_isSame_318 : decode cX4_isSame 318 = .ok (.getfield 31, 3) := by decide +kernel
theorem dX4_isSame_321 : decode cX4_isSame 321 = .ok (.iload 8, 2) := by decide +kernel
theorem dX4_isSame_323 : decode cX4_isSame 323 = .ok (.aaload, 1) := by decide +kernel
theorem dX4_isSame_324 : decode cX4_isSame 324 = .ok (.iload 14, 2) := by decide +kernel
theorem dX4_isSame_326 : decode cX4_isSame 326 = .ok (.baload, 1) := by decide +kernel
theorem dX4_isSame_327 : decode cX4_isSame 327 = .ok (.ifCond .eq 16, 3) := by decide +kernel
theorem dX4_isSame_330 : decode cX4_isSame 330 = .ok (.aload_n 0, 1) := by decide +kernel
theorem dX4_isSame_331 : decode cX4_isSame 331 = .ok (.getfield 19, 3) := by decide +kernel
theorem dX4_isSame_334 : decode cX4_isSame 334 = .ok (.iload 14, 2) := by decide +kernel
theorem dX4_isSame_336 : decode cX4_isSame 336 = .ok (.aaload, 1) := by decide +kernel
theorem dX4_isSame_337 : decode cX4_isSame 337 = .ok (.iload 15, 2) := by decide +kernel
theorem dX4_isSame_339 : decode cX4_isSame 339 = .ok (.iaload, 1) := by decide +kernel
theorem dX4_isSame_340 : decode cX4_isSame 340 = .ok (.goto 4, 3) := by decide +kernel
theorem dX4_isSame_343 : decode cX4_isSame 343 = .ok (.iconst 0, 1) := by decide +kernel
theorem dX4_isSame_344 : decode cX4_isSame 344 = .ok (.iadd, 1) := by decide +kernel
theorem dX4_isSame_345 : decode cX4_isSame 345 = .ok (.iastore, 1) := by decide +kernel
theorem dX4_isSame_346 : decode cX4_isSame 346 = .ok (.iinc 15 1, 3) := by decide +kernel
theorem dX4_isSame_349 : decode cX4_isSame 349 = .ok (.goto (-44), 3) := by decide +kernel
theorem dX4_isSame_352 : decode cX4_isSame 352 = .ok (.iconst 0, 1) := by decide +kernel
theorem dX4_isSame_353 : decode cX4_isSame 353 = .ok (.istore 15, 2) := by decide +kernel
theorem dX4_isSame_355 : decode cX4_isSame 355 = .ok (.iconst 0, 1) := by decide +kernel
theorem dX4_isSame_356 : decode cX4_isSame 356 = .ok (.istore 16, 2) := by decide +kernel
theorem dX4_isSame_358 : decode cX4_isSame 358 = .ok (.iload 16, 2) := by decide +kernel
theorem dX4_isSame_360 : decode cX4_isSame 360 = .ok (.aload_n 0, 1) := by decide +kernel
theorem dX4_isSame_361 : decode cX4_isSame 361 = .ok (.getfield 25, 3) := by decide +kernel
theorem dX4_isSame_364 : decode cX4_isSame 364 = .ok (.if_icmp .ge 71, 3) := by decide +kernel
theorem dX4_isSame_367 : decode cX4_isSame 367 = .ok (.iload 15, 2) := by decide +kernel
theorem dX4_isSame_369 : decode cX4_isSame 369 = .ok (.aload_n 0, 1) := by decide +kernel
theorem dX4_isSame_370 : decode cX4_isSame 370 = .ok (.getfield 34, 3) := by decide +kernel
theorem dX4_isSame_373 : decode cX4_isSame 373 = .ok (.iload 8, 2) := by decide +kernel
theorem dX4_isSame_375 : decode cX4_isSame 375 = .ok (.aaload, 1) := by decide +kernel
theorem dX4_isSame_376 : decode cX4_isSame 376 = .ok (.iload 16, 2) := by decide +kernel
theorem dX4_isSame_378 : decode cX4_isSame 378 = .ok (.baload, 1) := by decide +kernel
theorem dX4_isSame_379 : decode cX4_isSame 379 = .ok (.ifCond .eq 16, 3) := by decide +kernel
theorem dX4_isSame_382 : decode cX4_isSame 382 = .ok (.aload_n 0, 1) := by decide +kernel
theorem dX4_isSame_383 : decode cX4_isSame 383 = .ok (.getfield 34, 3) := by decide +kernel
theorem dX4_isSame_386 : decode cX4_isSame 386 = .ok (.iload 16, 2) := by decide +kernel
theorem dX4_isSame_388 : decode cX4_isSame 388 = .ok (.aaload, 1) := by decide +kernel
theorem dX4_isSame_389 : decode cX4_isSame 389 = .ok (.iload 14, 2) := by decide +kernel
theorem dX4_isSame_391 : decode cX4_isSame 391 = .ok (.baload, 1) := by decide +kernel
theorem dX4_isSame_392 : decode cX4_isSame 392 = .ok (.ifCond .ne 29, 3) := by decide +kernel
theorem dX4_isSame_395 : decode cX4_isSame 395 = .ok (.aload_n 0, 1) := by decide +kernel
theorem dX4_isSame_396 : decode cX4_isSame 396 = .ok (.getfield 34, 3) := by decide +kernel
theorem dX4_isSame_399 : decode cX4_isSame 399 = .ok (.iload 14, 2) := by decide +kernel
theorem dX4_isSame_401 : decode cX4_isSame 401 = .ok (.aaload, 1) := by decide +kernel
theorem dX4_isSame_402 : decode cX4_isSame 402 = .ok (.iload 16, 2) := by decide +kernel
theorem dX4_isSame_404 : decode cX4_isSame 404 = .ok (.baload, 1) := by decide +kernel
theorem dX4_isSame_405 : decode cX4_isSame 405 = .ok (.ifCond .eq 20, 3) := by decide +kernel
theorem dX4_isSame_408 : decode cX4_isSame 408 = .ok (.aload_n 0, 1) := by decide +kernel
theorem dX4_isSame_409 : decode cX4_isSame 409 = .ok (.getfield 34, 3) := by decide +kernel
theorem dX4_isSame_412 : decode cX4_isSame 412 = .ok (.iload 16, 2) := by decide +kernel
theorem dX4_isSame_414 : decode cX4_isSame 414 = .ok (.aaload, 1) := by decide +kernel
theorem dX4_isSame_415 : decode cX4_isSame 415 = .ok (.iload 8, 2) := by decide +kernel
theorem dX4_isSame_417 : decode cX4_isSame 417 = .ok (.baload, 1) := by decide +kernel
theorem dX4_isSame_418 : decode cX4_isSame 418 = .ok (.ifCond .eq 7, 3) := by decide +kernel
theorem dX4_isSame_421 : decode cX4_isSame 421 = .ok (.iconst 1, 1) := by decide +kernel
theorem dX4_isSame_422 : decode cX4_isSame 422 = .ok (.goto 4, 3) := by decide +kernel
theorem dX4_isSame_425 : decode cX4_isSame 425 = .ok (.iconst 0, 1) := by decide +kernel
theorem dX4_isSame_426 : decode cX4_isSame 426 = .ok (.iadd, 1) := by decide +kernel
theorem dX4_isSame_427 : decode cX4_isSame 427 = .ok (.istore 15, 2) := by decide +kernel
theorem dX4_isSame_429 : decode cX4_isSame 429 = .ok (.iinc 16 1, 3) := by decide +kernel
theorem dX4_isSame_432 : decode cX4_isSame 432 = .ok (.goto (-74), 3) := by decide +kernel
theorem dX4_isSame_435 : decode cX4_isSame 435 = .ok (.aload_n 1, 1) := by decide +kernel
theorem dX4_isSame_436 : decode cX4_isSame 436 = .ok (.iload 8, 2) := by decide +kernel
theorem dX4_isSame_438 : decode cX4_isSame 438 = .ok (.iload 14, 2) := by decide +kernel
theorem dX4_isSame_440 : decode cX4_isSame 440 = .ok (.invokevirtual 53, 3) := by decide +kernel
theorem dX4_isSame_443 : decode cX4_isSame 443 = .ok (.aload_n 0, 1) := by decide +kernel
theorem dX4_isSame_444 : decode cX4_isSame 444 = .ok (.getfield 34, 3) := by decide +kernel
theorem dX4_isSame_447 : decode cX4_isSame 447 = .ok (.iload 8, 2) := by decide +kernel
theorem dX4_isSame_449 : decode cX4_isSame 449 = .ok (.aaload, 1) := by decide +kernel
theorem dX4_isSame_450 : decode cX4_isSame 450 = .ok (.iload 14, 2) := by decide +kernel
theorem dX4_isSame_452 : decode cX4_isSame 452 = .ok (.baload, 1) := by decide +kernel
theorem dX4_isSame_453 : decode cX4_isSame 453 = .ok (.if_icmp .ne 46, 3) := by decide +kernel
theorem dX4_isSame_456 : decode cX4_isSame 456 = .ok (.aload_n 1, 1) := by decide +kernel
theorem dX4_isSame_457 : decode cX4_isSame 457 = .ok (.iload 8, 2) := by decide +kernel
theorem dX4_isSame_459 : decode cX4_isSame 459 = .ok (.iload 14, 2) := by decide +kernel
theorem dX4_isSame_461 : decode cX4_isSame 461 = .ok (.invokevirtual 56, 3) := by decide +kernel
theorem dX4_isSame_464 : decode cX4_isSame 464 = .ok (.aload_n 0, 1) := by decide +kernel
theorem dX4_isSame_465 : decode cX4_isSame 465 = .ok (.getfield 34, 3) := by decide +kernel
theorem dX4_isSame_468 : decode cX4_isSame 468 = .ok (.iload 8, 2) := by decide +kernel
theorem dX4_isSame_470 : decode cX4_isSame 470 = .ok (.aaload, 1) := by decide +kernel
theorem dX4_isSame_471 : decode cX4_isSame 471 = .ok (.iload 14, 2) := by decide +kernel
theorem dX4_isSame_473 : decode cX4_isSame 473 = .ok (.baload, 1) := by decide +kernel
theorem dX4_isSame_474 : decode cX4_isSame 474 = .ok (.ifCond .ne 16, 3) := by decide +kernel
theorem dX4_isSame_477 : decode cX4_isSame 477 = .ok (.aload_n 0, 1) := by decide +kernel
theorem dX4_isSame_478 : decode cX4_isSame 478 = .ok (.getfield 34, 3) := by decide +kernel
theorem dX4_isSame_481 : decode cX4_isSame 481 = .ok (.iload 14, 2) := by decide +kernel
theorem dX4_isSame_483 : decode cX4_isSame 483 = .ok (.aaload, 1) := by decide +kernel
theorem dX4_isSame_484 : decode cX4_isSame 484 = .ok (.iload 8, 2) := by decide +kernel
theorem dX4_isSame_486 : decode cX4_isSame 486 = .ok (.baload, 1) := by decide +kernel
theorem dX4_isSame_487 : decode cX4_isSame 487 = .ok (.ifCond .eq 8, 3) := by decide +kernel
theorem dX4_isSame_490 : decode cX4_isSame 490 = .ok (.iload 15, 2) := by decide +kernel
theorem dX4_isSame_492 : decode cX4_isSame 492 = .ok (.goto 4, 3) := by decide +kernel
theorem dX4_isSame_495 : decode cX4_isSame 495 = .ok (.iconst (-1), 1) := by decide +kernel
theorem dX4_isSame_496 : decode cX4_isSame 496 = .ok (.if_icmp .eq 5, 3) := by decide +kernel
theorem dX4_isSame_499 : decode cX4_isSame 499 = .ok (.iconst 0, 1) := by decide +kernel
theorem dX4_isSame_500 : decode cX4_isSame 500 = .ok (.ireturn, 1) := by decide +kernel
theorem dX4_isSame_501 : decode cX4_isSame 501 = .ok (.iinc 14 1, 3) := by decide +kernel
theorem dX4_isSame_504 : decode cX4_isSame 504 = .ok (.goto (-312), 3) := by decide +kernel
theorem dX4_isSame_507 : decode cX4_isSame 507 = .ok (.aload_n 0, 1) := by decide +kernel
theorem dX4_isSame_508 : decode cX4_isSame 508 = .ok (.iload 8, 2) := by decide +kernel
theorem dX4_isSame_510 : decode cX4_isSame 510 = .ok (.invokevirtual 60, 3) := by decide +kernel
theorem dX4_isSame_513 : decode cX4_isSame 513 = .ok (.istore 14, 2) := by decide +kernel
theorem dX4_isSame_515 : decode cX4_isSame 515 = .ok (.bipush 9, 2) := by decide +kernel
theorem dX4_isSame_517 : decode cX4_isSame 517 = .ok (.newarray .int, 2) := by decide +kernel
theorem dX4_isSame_519 : decode cX4_isSame 519 = .ok (.dup, 1) := by decide +kernel
theorem dX4_isSame_520 : decode cX4_isSame 520 = .ok (.iconst 0, 1) := by decide +kernel
theorem dX4_isSame_521 : decode cX4_isSame 521 = .ok (.aload_n 0, 1) := by decide +kernel
theorem dX4_isSame_522 : decode cX4_isSame 522 = .ok (.iload 8, 2) := by decide +kernel
theorem dX4_isSame_524 : decode cX4_isSame 524 = .ok (.invokevirtual 37, 3) := by decide +kernel
theorem dX4_isSame_527 : decode cX4_isSame 527 = .ok (.iastore, 1) := by decide +kernel
theorem dX4_isSame_528 : decode cX4_isSame 528 = .ok (.dup, 1) := by decide +kernel
theorem dX4_isSame_529 : decode cX4_isSame 529 = .ok (.iconst 1, 1) := by decide +kernel
theorem dX4_isSame_530 : decode cX4_isSame 530 = .ok (.aload_n 0, 1) := by decide +kernel
theorem dX4_isSame_531 : decode cX4_isSame 531 = .ok (.iload 8, 2) := by decide +kernel
theorem dX4_isSame_533 : decode cX4_isSame 533 = .ok (.invokevirtual 41, 3) := by decide +kernel
theorem dX4_isSame_536 : decode cX4_isSame 536 = .ok (.iastore, 1) := by decide +kernel
theorem dX4_isSame_537 : decode cX4_isSame 537 = .ok (.dup, 1) := by decide +kernel
theorem dX4_isSame_538 : decode cX4_isSame 538 = .ok (.iconst 2, 1) := by decide +kernel
theorem dX4_isSame_539 : decode cX4_isSame 539 = .ok (.aload_n 0, 1) := by decide +kernel
theorem dX4_isSame_540 : decode cX4_isSame 540 = .ok (.iload 8, 2) := by decide +kernel
theorem dX4_isSame_542 : decode cX4_isSame 542 = .ok (.invokevirtual 37, 3) := by decide +kernel
theorem dX4_isSame_545 : decode cX4_isSame 545 = .ok (.aload_n 0, 1) := by decide +kernel
theorem dX4_isSame_546 : decode cX4_isSame 546 = .ok (.iload 8, 2) := by decide +kernel
theorem dX4_isSame_548 : decode cX4_isSame 548 = .ok (.invokevirtual 41, 3) := by decide +kernel
theorem dX4_isSame_551 : decode cX4_isSame 551 = .ok (.if_icmp .le 7, 3) := by decide +kernel
theorem dX4_isSame_554 : decode cX4_isSame 554 = .ok (.iconst 1, 1) := by decide +kernel
theorem dX4_isSame_555 : decode cX4_isSame 555 = .ok (.goto 4, 3) := by decide +kernel
theorem dX4_isSame_558 : decode cX4_isSame 558 = .ok (.iconst 0, 1) := by decide +kernel
theorem dX4_isSame_559 : decode cX4_isSame 559 = .ok (.iastore, 1) := by decide +kernel
theorem dX4_isSame_560 : decode cX4_isSame 560 = .ok (.dup, 1) := by decide +kernel
theorem dX4_isSame_561 : decode cX4_isSame 561 = .ok (.iconst 3, 1) := by decide +kernel
theorem dX4_isSame_562 : decode cX4_isSame 562 = .ok (.iload 14, 2) := by decide +kernel
theorem dX4_isSame_564 : decode cX4_isSame 564 = .ok (.iastore, 1) := by decide +kernel
theorem dX4_isSame_565 : decode cX4_isSame 565 = .ok (.dup, 1) := by decide +kernel
theorem dX4_isSame_566 : decode cX4_isSame 566 = .ok (.iconst 4, 1) := by decide +kernel
theorem dX4_isSame_567 : decode cX4_isSame 567 = .ok (.iload 9, 2) := by decide +kernel
theorem dX4_isSame_569 : decode cX4_isSame 569 = .ok (.iastore, 1) := by decide +kernel
theorem dX4_isSame_570 : decode cX4_isSame 570 = .ok (.dup, 1) := by decide +kernel
theorem dX4_isSame_571 : decode cX4_isSame 571 = .ok (.iconst 5, 1) := by decide +kernel
theorem dX4_isSame_572 : decode cX4_isSame 572 = .ok (.iload 10, 2) := by decide +kernel
theorem dX4_isSame_574 : decode cX4_isSame 574 = .ok (.iastore, 1) := by decide +kernel
theorem dX4_isSame_575 : decode cX4_isSame 575 = .ok (.dup, 1) := by decide +kernel
theorem dX4_isSame_576 : decode cX4_isSame 576 = .ok (.bipush 6, 2) := by decide +kernel
theorem dX4_isSame_578 : decode cX4_isSame 578 = .ok (.iload 11, 2) := by decide +kernel
theorem dX4_isSame_580 : decode cX4_isSame 580 = .ok (.iastore, 1) := by decide +kernel
theorem dX4_isSame_581 : decode cX4_isSame 581 = .ok (.dup, 1) := by decide +kernel
theorem dX4_isSame_582 : decode cX4_isSame 582 = .ok (.bipush 7, 2) := by decide +kernel
theorem dX4_isSame_584 : decode cX4_isSame 584 = .ok (.aload_n 0, 1) := by decide +kernel
theorem dX4_isSame_585 : decode cX4_isSame 585 = .ok (.aload 13, 2) := by decide +kernel
theorem dX4_isSame_587 : decode cX4_isSame 587 = .ok (.invokevirtual 63, 3) := by decide +kernel
theorem dX4_isSame_590 : decode cX4_isSame 590 = .ok (.iastore, 1) := by decide +kernel
theorem dX4_isSame_591 : decode cX4_isSame 591 = .ok (.dup, 1) := by decide +kernel
theorem dX4_isSame_592 : decode cX4_isSame 592 = .ok (.bipush 8, 2) := by decide +kernel
theorem dX4_isSame_594 : decode cX4_isSame 594 = .ok (.aload_n 0, 1) := by decide +kernel
theorem dX4_isSame_595 : decode cX4_isSame 595 = .ok (.getfield 22, 3) := by decide +kernel
theorem dX4_isSame_598 : decode cX4_isSame 598 = .ok (.iload 8, 2) := by decide +kernel
theorem dX4_isSame_600 : decode cX4_isSame 600 = .ok (.aaload, 1) := by decide +kernel
theorem dX4_isSame_601 : decode cX4_isSame 601 = .ok (.iconst 0, 1) := by decide +kernel
theorem dX4_isSame_602 : decode cX4_isSame 602 = .ok (.iaload, 1) := by decide +kernel
theorem dX4_isSame_603 : decode cX4_isSame 603 = .ok (.ifCond .ge 7, 3) := by decide +kernel
theorem dX4_isSame_606 : decode cX4_isSame 606 = .ok (.iconst 0, 1) := by decide +kernel
theorem dX4_isSame_607 : decode cX4_isSame 607 = .ok (.goto 4, 3) := by decide +kernel
theorem dX4_isSame_610 : decode cX4_isSame 610 = .ok (.iconst 1, 1) := by decide +kernel
theorem dX4_isSame_611 : decode cX4_isSame 611 = .ok (.iastore, 1) := by decide +kernel
theorem dX4_isSame_612 : decode cX4_isSame 612 = .ok (.astore 15, 2) := by decide +kernel
theorem dX4_isSame_614 : decode cX4_isSame 614 = .ok (.iconst 0, 1) := by decide +kernel
theorem dX4_isSame_615 : decode cX4_isSame 615 = .ok (.istore 16, 2) := by decide +kernel
theorem dX4_isSame_617 : decode cX4_isSame 617 = .ok (.iload 16, 2) := by decide +kernel
theorem dX4_isSame_619 : decode cX4_isSame 619 = .ok (.bipush 9, 2) := by decide +kernel
theorem dX4_isSame_621 : decode cX4_isSame 621 = .ok (.if_icmp .ge 27, 3) := by decide +kernel
theorem dX4_isSame_624 : decode cX4_isSame 624 = .ok (.aload_n 1, 1) := by decide +kernel
theorem dX4_isSame_625 : decode cX4_isSame 625 = .ok (.iload 8, 2) := by decide +kernel
theorem dX4_isSame_627 : decode cX4_isSame 627 = .ok (.iload 16, 2) := by decide +kernel
theorem dX4_isSame_629 : decode cX4_isSame 629 = .ok (.invokevirtual 67, 3) := by decide +kernel
theorem dX4_isSame_632 : decode cX4_isSame 632 = .ok (.aload 15, 2) := by decide +kernel
theorem dX4_isSame_634 : decode cX4_isSame 634 = .ok (.iload 16, 2) := by decide +kernel
theorem dX4_isSame_636 : decode cX4_isSame 636 = .ok (.iaload, 1) := by decide +kernel
theorem dX4_isSame_637 : decode cX4_isSame 637 = .ok (.if_icmp .eq 5, 3) := by decide +kernel
theorem dX4_isSame_640 : decode cX4_isSame 640 = .ok (.iconst 0, 1) := by decide +kernel
theorem dX4_isSame_641 : decode cX4_isSame 641 = .ok (.ireturn, 1) := by decide +kernel
theorem dX4_isSame_642 : decode cX4_isSame 642 = .ok (.iinc 16 1, 3) := by decide +kernel
theorem dX4_isSame_645 : decode cX4_isSame 645 = .ok (.goto (-28), 3) := by decide +kernel
theorem dX4_isSame_648 : decode cX4_isSame 648 = .ok (.iconst 0, 1) := by decide +kernel
theorem dX4_isSame_649 : decode cX4_isSame 649 = .ok (.istore 16, 2) := by decide +kernel
theorem dX4_isSame_651 : decode cX4_isSame 651 = .ok (.iload 16, 2) := by decide +kernel
theorem dX4_isSame_653 : decode cX4_isSame 653 = .ok (.iconst 4, 1) := by decide +kernel
theorem dX4_isSame_654 : decode cX4_isSame 654 = .ok (.if_icmp .ge 42, 3) := by decide +kernel
theorem dX4_isSame_657 : decode cX4_isSame 657 = .ok (.aload_n 1, 1) := by decide +kernel
theorem dX4_isSame_658 : decode cX4_isSame 658 = .ok (.iload 8, 2) := by decide +kernel
theorem dX4_isSame_660 : decode cX4_isSame 660 = .ok (.iload 16, 2) := by decide +kernel
theorem dX4_isSame_662 : decode cX4_isSame 662 = .ok (.invokevirtual 70, 3) := by decide +kernel
theorem dX4_isSame_665 : decode cX4_isSame 665 = .ok (.aload 13, 2) := by decide +kernel
theorem dX4_isSame_667 : decode cX4_isSame 667 = .ok (.iload 16, 2) := by decide +kernel
theorem dX4_isSame_669 : decode cX4_isSame 669 = .ok (.iaload, 1) := by decide +kernel
theorem dX4_isSame_670 : decode cX4_isSame 670 = .ok (.if_icmp .eq 5, 3) := by decide +kernel
theorem dX4_isSame_673 : decode cX4_isSame 673 = .ok (.iconst 0, 1) := by decide +kernel
theorem dX4_isSame_674 : decode cX4_isSame 674 = .ok (.ireturn, 1) := by decide +kernel
theorem dX4_isSame_675 : decode cX4_isSame 675 = .ok (.iload 6, 2) := by decide +kernel
theorem dX4_isSame_677 : decode cX4_isSame 677 = .ok (.aload_n 0, 1) := by decide +kernel
theorem dX4_isSame_678 : decode cX4_isSame 678 = .ok (.getfield 19, 3) := by decide +kernel
theorem dX4_isSame_681 : decode cX4_isSame 681 = .ok (.iload 8, 2) := by decide +kernel
theorem dX4_isSame_683 : decode cX4_isSame 683 = .ok (.aaload, 1) := by decide +kernel
theorem dX4_isSame_684 : decode cX4_isSame 684 = .ok (.iload 16, 2) := by decide +kernel
theorem dX4_isSame_686 : decode cX4_isSame 686 = .ok (.iaload, 1) := by decide +kernel
theorem dX4_isSame_687 : decode cX4_isSame 687 = .ok (.iadd, 1) := by decide +kernel
theorem dX4_isSame_688 : decode cX4_isSame 688 = .ok (.istore 6, 2) := by decide +kernel
theorem dX4_isSame_690 : decode cX4_isSame 690 = .ok (.iinc 16 1, 3) := by decide +kernel
theorem dX4_isSame_693 : decode cX4_isSame 693 = .ok (.goto (-42), 3) := by decide +kernel
theorem dX4_isSame_696 : decode cX4_isSame 696 = .ok (.iload_n 2, 1) := by decide +kernel
theorem dX4_isSame_697 : decode cX4_isSame 697 = .ok (.iload 14, 2) := by decide +kernel
theorem dX4_isSame_699 : decode cX4_isSame 699 = .ok (.iconst 1, 1) := by decide +kernel
theorem dX4_isSame_700 : decode cX4_isSame 700 = .ok (.iadd, 1) := by decide +kernel
theorem dX4_isSame_701 : decode cX4_isSame 701 = .ok (.invokestatic 72, 3) := by decide +kernel
theorem dX4_isSame_704 : decode cX4_isSame 704 = .ok (.istore_n 2, 1) := by decide +kernel
theorem dX4_isSame_705 : decode cX4_isSame 705 = .ok (.iload_n 3, 1) := by decide +kernel
theorem dX4_isSame_706 : decode cX4_isSame 706 = .ok (.iload 14, 2) := by decide +kernel
theorem dX4_isSame_708 : decode cX4_isSame 708 = .ok (.iadd, 1) := by decide +kernel
theorem dX4_isSame_709 : decode cX4_isSame 709 = .ok (.istore_n 3, 1) := by decide +kernel
theorem dX4_isSame_710 : decode cX4_isSame 710 = .ok (.iload 4, 2) := by decide +kernel
theorem dX4_isSame_712 : decode cX4_isSame 712 = .ok (.aload 15, 2) := by decide +kernel
theorem dX4_isSame_714 : decode cX4_isSame 714 = .ok (.bipush 8, 2) := by decide +kernel
theorem dX4_isSame_716 : decode cX4_isSame 716 = .ok (.iaload, 1) := by decide +kernel
theorem dX4_isSame_717 : decode cX4_isSame 717 = .ok (.iadd, 1) := by decide +kernel
theorem dX4_isSame_718 : decode cX4_isSame 718 = .ok (.istore 4, 2) := by decide +kernel
theorem dX4_isSame_720 : decode cX4_isSame 720 = .ok (.iload 5, 2) := by decide +kernel
theorem dX4_isSame_722 : decode cX4_isSame 722 = .ok (.iload 12, 2) := by decide +kernel
theorem dX4_isSame_724 : decode cX4_isSame 724 = .ok (.ifCond .eq 7, 3) := by decide +kernel
theorem dX4_isSame_727 : decode cX4_isSame 727 = .ok (.iconst 1, 1) := by decide +kernel
theorem dX4_isSame_728 : decode cX4_isSame 728 = .ok (.goto 4, 3) := by decide +kernel
theorem dX4_isSame_731 : decode cX4_isSame 731 = .ok (.iconst 0, 1) := by decide +kernel
theorem dX4_isSame_732 : decode cX4_isSame 732 = .ok (.iadd, 1) := by decide +kernel
theorem dX4_isSame_733 : decode cX4_isSame 733 = .ok (.istore 5, 2) := by decide +kernel
theorem dX4_isSame_735 : decode cX4_isSame 735 = .ok (.iinc 8 1, 3) := by decide +kernel
theorem dX4_isSame_738 : decode cX4_isSame 738 = .ok (.goto (-575), 3) := by decide +kernel
theorem dX4_isSame_741 : decode cX4_isSame 741 = .ok (.bipush 7, 2) := by decide +kernel
theorem dX4_isSame_743 : decode cX4_isSame 743 = .ok (.newarray .int, 2) := by decide +kernel
theorem dX4_isSame_745 : decode cX4_isSame 745 = .ok (.dup, 1) := by decide +kernel
theorem dX4_isSame_746 : decode cX4_isSame 746 = .ok (.iconst 0, 1) := by decide +kernel
theorem dX4_isSame_747 : decode cX4_isSame 747 = .ok (.aload_n 0, 1) := by decide +kernel
theorem dX4_isSame_748 : decode cX4_isSame 748 = .ok (.getfield 25, 3) := by decide +kernel
theorem dX4_isSame_751 : decode cX4_isSame 751 = .ok (.iastore, 1) := by decide +kernel
theorem dX4_isSame_752 : decode cX4_isSame 752 = .ok (.dup, 1) := by decide +kernel
theorem dX4_isSame_753 : decode cX4_isSame 753 = .ok (.iconst 1, 1) := by decide +kernel
theorem dX4_isSame_754 : decode cX4_isSame 754 = .ok (.iload_n 2, 1) := by decide +kernel
theorem dX4_isSame_755 : decode cX4_isSame 755 = .ok (.iastore, 1) := by decide +kernel
theorem dX4_isSame_756 : decode cX4_isSame 756 = .ok (.dup, 1) := by decide +kernel
theorem dX4_isSame_757 : decode cX4_isSame 757 = .ok (.iconst 2, 1) := by decide +kernel
theorem dX4_isSame_758 : decode cX4_isSame 758 = .ok (.aload_n 0, 1) := by decide +kernel
theorem dX4_isSame_759 : decode cX4_isSame 759 = .ok (.invokevirtual 77, 3) := by decide +kernel
theorem dX4_isSame_762 : decode cX4_isSame 762 = .ok (.iastore, 1) := by decide +kernel
theorem dX4_isSame_763 : decode cX4_isSame 763 = .ok (.dup, 1) := by decide +kernel
theorem dX4_isSame_764 : decode cX4_isSame 764 = .ok (.iconst 3, 1) := by decide +kernel
theorem dX4_isSame_765 : decode cX4_isSame 765 = .ok (.iload 4, 2) := by decide +kernel
theorem dX4_isSame_767 : decode cX4_isSame 767 = .ok (.iastore, 1) := by decide +kernel
theorem dX4_isSame_768 : decode cX4_isSame 768 = .ok (.dup, 1) := by decide +kernel
theorem dX4_isSame_769 : decode cX4_isSame 769 = .ok (.iconst 4, 1) := by decide +kernel
theorem dX4_isSame_770 : decode cX4_isSame 770 = .ok (.aload_n 0, 1) := by decide +kernel
theorem dX4_isSame_771 : decode cX4_isSame 771 = .ok (.invokevirtual 81, 3) := by decide +kernel
theorem dX4_isSame_774 : decode cX4_isSame 774 = .ok (.iastore, 1) := by decide +kernel
theorem dX4_isSame_775 : decode cX4_isSame 775 = .ok (.dup, 1) := by decide +kernel
theorem dX4_isSame_776 : decode cX4_isSame 776 = .ok (.iconst 5, 1) := by decide +kernel
theorem dX4_isSame_777 : decode cX4_isSame 777 = .ok (.iload 5, 2) := by decide +kernel
theorem dX4_isSame_779 : decode cX4_isSame 779 = .ok (.iastore, 1) := by decide +kernel
theorem dX4_isSame_780 : decode cX4_isSame 780 = .ok (.dup, 1) := by decide +kernel
theorem dX4_isSame_781 : decode cX4_isSame 781 = .ok (.bipush 6, 2) := by decide +kernel
theorem dX4_isSame_783 : decode cX4_isSame 783 = .ok (.iload 6, 2) := by decide +kernel
theorem dX4_isSame_785 : decode cX4_isSame 785 = .ok (.iastore, 1) := by decide +kernel
theorem dX4_isSame_786 : decode cX4_isSame 786 = .ok (.astore 8, 2) := by decide +kernel
theorem dX4_isSame_788 : decode cX4_isSame 788 = .ok (.iconst 0, 1) := by decide +kernel
theorem dX4_isSame_789 : decode cX4_isSame 789 = .ok (.istore 9, 2) := by decide +kernel
theorem dX4_isSame_791 : decode cX4_isSame 791 = .ok (.iload 9, 2) := by decide +kernel
theorem dX4_isSame_793 : decode cX4_isSame 793 = .ok (.bipush 7, 2) := by decide +kernel
theorem dX4_isSame_795 : decode cX4_isSame 795 = .ok (.if_icmp .ge 25, 3) := by decide +kernel
theorem dX4_isSame_798 : decode cX4_isSame 798 = .ok (.aload_n 1, 1) := by decide +kernel
theorem dX4_isSame_799 : decode cX4_isSame 799 = .ok (.iload 9, 2) := by decide +kernel
theorem dX4_isSame_801 : decode cX4_isSame 801 = .ok (.invokevirtual 84, 3) := by decide +kernel
theorem dX4_isSame_804 : decode cX4_isSame 804 = .ok (.aload 8, 2) := by decide +kernel
theorem dX4_isSame_806 : decode cX4_isSame 806 = .ok (.iload 9, 2) := by decide +kernel
theorem dX4_isSame_808 : decode cX4_isSame 808 = .ok (.iaload, 1) := by decide +kernel
theorem dX4_isSame_809 : decode cX4_isSame 809 = .ok (.if_icmp .eq 5, 3) := by decide +kernel
theorem dX4_isSame_812 : decode cX4_isSame 812 = .ok (.iconst 0, 1) := by decide +kernel
theorem dX4_isSame_813 : decode cX4_isSame 813 = .ok (.ireturn, 1) := by decide +kernel
theorem dX4_isSame_814 : decode cX4_isSame 814 = .ok (.iinc 9 1, 3) := by decide +kernel
theorem dX4_isSame_817 : decode cX4_isSame 817 = .ok (.goto (-26), 3) := by decide +kernel
theorem dX4_isSame_820 : decode cX4_isSame 820 = .ok (.aload_n 1, 1) := by decide +kernel
theorem dX4_isSame_821 : decode cX4_isSame 821 = .ok (.invokevirtual 87, 3) := by decide +kernel
theorem dX4_isSame_824 : decode cX4_isSame 824 = .ok (.aload_n 0, 1) := by decide +kernel
theorem dX4_isSame_825 : decode cX4_isSame 825 = .ok (.getfield 25, 3) := by decide +kernel
theorem dX4_isSame_828 : decode cX4_isSame 828 = .ok (.ifCond .ne 7, 3) := by decide +kernel
theorem dX4_isSame_831 : decode cX4_isSame 831 = .ok (.dconst 0, 1) := by decide +kernel
theorem dX4_isSame_832 : decode cX4_isSame 832 = .ok (.goto 11, 3) := by decide +kernel
theorem dX4_isSame_835 : decode cX4_isSame 835 = .ok (.iload_n 3, 1) := by decide +kernel
theorem dX4_isSame_836 : decode cX4_isSame 836 = .ok (.i2d, 1) := by decide +kernel
theorem dX4_isSame_837 : decode cX4_isSame 837 = .ok (.aload_n 0, 1) := by decide +kernel
theorem dX4_isSame_838 : decode cX4_isSame 838 = .ok (.getfield 25, 3) := by decide +kernel
theorem dX4_isSame_841 : decode cX4_isSame 841 = .ok (.i2d, 1) := by decide +kernel
theorem dX4_isSame_842 : decode cX4_isSame 842 = .ok (.ddiv, 1) := by decide +kernel
theorem dX4_isSame_843 : decode cX4_isSame 843 = .ok (.dcmp .l, 1) := by decide +kernel
theorem dX4_isSame_844 : decode cX4_isSame 844 = .ok (.ifCond .ne 7, 3) := by decide +kernel
theorem dX4_isSame_847 : decode cX4_isSame 847 = .ok (.iconst 1, 1) := by decide +kernel
theorem dX4_isSame_848 : decode cX4_isSame 848 = .ok (.goto 4, 3) := by decide +kernel
theorem dX4_isSame_851 : decode cX4_isSame 851 = .ok (.iconst 0, 1) := by decide +kernel
theorem dX4_isSame_852 : decode cX4_isSame 852 = .ok (.ireturn, 1) := by decide +kernel
theorem dJ6_bitCount_0f7a4_0 : decode cJ6_bitCount_0f7a4 0 = .ok (.iload_n 0, 1) := by decide +kernel
theorem dJ6_bitCount_0f7a4_1 : decode cJ6_bitCount_0f7a4 1 = .ok (.iload_n 0, 1) := by decide +kernel
theorem dJ6_bitCount_0f7a4_2 : decode cJ6_bitCount_0f7a4 2 = .ok (.iconst 1, 1) := by decide +kernel
theorem dJ6_bitCount_0f7a4_3 : decode cJ6_bitCount_0f7a4 3 = .ok (.iushr, 1) := by decide +kernel
theorem dJ6_bitCount_0f7a4_4 : decode cJ6_bitCount_0f7a4 4 = .ok (.ldc_w 265, 3) := by decide +kernel
theorem dJ6_bitCount_0f7a4_7 : decode cJ6_bitCount_0f7a4 7 = .ok (.iand, 1) := by decide +kernel
theorem dJ6_bitCount_0f7a4_8 : decode cJ6_bitCount_0f7a4 8 = .ok (.isub, 1) := by decide +kernel
theorem dJ6_bitCount_0f7a4_9 : decode cJ6_bitCount_0f7a4 9 = .ok (.istore_n 0, 1) := by decide +kernel
theorem dJ6_bitCount_0f7a4_10 : decode cJ6_bitCount_0f7a4 10 = .ok (.iload_n 0, 1) := by decide +kernel
theorem dJ6_bitCount_0f7a4_11 : decode cJ6_bitCount_0f7a4 11 = .ok (.ldc_w 266, 3) := by decide +kernel
theorem dJ6_bitCount_0f7a4_14 : decode cJ6_bitCount_0f7a4 14 = .ok (.iand, 1) := by decide +kernel
theorem dJ6_bitCount_0f7a4_15 : decode cJ6_bitCount_0f7a4 15 = .ok (.iload_n 0, 1) := by decide +kernel
theorem dJ6_bitCount_0f7a4_16 : decode cJ6_bitCount_0f7a4 16 = .ok (.iconst 2, 1) := by decide +kernel
theorem dJ6_bitCount_0f7a4_17 : decode cJ6_bitCount_0f7a4 17 = .ok (.iushr, 1) := by decide +kernel
theorem dJ6_bitCount_0f7a4_18 : decode cJ6_bitCount_0f7a4 18 = .ok (.ldc_w 266, 3) := by decide +kernel
theorem dJ6_bitCount_0f7a4_21 : decode cJ6_bitCount_0f7a4 21 = .ok (.iand, 1) := by decide +kernel
theorem dJ6_bitCount_0f7a4_22 : decode cJ6_bitCount_0f7a4 22 = .ok (.iadd, 1) := by decide +kernel
theorem dJ6_bitCount_0f7a4_23 : decode cJ6_bitCount_0f7a4 23 = .ok (.istore_n 0, 1) := by decide +kernel
theorem dJ6_bitCount_0f7a4_24 : decode cJ6_bitCount_0f7a4 24 = .ok (.iload_n 0, 1) := by decide +kernel
theorem dJ6_bitCount_0f7a4_25 : decode cJ6_bitCount_0f7a4 25 = .ok (.iload_n 0, 1) := by decide +kernel
theorem dJ6_bitCount_0f7a4_26 : decode cJ6_bitCount_0f7a4 26 = .ok (.iconst 4, 1) := by decide +kernel
theorem dJ6_bitCount_0f7a4_27 : decode cJ6_bitCount_0f7a4 27 = .ok (.iushr, 1) := by decide +kernel
theorem dJ6_bitCount_0f7a4_28 : decode cJ6_bitCount_0f7a4 28 = .ok (.iadd, 1) := by decide +kernel
theorem dJ6_bitCount_0f7a4_29 : decode cJ6_bitCount_0f7a4 29 = .ok (.ldc_w 267, 3) := by decide +kernel
theorem dJ6_bitCount_0f7a4_32 : decode cJ6_bitCount_0f7a4 32 = .ok (.iand, 1) := by decide +kernel
theorem dJ6_bitCount_0f7a4_33 : decode cJ6_bitCount_0f7a4 33 = .ok (.istore_n 0, 1) := by decide +kernel
theorem dJ6_bitCount_0f7a4_34 : decode cJ6_bitCount_0f7a4 34 = .ok (.iload_n 0, 1) := by decide +kernel
theorem dJ6_bitCount_0f7a4_35 : decode cJ6_bitCount_0f7a4 35 = .ok (.iload_n 0, 1) := by decide +kernel
theorem dJ6_bitCount_0f7a4_36 : decode cJ6_bitCount_0f7a4 36 = .ok (.bipush 8, 2) := by decide +kernel
theorem dJ6_bitCount_0f7a4_38 : decode cJ6_bitCount_0f7a4 38 = .ok (.iushr, 1) := by decide +kernel
theorem dJ6_bitCount_0f7a4_39 : decode cJ6_bitCount_0f7a4 39 = .ok (.iadd, 1) := by decide +kernel
theorem dJ6_bitCount_0f7a4_40 : decode cJ6_bitCount_0f7a4 40 = .ok (.istore_n 0, 1) := by decide +kernel
theorem dJ6_bitCount_0f7a4_41 : decode cJ6_bitCount_0f7a4 41 = .ok (.iload_n 0, 1) := by decide +kernel
theorem dJ6_bitCount_0f7a4_42 : decode cJ6_bitCount_0f7a4 42 = .ok (.iload_n 0, 1) := by decide +kernel
theorem dJ6_bitCount_0f7a4_43 : decode cJ6_bitCount_0f7a4 43 = .ok (.bipush 16, 2) := by decide +kernel
theorem dJ6_bitCount_0f7a4_45 : decode cJ6_bitCount_0f7a4 45 = .ok (.iushr, 1) := by decide +kernel
theorem dJ6_bitCount_0f7a4_46 : decode cJ6_bitCount_0f7a4 46 = .ok (.iadd, 1) := by decide +kernel
theorem dJ6_bitCount_0f7a4_47 : decode cJ6_bitCount_0f7a4 47 = .ok (.istore_n 0, 1) := by decide +kernel
theorem dJ6_bitCount_0f7a4_48 : decode cJ6_bitCount_0f7a4 48 = .ok (.iload_n 0, 1) := by decide +kernel
theorem dJ6_bitCount_0f7a4_49 : decode cJ6_bitCount_0f7a4 49 = .ok (.bipush 63, 2) := by decide +kernel
theorem dJ6_bitCount_0f7a4_51 : decode cJ6_bitCount_0f7a4 51 = .ok (.iand, 1) := by decide +kernel
theorem dJ6_bitCount_0f7a4_52 : decode cJ6_bitCount_0f7a4 52 = .ok (.ireturn, 1) := by decide +kernel
theorem dJ9_max_7cf53_0 : decode cJ9_max_7cf53 0 = .ok (.iload_n 0, 1) := by decide +kernel
theorem dJ9_max_7cf53_1 : decode cJ9_max_7cf53 1 = .ok (.iload_n 1, 1) := by decide +kernel
theorem dJ9_max_7cf53_2 : decode cJ9_max_7cf53 2 = .ok (.if_icmp .lt 7, 3) := by decide +kernel
theorem dJ9_max_7cf53_5 : decode cJ9_max_7cf53 5 = .ok (.iload_n 0, 1) := by decide +kernel
theorem dJ9_max_7cf53_6 : decode cJ9_max_7cf53 6 = .ok (.goto 4, 3) := by decide +kernel
theorem dJ9_max_7cf53_9 : decode cJ9_max_7cf53 9 = .ok (.iload_n 1, 1) := by decide +kernel
theorem dJ9_max_7cf53_10 : decode cJ9_max_7cf53 10 = .ok (.ireturn, 1) := by decide +kernel
theorem dJ9_min_7cf53_0 : decode cJ9_min_7cf53 0 = .ok (.iload_n 0, 1) := by decide +kernel
theorem dJ9_min_7cf53_1 : decode cJ9_min_7cf53 1 = .ok (.iload_n 1, 1) := by decide +kernel
theorem dJ9_min_7cf53_2 : decode cJ9_min_7cf53 2 = .ok (.if_icmp .gt 7, 3) := by decide +kernel
theorem dJ9_min_7cf53_5 : decode cJ9_min_7cf53 5 = .ok (.iload_n 0, 1) := by decide +kernel
theorem dJ9_min_7cf53_6 : decode cJ9_min_7cf53 6 = .ok (.goto 4, 3) := by decide +kernel
theorem dJ9_min_7cf53_9 : decode cJ9_min_7cf53 9 = .ok (.iload_n 1, 1) := by decide +kernel
theorem dJ9_min_7cf53_10 : decode cJ9_min_7cf53 10 = .ok (.ireturn, 1) := by decide +kernel

set_option maxRecDepth 20000 in
theorem ggL_law_X3_init : GoodIn wsL_law wsX3_init := goodIn_r _ [8, 9, 10, 11, 12, 13, 14, 15, 16, 17, 18, 19, 20, 21, 22, 23, 24, 25, 26, 27, 5, 28, 29, 30, 31, 32, 33, 34, 35, 36, 37, 38, 39, 40, 41, 42, 379, 380, 381, 382, 383, 384, 368, 369, 370, 371, 385, 386, 387, 388] (by rfl) (by decide +kernel)
set_option maxRecDepth 20000 in
theorem gL_law_X3_init : GoodIn wsL_law (wsX3_init) := ggL_law_X3_init
set_option maxRecDepth 20000 in
theorem ggL_law_L_build_m : (Cond.code yL_build cL_build 5 (some (.object "CairnShellsLaw$Sim"))) ∈ wsL_law := List.mem_of_getElem? (i := 46) rfl
set_option maxRecDepth 20000 in
theorem ggL_law_L_build_c : GoodIn wsL_law [(Cond.code yL_build cL_build 5 (some (.object "CairnShellsLaw$Sim")))] := fun w hw => by
  rw [List.mem_singleton.mp hw]
  exact ⟨ggL_law_L_build_m, good_of_word (by first | rfl | decide +kernel)⟩
set_option maxRecDepth 20000 in
theorem ggL_law_L_build_r1 : GoodIn wsL_law wsL_build_r1 := goodIn_r _ [47, 48, 49, 50, 51, 52, 53, 54, 10, 11, 55, 56, 57, 58, 5, 59, 60, 61, 62, 45, 63, 64, 65, 66] (by rfl) (by decide +kernel)
set_option maxRecDepth 20000 in
theorem ggL_law_L_build_r2 : GoodIn wsL_law wsL_build_r2 := goodIn_r _ [67, 68, 69, 70, 71, 2, 72, 73, 74, 15, 75, 76, 77, 14, 78, 79, 80, 81, 82, 83, 28, 84, 85, 86] (by rfl) (by decide +kernel)
set_option maxRecDepth 20000 in
theorem ggL_law_L_build_r3 : GoodIn wsL_law wsL_build_r3 := goodIn_r _ [87, 31, 32, 29, 88, 89, 90, 91, 92, 93, 94, 95, 96, 97, 98, 99, 100, 101, 102, 103, 104, 105, 106, 4] (by rfl) (by decide +kernel)
set_option maxRecDepth 20000 in
theorem ggL_law_L_build_r4 : GoodIn wsL_law wsL_build_r4 := goodIn_r _ [107, 108, 3, 109, 110, 111, 112, 113, 114, 115, 116, 117, 118, 119, 120, 121, 122, 123, 124, 125, 126, 127, 128, 129] (by rfl) (by decide +kernel)
set_option maxRecDepth 20000 in
theorem ggL_law_L_build_r5 : GoodIn wsL_law wsL_build_r5 := goodIn_r _ [130, 131, 132, 133, 134, 135, 136, 137, 138, 139, 140, 141, 30, 142, 143, 144, 145, 146, 147, 148, 149, 150, 151, 152] (by rfl) (by decide +kernel)
set_option maxRecDepth 20000 in
theorem ggL_law_L_build_r6 : GoodIn wsL_law wsL_build_r6 := goodIn_r _ [153, 154, 155, 156, 157, 158, 159, 160, 161, 162, 163, 164, 165, 166, 167, 168, 169, 170, 171, 172, 173, 174, 175, 176] (by rfl) (by decide +kernel)
set_option maxRecDepth 20000 in
theorem ggL_law_L_build_r7 : GoodIn wsL_law wsL_build_r7 := goodIn_r _ [177, 178, 179, 19, 180, 181, 182, 183, 184, 185, 18, 186, 36, 187, 188, 189, 190, 23, 191, 192, 193, 22, 194, 195] (by rfl) (by decide +kernel)
set_option maxRecDepth 20000 in
theorem ggL_law_L_build_r8 : GoodIn wsL_law wsL_build_r8 := goodIn_r _ [196, 197, 198, 199, 41, 200, 201, 202, 203, 42, 204, 205, 206, 207, 208, 209, 210, 211, 212, 213, 214, 215, 216, 217] (by rfl) (by decide +kernel)
set_option maxRecDepth 20000 in
theorem ggL_law_L_build_r9 : GoodIn wsL_law wsL_build_r9 := goodIn_r _ [218, 219, 220, 221, 222, 223, 224] (by rfl) (by decide +kernel)
set_option maxRecDepth 20000 in
theorem ggL_law_L_build_wsX40 : GoodIn wsL_law wsX40 := goodIn_r _ [372, 373, 374, 375, 376, 377, 378] (by rfl) (by decide +kernel)
set_option maxRecDepth 20000 in
theorem ggL_law_L_build_wsX30 : GoodIn wsL_law wsX30 := goodIn_r _ [368, 369, 370, 371] (by rfl) (by decide +kernel)
set_option maxRecDepth 20000 in
theorem ggL_law_L_build_wsX20 : GoodIn wsL_law wsX20 := goodIn_r _ [379, 380, 381, 382, 383, 384] (by rfl) (by decide +kernel)
set_option maxRecDepth 20000 in
theorem ggL_law_L_build_wsX10 : GoodIn wsL_law wsX10 := goodIn_r _ [385] (by rfl) (by decide +kernel)
set_option maxRecDepth 20000 in
theorem ggL_law_L_build_wsX00 : GoodIn wsL_law wsX00 := goodIn_r _ [386, 387, 388] (by rfl) (by decide +kernel)
set_option maxRecDepth 20000 in
theorem ggL_law_L_build : GoodIn wsL_law wsL_build := goodIn_ca (goodIn_ca (goodIn_ca (goodIn_ca (goodIn_ca (goodIn_ca (goodIn_ca (goodIn_ca (goodIn_co ggL_law_L_build_c (goodIn_app ggL_law_L_build_r1 (goodIn_app ggL_law_L_build_r2 (goodIn_app ggL_law_L_build_r3 (goodIn_app ggL_law_L_build_r4 (goodIn_app ggL_law_L_build_r5 (goodIn_app ggL_law_L_build_r6 (goodIn_app ggL_law_L_build_r7 (goodIn_app ggL_law_L_build_r8 ggL_law_L_build_r9))))))))) ggL_law_L_build_wsX40) ggL_law_L_build_wsX30) ggL_law_L_build_wsX20) ggL_law_L_build_wsX10) ggL_law_L_build_wsX00) (goodIn_sub (fun _ h => List.mem_append_left _ (List.mem_append_left _ (List.mem_append_right _ h))) (by decide +kernel))) (goodIn_sub (fun _ h => List.mem_append_left _ (List.mem_append_right _ h)) (by decide +kernel))) (goodIn_sub (fun _ h => List.mem_append_right _ h) (by decide +kernel))
set_option maxRecDepth 20000 in
theorem gL_law_L_build : GoodIn wsL_law (va_wsS RL 84 yL_build wsL_build) := goodIn_app (goodIn_of _ (by decide +kernel)) ggL_law_L_build
set_option maxRecDepth 20000 in
theorem ggL_law_L_cell : GoodIn wsL_law wsL_cell := goodIn_r _ [63, 64] (by rfl) (by decide +kernel)
set_option maxRecDepth 20000 in
theorem gL_law_L_cell : GoodIn wsL_law (va_wsS RL 75 yL_cell wsL_cell) := goodIn_app (goodIn_of _ (by decide +kernel)) ggL_law_L_cell
set_option maxRecDepth 20000 in
theorem ggL_law_L_act_m : (Cond.code yL_act cL_act 13 (some .boolean)) ∈ wsL_law := List.mem_of_getElem? (i := 104) rfl
set_option maxRecDepth 20000 in
theorem ggL_law_L_act_c : GoodIn wsL_law [(Cond.code yL_act cL_act 13 (some .boolean))] := fun w hw => by
  rw [List.mem_singleton.mp hw]
  exact ⟨ggL_law_L_act_m, good_of_word (by first | rfl | decide +kernel)⟩
set_option maxRecDepth 20000 in
theorem ggL_law_L_act_r1 : GoodIn wsL_law wsL_act_r1 := goodIn_r _ [50, 105, 106, 5, 4, 107, 108, 3, 65, 66, 45, 67, 68, 109, 110, 111, 49, 112, 113, 114, 115, 116, 117, 57] (by rfl) (by decide +kernel)
set_option maxRecDepth 20000 in
theorem ggL_law_L_act_r2 : GoodIn wsL_law wsL_act_r2 := goodIn_r _ [56, 69, 70, 71, 2, 72, 73, 74, 15, 75, 76, 77, 14, 78, 79, 80, 81, 82, 83, 28, 84, 85, 86, 87] (by rfl) (by decide +kernel)
set_option maxRecDepth 20000 in
theorem ggL_law_L_act_r3 : GoodIn wsL_law wsL_act_r3 := goodIn_r _ [31, 32, 29, 88, 89, 90, 91, 92, 93, 94, 95, 96, 97, 98, 99, 100, 101, 118, 119, 120, 55, 121, 122, 123] (by rfl) (by decide +kernel)
set_option maxRecDepth 20000 in
theorem ggL_law_L_act_r4 : GoodIn wsL_law wsL_act_r4 := goodIn_r _ [124, 125, 126, 127, 128, 129, 130, 131, 132, 133, 134, 135, 136, 137, 138, 139, 140, 141, 30, 142, 143, 144, 145, 146] (by rfl) (by decide +kernel)
set_option maxRecDepth 20000 in
theorem ggL_law_L_act_r5 : GoodIn wsL_law wsL_act_r5 := goodIn_r _ [147, 148, 149, 150, 151, 152, 153, 154, 155, 156, 157, 158, 159, 160, 161, 162, 163, 164, 165, 166, 167, 168, 169, 170] (by rfl) (by decide +kernel)
set_option maxRecDepth 20000 in
theorem ggL_law_L_act_r6 : GoodIn wsL_law wsL_act_r6 := goodIn_r _ [171, 172, 173, 174, 175, 176, 177, 178, 179, 19, 180, 181, 182, 183, 184, 185, 18, 186, 36, 187, 188, 189, 190, 23] (by rfl) (by decide +kernel)
set_option maxRecDepth 20000 in
theorem ggL_law_L_act_r7 : GoodIn wsL_law wsL_act_r7 := goodIn_r _ [191, 192, 193, 22, 194, 195, 196, 197, 198, 199, 41, 200, 201, 202, 203, 42, 204, 205, 206, 207, 208, 209, 210, 211] (by rfl) (by decide +kernel)
set_option maxRecDepth 20000 in
theorem ggL_law_L_act_r8 : GoodIn wsL_law wsL_act_r8 := goodIn_r _ [212, 213, 214, 215, 216, 217, 218, 219, 220, 221, 222, 223, 224, 60] (by rfl) (by decide +kernel)
set_option maxRecDepth 20000 in
theorem ggL_law_L_act_wsX40 : GoodIn wsL_law wsX40 := goodIn_r _ [372, 373, 374, 375, 376, 377, 378] (by rfl) (by decide +kernel)
set_option maxRecDepth 20000 in
theorem ggL_law_L_act_wsX30 : GoodIn wsL_law wsX30 := goodIn_r _ [368, 369, 370, 371] (by rfl) (by decide +kernel)
set_option maxRecDepth 20000 in
theorem ggL_law_L_act_wsX20 : GoodIn wsL_law wsX20 := goodIn_r _ [379, 380, 381, 382, 383, 384] (by rfl) (by decide +kernel)
set_option maxRecDepth 20000 in
theorem ggL_law_L_act_wsX10 : GoodIn wsL_law wsX10 := goodIn_r _ [385] (by rfl) (by decide +kernel)
set_option maxRecDepth 20000 in
theorem ggL_law_L_act_wsX00 : GoodIn wsL_law wsX00 := goodIn_r _ [386, 387, 388] (by rfl) (by decide +kernel)
set_option maxRecDepth 20000 in
theorem ggL_law_L_act : GoodIn wsL_law wsL_act := goodIn_ca (goodIn_ca (goodIn_ca (goodIn_ca (goodIn_ca (goodIn_ca (goodIn_ca (goodIn_ca (goodIn_co ggL_law_L_act_c (goodIn_app ggL_law_L_act_r1 (goodIn_app ggL_law_L_act_r2 (goodIn_app ggL_law_L_act_r3 (goodIn_app ggL_law_L_act_r4 (goodIn_app ggL_law_L_act_r5 (goodIn_app ggL_law_L_act_r6 (goodIn_app ggL_law_L_act_r7 ggL_law_L_act_r8)))))))) ggL_law_L_act_wsX40) ggL_law_L_act_wsX30) ggL_law_L_act_wsX20) ggL_law_L_act_wsX10) ggL_law_L_act_wsX00) (goodIn_sub (fun _ h => List.mem_append_left _ (List.mem_append_left _ (List.mem_append_right _ h))) (by decide +kernel))) (goodIn_sub (fun _ h => List.mem_append_left _ (List.mem_append_right _ h)) (by decide +kernel))) (goodIn_sub (fun _ h => List.mem_append_right _ h) (by decide +kernel))
set_option maxRecDepth 20000 in
theorem gL_law_L_act : GoodIn wsL_law (va_wsS RL 79 yL_act wsL_act) := goodIn_app (goodIn_of _ (by decide +kernel)) ggL_law_L_act
set_option maxRecDepth 20000 in
theorem ggL_law_X3_count : GoodIn wsL_law wsX3_count := goodIn_ca (goodIn_r _ [228, 129, 130, 2, 131, 132, 133, 229, 230, 231, 232, 15, 23, 19, 75, 76, 77, 14, 78, 79, 233, 234, 235, 236, 32, 98, 99, 100, 101, 237, 238, 239, 240, 241, 242, 243, 244, 212, 213, 214, 215, 146, 147, 148, 149, 28, 170, 171, 172, 173, 29, 216, 217, 218, 22, 219, 41, 220, 92, 93, 245, 246, 247, 248, 249, 250, 251, 252, 30, 253, 254, 255, 256, 42, 257, 258, 259, 260, 261, 262, 263, 195, 264, 151, 152, 153, 154, 155, 156, 265, 266, 267, 268, 269, 270, 271, 272, 273, 274, 275, 276, 18, 277, 36, 368, 369, 370, 371, 379, 380, 381, 382, 383, 384, 386, 387, 388, 385] (by rfl) (by decide +kernel)) (goodIn_sub (fun _ h => List.mem_append_left _ (List.mem_append_right _ h)) (by decide +kernel))
set_option maxRecDepth 20000 in
theorem gL_law_X3_count : GoodIn wsL_law (wsV RL 88 RX3 yX3_count wsX3_count) := goodIn_app (goodIn_of _ (by decide +kernel)) ggL_law_X3_count
set_option maxRecDepth 20000 in
theorem ggL_law_X4_reckon : GoodIn wsL_law wsX4_reckon := goodIn_r _ [112, 113, 114, 115, 116, 117, 57, 56, 372, 373, 374, 375, 376, 377, 378] (by rfl) (by decide +kernel)
set_option maxRecDepth 20000 in
theorem gL_law_X4_reckon : GoodIn wsL_law (wsV RL 21 RX4 yX4_reckon wsX4_reckon) := goodIn_app (goodIn_of _ (by decide +kernel)) ggL_law_X4_reckon
set_option maxRecDepth 20000 in
theorem ggL_law_X3_told : GoodIn wsL_law wsX3_told := goodIn_ca (goodIn_r _ [281, 125, 126, 127, 2, 128, 15, 75, 76, 77, 14, 78, 79, 129, 130, 131, 132, 133, 282, 283, 284, 285, 23, 212, 213, 214, 215, 146, 147, 148, 149, 28, 170, 171, 172, 173, 29, 216, 217, 218, 22, 219, 41, 220, 99, 100, 101, 92, 93, 245, 246, 247, 248, 249, 250, 251, 252, 30, 253, 254, 255, 256, 42, 257, 258, 259, 241, 242, 243, 244, 286, 287, 288, 289, 32, 150, 151, 152, 153, 154, 155, 156, 290, 291, 292, 293, 294, 295, 296, 297, 19, 298, 299, 300, 18, 301, 36, 302, 303, 304, 191, 192, 193, 194, 195, 368, 369, 370, 371, 379, 380, 381, 382, 383, 384, 386, 387, 388, 385] (by rfl) (by decide +kernel)) (goodIn_sub (fun _ h => List.mem_append_left _ (List.mem_append_right _ h)) (by decide +kernel))
set_option maxRecDepth 20000 in
theorem gL_law_X3_told : GoodIn wsL_law (wsV RL 91 RX3 yX3_told wsX3_told) := goodIn_app (goodIn_of _ (by decide +kernel)) ggL_law_X3_told
set_option maxRecDepth 20000 in
theorem ggL_law_X3_later : GoodIn wsL_law wsX3_later := goodIn_ca (goodIn_r _ [308, 15, 125, 126, 127, 2, 128, 75, 76, 77, 14, 78, 79, 129, 130, 131, 132, 133, 134, 135, 136, 137, 29, 92, 93, 368, 369, 370, 371, 379, 380, 381, 382, 383, 384] (by rfl) (by decide +kernel)) (goodIn_sub (fun _ h => List.mem_append_left _ (List.mem_append_right _ h)) (by decide +kernel))
set_option maxRecDepth 20000 in
theorem gL_law_X3_later : GoodIn wsL_law (wsV RL 94 RX3 yX3_later wsX3_later) := goodIn_app (goodIn_of _ (by decide +kernel)) ggL_law_X3_later
set_option maxRecDepth 20000 in
theorem ggL_law_X3_finds : GoodIn wsL_law wsX3_finds := goodIn_ca (goodIn_r _ [312, 125, 126, 127, 2, 128, 15, 75, 76, 77, 14, 78, 79, 129, 130, 131, 132, 133, 180, 181, 182, 294, 295, 296, 297, 19, 146, 147, 148, 149, 28, 298, 299, 300, 18, 301, 36, 92, 93, 368, 369, 370, 371, 379, 380, 381, 382, 383, 384, 385] (by rfl) (by decide +kernel)) (goodIn_sub (fun _ h => List.mem_append_left _ (List.mem_append_right _ h)) (by decide +kernel))
set_option maxRecDepth 20000 in
theorem gL_law_X3_finds : GoodIn wsL_law (wsV RL 97 RX3 yX3_finds wsX3_finds) := goodIn_app (goodIn_of _ (by decide +kernel)) ggL_law_X3_finds
set_option maxRecDepth 20000 in
theorem ggL_law_X3_blame : GoodIn wsL_law wsX3_blame := goodIn_r _ [316, 23, 15, 24, 237, 238, 239, 2, 240, 75, 76, 77, 14, 78, 79, 241, 242, 243, 244, 212, 213, 214, 215, 146, 147, 148, 149, 28, 170, 171, 172, 173, 29, 216, 217, 218, 22, 219, 41, 220, 99, 100, 101, 92, 93, 245, 246, 247, 248, 249, 250, 251, 252, 30, 253, 254, 255, 256, 42, 257, 258, 259, 317, 318, 319, 320, 195, 200, 201, 202, 203, 368, 369, 370, 371, 379, 380, 381, 382, 383, 384, 386, 387, 388] (by rfl) (by decide +kernel)
set_option maxRecDepth 20000 in
theorem gL_law_X3_blame : GoodIn wsL_law (wsV RL 99 RX3 yX3_blame wsX3_blame) := goodIn_app (goodIn_of _ (by decide +kernel)) ggL_law_X3_blame
set_option maxRecDepth 20000 in
theorem ggL_law_X3_clear : GoodIn wsL_law wsX3_clear := goodIn_ca (goodIn_ca (goodIn_r _ [190, 73, 74, 23, 125, 126, 127, 2, 128, 15, 75, 76, 77, 14, 78, 79, 129, 130, 131, 132, 133, 191, 192, 193, 22, 194, 195, 92, 93, 196, 197, 198, 199, 41, 200, 201, 202, 203, 42, 368, 369, 370, 371, 379, 380, 381, 382, 383, 384, 386, 387, 388] (by rfl) (by decide +kernel)) (goodIn_sub (fun _ h => List.mem_append_left _ (List.mem_append_left _ (List.mem_append_right _ h))) (by decide +kernel))) (goodIn_sub (fun _ h => List.mem_append_left _ (List.mem_append_right _ h)) (by decide +kernel))
set_option maxRecDepth 20000 in
theorem gL_law_X3_clear : GoodIn wsL_law (wsV RL 64 RX3 yX3_clear wsX3_clear) := goodIn_app (goodIn_of _ (by decide +kernel)) ggL_law_X3_clear
set_option maxRecDepth 20000 in
theorem ggL_law_X3_hearth : GoodIn wsL_law wsX3_hearth := goodIn_ca (goodIn_ca (goodIn_r _ [207, 178, 179, 23, 125, 126, 127, 2, 128, 15, 75, 76, 77, 14, 78, 79, 129, 130, 131, 132, 133, 208, 209, 210, 22, 211, 195, 41, 42, 212, 213, 214, 215, 146, 147, 148, 149, 28, 170, 171, 172, 173, 29, 216, 217, 218, 219, 220, 99, 100, 101, 92, 93, 368, 369, 370, 371, 379, 380, 381, 382, 383, 384, 386, 387, 388] (by rfl) (by decide +kernel)) (goodIn_sub (fun _ h => List.mem_append_right _ h) (by decide +kernel))) (goodIn_sub (fun _ h => List.mem_append_left _ (List.mem_append_right _ h)) (by decide +kernel))
set_option maxRecDepth 20000 in
theorem gL_law_X3_hearth : GoodIn wsL_law (wsV RL 68 RX3 yX3_hearth wsX3_hearth) := goodIn_app (goodIn_of _ (by decide +kernel)) ggL_law_X3_hearth
set_option maxRecDepth 20000 in
theorem ggL_law_X4_isSame_m : (Cond.code yX4_isSame cX4_isSame 17 (some .boolean)) ∈ wsL_law := List.mem_of_getElem? (i := 324) rfl
set_option maxRecDepth 20000 in
theorem ggL_law_X4_isSame_c : GoodIn wsL_law [(Cond.code yX4_isSame cX4_isSame 17 (some .boolean))] := fun w hw => by
  rw [List.mem_singleton.mp hw]
  exact ⟨ggL_law_X4_isSame_m, good_of_word (by first | rfl | decide +kernel)⟩
set_option maxRecDepth 20000 in
theorem ggL_law_X4_isSame_r1 : GoodIn wsL_law wsX4_isSame_r1 := goodIn_r _ [113, 115, 117, 5, 116, 59, 60, 325, 99, 100, 101, 326, 110, 111, 49, 112, 114, 57, 56, 327, 328, 329, 2, 330] (by rfl) (by decide +kernel)
set_option maxRecDepth 20000 in
theorem ggL_law_X4_isSame_r2 : GoodIn wsL_law wsX4_isSame_r2 := goodIn_r _ [15, 75, 76, 77, 14, 78, 79, 129, 130, 131, 132, 133, 331, 332, 333, 334, 31, 335, 306, 307, 308, 125, 126, 127] (by rfl) (by decide +kernel)
set_option maxRecDepth 20000 in
theorem ggL_law_X4_isSame_r3 : GoodIn wsL_law wsX4_isSame_r3 := goodIn_r _ [128, 134, 135, 136, 137, 29, 92, 93, 336, 337, 338, 339, 170, 171, 172, 173, 249, 250, 251, 252, 30, 150, 151, 152] (by rfl) (by decide +kernel)
set_option maxRecDepth 20000 in
theorem ggL_law_X4_isSame_r4 : GoodIn wsL_law wsX4_isSame_r4 := goodIn_r _ [153, 154, 155, 156, 340, 341, 342, 343, 344, 222, 223, 224, 345, 346, 347, 348, 349, 350, 351, 352, 353, 279, 280, 281] (by rfl) (by decide +kernel)
set_option maxRecDepth 20000 in
theorem ggL_law_X4_isSame_r5 : GoodIn wsL_law wsX4_isSame_r5 := goodIn_r _ [282, 283, 284, 285, 23, 212, 213, 214, 215, 146, 147, 148, 149, 28, 216, 217, 218, 22, 219, 41, 220, 245, 246, 247] (by rfl) (by decide +kernel)
set_option maxRecDepth 20000 in
theorem ggL_law_X4_isSame_r6 : GoodIn wsL_law wsX4_isSame_r6 := goodIn_r _ [248, 253, 254, 255, 256, 42, 257, 258, 259, 241, 242, 243, 244, 286, 287, 288, 289, 32, 290, 291, 292, 293, 294, 295] (by rfl) (by decide +kernel)
set_option maxRecDepth 20000 in
theorem ggL_law_X4_isSame_r7 : GoodIn wsL_law wsX4_isSame_r7 := goodIn_r _ [296, 297, 19, 298, 299, 300, 18, 301, 36, 302, 303, 304, 191, 192, 193, 194, 195, 354, 310, 311, 312, 180, 181, 182] (by rfl) (by decide +kernel)
set_option maxRecDepth 20000 in
theorem ggL_law_X4_isSame_r8 : GoodIn wsL_law wsX4_isSame_r8 := goodIn_r _ [355, 356, 357, 358, 359, 360, 361, 362, 363, 226, 227, 228, 229, 230, 231, 232, 233, 234, 235, 236, 98, 237, 238, 239] (by rfl) (by decide +kernel)
set_option maxRecDepth 20000 in
theorem ggL_law_X4_isSame_r9 : GoodIn wsL_law wsX4_isSame_r9 := goodIn_r _ [240, 260, 261, 262, 263, 264, 265, 266, 267, 268, 269, 270, 271, 272, 273, 274, 275, 276, 277, 364, 365, 366, 367] (by rfl) (by decide +kernel)
set_option maxRecDepth 20000 in
theorem ggL_law_X4_isSame_wsX40 : GoodIn wsL_law wsX40 := goodIn_r _ [372, 373, 374, 375, 376, 377, 378] (by rfl) (by decide +kernel)
set_option maxRecDepth 20000 in
theorem ggL_law_X4_isSame_wsX30 : GoodIn wsL_law wsX30 := goodIn_r _ [368, 369, 370, 371] (by rfl) (by decide +kernel)
set_option maxRecDepth 20000 in
theorem ggL_law_X4_isSame_wsX20 : GoodIn wsL_law wsX20 := goodIn_r _ [379, 380, 381, 382, 383, 384] (by rfl) (by decide +kernel)
set_option maxRecDepth 20000 in
theorem ggL_law_X4_isSame_wsX00 : GoodIn wsL_law wsX00 := goodIn_r _ [386, 387, 388] (by rfl) (by decide +kernel)
set_option maxRecDepth 20000 in
theorem ggL_law_X4_isSame_wsX10 : GoodIn wsL_law wsX10 := goodIn_r _ [385] (by rfl) (by decide +kernel)
set_option maxRecDepth 20000 in
theorem ggL_law_X4_isSame : GoodIn wsL_law wsX4_isSame := goodIn_ca (goodIn_ca (goodIn_ca (goodIn_ca (goodIn_ca (goodIn_ca (goodIn_co ggL_law_X4_isSame_c (goodIn_app ggL_law_X4_isSame_r1 (goodIn_app ggL_law_X4_isSame_r2 (goodIn_app ggL_law_X4_isSame_r3 (goodIn_app ggL_law_X4_isSame_r4 (goodIn_app ggL_law_X4_isSame_r5 (goodIn_app ggL_law_X4_isSame_r6 (goodIn_app ggL_law_X4_isSame_r7 (goodIn_app ggL_law_X4_isSame_r8 ggL_law_X4_isSame_r9))))))))) ggL_law_X4_isSame_wsX40) ggL_law_X4_isSame_wsX30) ggL_law_X4_isSame_wsX20) ggL_law_X4_isSame_wsX00) ggL_law_X4_isSame_wsX10) (goodIn_sub (fun _ h => List.mem_append_left _ (List.mem_append_right _ h)) (by decide +kernel))
set_option maxRecDepth 20000 in
theorem gL_law_X4_isSame : GoodIn wsL_law (wsV RL 102 RX4 yX4_isSame wsX4_isSame) := goodIn_app (goodIn_of _ (by decide +kernel)) ggL_law_X4_isSame
theorem dL_law_0 : decode cL_law 0 = .ok (.new 26, 3) := by decide +kernel
theorem dL_law_3 : decode cL_law 3 = .ok (.dup, 1) := by decide +kernel
theorem dL_law_4 : decode cL_law 4 = .ok (.invokespecial 83, 3) := by decide +kernel
theorem dL_law_7 : decode cL_law 7 = .ok (.astore_n 1, 1) := by decide +kernel
theorem dL_law_8 : decode cL_law 8 = .ok (.aload_n 1, 1) := by decide +kernel
theorem dL_law_9 : decode cL_law 9 = .ok (.aload_n 0, 1) := by decide +kernel
theorem dL_law_10 : decode cL_law 10 = .ok (.invokestatic 84, 3) := by decide +kernel
theorem dL_law_13 : decode cL_law 13 = .ok (.astore_n 2, 1) := by decide +kernel
theorem dL_law_14 : decode cL_law 14 = .ok (.aload_n 2, 1) := by decide +kernel
theorem dL_law_15 : decode cL_law 15 = .ok (.ifnonnull 5, 3) := by decide +kernel
theorem dL_law_18 : decode cL_law 18 = .ok (.iconst 0, 1) := by decide +kernel
theorem dL_law_19 : decode cL_law 19 = .ok (.ireturn, 1) := by decide +kernel
theorem dL_law_20 : decode cL_law 20 = .ok (.iconst 0, 1) := by decide +kernel
theorem dL_law_21 : decode cL_law 21 = .ok (.istore_n 3, 1) := by decide +kernel
theorem dL_law_22 : decode cL_law 22 = .ok (.iload_n 3, 1) := by decide +kernel
theorem dL_law_23 : decode cL_law 23 = .ok (.bipush 12, 2) := by decide +kernel
theorem dL_law_25 : decode cL_law 25 = .ok (.if_icmp .ge 937, 3) := by decide +kernel
theorem dL_law_28 : decode cL_law 28 = .ok (.aload_n 0, 1) := by decide +kernel
theorem dL_law_29 : decode cL_law 29 = .ok (.iload_n 3, 1) := by decide +kernel
theorem dL_law_30 : decode cL_law 30 = .ok (.invokestatic 75, 3) := by decide +kernel
theorem dL_law_33 : decode cL_law 33 = .ok (.sipush 263, 3) := by decide +kernel
theorem dL_law_36 : decode cL_law 36 = .ok (.iload_n 3, 1) := by decide +kernel
theorem dL_law_37 : decode cL_law 37 = .ok (.imul, 1) := by decide +kernel
theorem dL_law_38 : decode cL_law 38 = .ok (.iadd, 1) := by decide +kernel
theorem dL_law_39 : decode cL_law 39 = .ok (.istore 4, 2) := by decide +kernel
theorem dL_law_41 : decode cL_law 41 = .ok (.iconst 0, 1) := by decide +kernel
theorem dL_law_42 : decode cL_law 42 = .ok (.istore 5, 2) := by decide +kernel
theorem dL_law_44 : decode cL_law 44 = .ok (.iload 5, 2) := by decide +kernel
theorem dL_law_46 : decode cL_law 46 = .ok (.iconst 2, 1) := by decide +kernel
theorem dL_law_47 : decode cL_law 47 = .ok (.if_icmp .ge 33, 3) := by decide +kernel
theorem dL_law_50 : decode cL_law 50 = .ok (.aload_n 1, 1) := by decide +kernel
theorem dL_law_51 : decode cL_law 51 = .ok (.aload_n 2, 1) := by decide +kernel
theorem dL_law_52 : decode cL_law 52 = .ok (.iload 4, 2) := by decide +kernel
theorem dL_law_54 : decode cL_law 54 = .ok (.iconst 2, 1) := by decide +kernel
theorem dL_law_55 : decode cL_law 55 = .ok (.iload 5, 2) := by decide +kernel
theorem dL_law_57 : decode cL_law 57 = .ok (.imul, 1) := by decide +kernel
theorem dL_law_58 : decode cL_law 58 = .ok (.ishr, 1) := by decide +kernel
theorem dL_law_59 : decode cL_law 59 = .ok (.sipush 191, 3) := by decide +kernel
theorem dL_law_62 : decode cL_law 62 = .ok (.iload 5, 2) := by decide +kernel
theorem dL_law_64 : decode cL_law 64 = .ok (.imul, 1) := by decide +kernel
theorem dL_law_65 : decode cL_law 65 = .ok (.iadd, 1) := by decide +kernel
theorem dL_law_66 : decode cL_law 66 = .ok (.invokestatic 79, 3) := by decide +kernel
theorem dL_law_69 : decode cL_law 69 = .ok (.ifCond .ne 5, 3) := by decide +kernel
theorem dL_law_72 : decode cL_law 72 = .ok (.iconst 0, 1) := by decide +kernel
theorem dL_law_73 : decode cL_law 73 = .ok (.ireturn, 1) := by decide +kernel
theorem dL_law_74 : decode cL_law 74 = .ok (.iinc 5 1, 3) := by decide +kernel
theorem dL_law_77 : decode cL_law 77 = .ok (.goto (-33), 3) := by decide +kernel
theorem dL_law_80 : decode cL_law 80 = .ok (.aload_n 1, 1) := by decide +kernel
theorem dL_law_81 : decode cL_law 81 = .ok (.iconst 0, 1) := by decide +kernel
theorem dL_law_82 : decode cL_law 82 = .ok (.invokevirtual 88, 3) := by decide +kernel
theorem dL_law_85 : decode cL_law 85 = .ok (.istore 5, 2) := by decide +kernel
theorem dL_law_87 : decode cL_law 87 = .ok (.aload_n 2, 1) := by decide +kernel
theorem dL_law_88 : decode cL_law 88 = .ok (.invokevirtual 21, 3) := by decide +kernel
theorem dL_law_91 : decode cL_law 91 = .ok (.pop, 1) := by decide +kernel
theorem dL_law_92 : decode cL_law 92 = .ok (.iconst 0, 1) := by decide +kernel
theorem dL_law_93 : decode cL_law 93 = .ok (.istore 6, 2) := by decide +kernel
theorem dL_law_95 : decode cL_law 95 = .ok (.iconst 0, 1) := by decide +kernel
theorem dL_law_96 : decode cL_law 96 = .ok (.istore 7, 2) := by decide +kernel
theorem dL_law_98 : decode cL_law 98 = .ok (.iconst 0, 1) := by decide +kernel
theorem dL_law_99 : decode cL_law 99 = .ok (.istore 8, 2) := by decide +kernel
theorem dL_law_101 : decode cL_law 101 = .ok (.iload 8, 2) := by decide +kernel
theorem dL_law_103 : decode cL_law 103 = .ok (.iload 5, 2) := by decide +kernel
theorem dL_law_105 : decode cL_law 105 = .ok (.if_icmp .ge 622, 3) := by decide +kernel
theorem dL_law_108 : decode cL_law 108 = .ok (.aload_n 1, 1) := by decide +kernel
theorem dL_law_109 : decode cL_law 109 = .ok (.iload 8, 2) := by decide +kernel
theorem dL_law_111 : decode cL_law 111 = .ok (.iconst 0, 1) := by decide +kernel
theorem dL_law_112 : decode cL_law 112 = .ok (.invokevirtual 91, 3) := by decide +kernel
theorem dL_law_115 : decode cL_law 115 = .ok (.istore 9, 2) := by decide +kernel
theorem dL_law_117 : decode cL_law 117 = .ok (.aload_n 1, 1) := by decide +kernel
theorem dL_law_118 : decode cL_law 118 = .ok (.iload 8, 2) := by decide +kernel
theorem dL_law_120 : decode cL_law 120 = .ok (.iconst 1, 1) := by decide +kernel
theorem dL_law_121 : decode cL_law 121 = .ok (.invokevirtual 91, 3) := by decide +kernel
theorem dL_law_124 : decode cL_law 124 = .ok (.istore 10, 2) := by decide +kernel
theorem dL_law_126 : decode cL_law 126 = .ok (.iload 6, 2) := by decide +kernel
theorem dL_law_128 : decode cL_law 128 = .ok (.aload_n 1, 1) := by decide +kernel
theorem dL_law_129 : decode cL_law 129 = .ok (.iload 8, 2) := by decide +kernel
theorem dL_law_131 : decode cL_law 131 = .ok (.iconst 2, 1) := by decide +kernel
theorem dL_law_132 : decode cL_law 132 = .ok (.invokevirtual 91, 3) := by decide +kernel
theorem dL_law_135 : decode cL_law 135 = .ok (.iadd, 1) := by decide +kernel
theorem dL_law_136 : decode cL_law 136 = .ok (.istore 6, 2) := by decide +kernel
theorem dL_law_138 : decode cL_law 138 = .ok (.iload 7, 2) := by decide +kernel
theorem dL_law_140 : decode cL_law 140 = .ok (.aload_n 1, 1) := by decide +kernel
theorem dL_law_141 : decode cL_law 141 = .ok (.iload 8, 2) := by decide +kernel
theorem dL_law_143 : decode cL_law 143 = .ok (.bipush 8, 2) := by decide +kernel
theorem dL_law_145 : decode cL_law 145 = .ok (.invokevirtual 91, 3) := by decide +kernel
theorem dL_law_148 : decode cL_law 148 = .ok (.iadd, 1) := by decide +kernel
theorem dL_law_149 : decode cL_law 149 = .ok (.istore 7, 2) := by decide +kernel
theorem dL_law_151 : decode cL_law 151 = .ok (.iload 9, 2) := by decide +kernel
theorem dL_law_153 : decode cL_law 153 = .ok (.ifCond .lt 42, 3) := by decide +kernel
theorem dL_law_156 : decode cL_law 156 = .ok (.iload 10, 2) := by decide +kernel
theorem dL_law_158 : decode cL_law 158 = .ok (.sipush 9999, 3) := by decide +kernel
theorem dL_law_161 : decode cL_law 161 = .ok (.if_icmp .gt 34, 3) := by decide +kernel
theorem dL_law_164 : decode cL_law 164 = .ok (.aload_n 1, 1) := by decide +kernel
theorem dL_law_165 : decode cL_law 165 = .ok (.iload 8, 2) := by decide +kernel
theorem dL_law_167 : decode cL_law 167 = .ok (.iconst 2, 1) := by decide +kernel
theorem dL_law_168 : decode cL_law 168 = .ok (.invokevirtual 91, 3) := by decide +kernel
theorem dL_law_171 : decode cL_law 171 = .ok (.iconst 1, 1) := by decide +kernel
theorem dL_law_172 : decode cL_law 172 = .ok (.if_icmp .ne 7, 3) := by decide +kernel
theorem dL_law_175 : decode cL_law 175 = .ok (.iconst 1, 1) := by decide +kernel
theorem dL_law_176 : decode cL_law 176 = .ok (.goto 4, 3) := by decide +kernel
theorem dL_law_179 : decode cL_law 179 = .ok (.iconst 0, 1) := by decide +kernel
theorem dL_law_180 : decode cL_law 180 = .ok (.iload 9, 2) := by decide +kernel
theorem dL_law_182 : decode cL_law 182 = .ok (.iload 10, 2) := by decide +kernel
theorem dL_law_184 : decode cL_law 184 = .ok (.if_icmp .le 7, 3) := by decide +kernel
theorem dL_law_187 : decode cL_law 187 = .ok (.iconst 1, 1) := by decide +kernel
theorem dL_law_188 : decode cL_law 188 = .ok (.goto 4, 3) := by decide +kernel
theorem dL_law_191 : decode cL_law 191 = .ok (.iconst 0, 1) := by decide +kernel
theorem dL_law_192 : decode cL_law 192 = .ok (.if_icmp .eq 5, 3) := by decide +kernel
theorem dL_law_195 : decode cL_law 195 = .ok (.iconst 0, 1) := by decide +kernel
theorem dL_law_196 : decode cL_law 196 = .ok (.ireturn, 1) := by decide +kernel
theorem dL_law_197 : decode cL_law 197 = .ok (.aload_n 2, 1) := by decide +kernel
theorem dL_law_198 : decode cL_law 198 = .ok (.getfield 61, 3) := by decide +kernel
theorem dL_law_201 : decode cL_law 201 = .ok (.iload 8, 2) := by decide +kernel
theorem dL_law_203 : decode cL_law 203 = .ok (.aaload, 1) := by decide +kernel
theorem dL_law_204 : decode cL_law 204 = .ok (.astore 11, 2) := by decide +kernel
theorem dL_law_206 : decode cL_law 206 = .ok (.aload 11, 2) := by decide +kernel
theorem dL_law_208 : decode cL_law 208 = .ok (.iconst 0, 1) := by decide +kernel
theorem dL_law_209 : decode cL_law 209 = .ok (.iaload, 1) := by decide +kernel
theorem dL_law_210 : decode cL_law 210 = .ok (.ifCond .lt 7, 3) := by decide +kernel
theorem dL_law_213 : decode cL_law 213 = .ok (.iconst 1, 1) := by decide +kernel
theorem dL_law_214 : decode cL_law 214 = .ok (.goto 4, 3) := by decide +kernel
theorem dL_law_217 : decode cL_law 217 = .ok (.iconst 0, 1) := by decide +kernel
theorem dL_law_218 : decode cL_law 218 = .ok (.aload_n 1, 1) := by decide +kernel
theorem dL_law_219 : decode cL_law 219 = .ok (.iload 8, 2) := by decide +kernel
theorem dL_law_221 : decode cL_law 221 = .ok (.bipush 8, 2) := by decide +kernel
theorem dL_law_223 : decode cL_law 223 = .ok (.invokevirtual 91, 3) := by decide +kernel
theorem dL_law_226 : decode cL_law 226 = .ok (.iconst 1, 1) := by decide +kernel
theorem dL_law_227 : decode cL_law 227 = .ok (.if_icmp .ne 7, 3) := by decide +kernel
theorem dL_law_230 : decode cL_law 230 = .ok (.iconst 1, 1) := by decide +kernel
theorem dL_law_231 : decode cL_law 231 = .ok (.goto 4, 3) := by decide +kernel
theorem dL_law_234 : decode cL_law 234 = .ok (.iconst 0, 1) := by decide +kernel
theorem dL_law_235 : decode cL_law 235 = .ok (.if_icmp .ne 28, 3) := by decide +kernel
theorem dL_law_238 : decode cL_law 238 = .ok (.aload 11, 2) := by decide +kernel
theorem dL_law_240 : decode cL_law 240 = .ok (.iconst 0, 1) := by decide +kernel
theorem dL_law_241 : decode cL_law 241 = .ok (.iaload, 1) := by decide +kernel
theorem dL_law_242 : decode cL_law 242 = .ok (.ifCond .lt 23, 3) := by decide +kernel
theorem dL_law_245 : decode cL_law 245 = .ok (.iload 9, 2) := by decide +kernel
theorem dL_law_247 : decode cL_law 247 = .ok (.aload 11, 2) := by decide +kernel
theorem dL_law_249 : decode cL_law 249 = .ok (.iconst 0, 1) := by decide +kernel
theorem dL_law_250 : decode cL_law 250 = .ok (.iaload, 1) := by decide +kernel
theorem dL_law_251 : decode cL_law 251 = .ok (.if_icmp .lt 12, 3) := by decide +kernel
theorem dL_law_254 : decode cL_law 254 = .ok (.iload 10, 2) := by decide +kernel
theorem dL_law_256 : decode cL_law 256 = .ok (.aload 11, 2) := by decide +kernel
theorem dL_law_258 : decode cL_law 258 = .ok (.iconst 1, 1) := by decide +kernel
theorem dL_law_259 : decode cL_law 259 = .ok (.iaload, 1) := by decide +kernel
theorem dL_law_260 : decode cL_law 260 = .ok (.if_icmp .le 5, 3) := by decide +kernel
theorem dL_law_263 : decode cL_law 263 = .ok (.iconst 0, 1) := by decide +kernel
theorem dL_law_264 : decode cL_law 264 = .ok (.ireturn, 1) := by decide +kernel
theorem dL_law_265 : decode cL_law 265 = .ok (.iload 9, 2) := by decide +kernel
theorem dL_law_267 : decode cL_law 267 = .ok (.ifCond .ne 7, 3) := by decide +kernel
theorem dL_law_270 : decode cL_law 270 = .ok (.iconst 1, 1) := by decide +kernel
theorem dL_law_271 : decode cL_law 271 = .ok (.goto 4, 3) := by decide +kernel
theorem dL_law_274 : decode cL_law 274 = .ok (.iconst 0, 1) := by decide +kernel
theorem dL_law_275 : decode cL_law 275 = .ok (.istore 12, 2) := by decide +kernel
theorem dL_law_277 : decode cL_law 277 = .ok (.iload 10, 2) := by decide +kernel
theorem dL_law_279 : decode cL_law 279 = .ok (.sipush 9999, 3) := by decide +kernel
theorem dL_law_282 : decode cL_law 282 = .ok (.if_icmp .ne 7, 3) := by decide +kernel
theorem dL_law_285 : decode cL_law 285 = .ok (.iconst 1, 1) := by decide +kernel
theorem dL_law_286 : decode cL_law 286 = .ok (.goto 4, 3) := by decide +kernel
theorem dL_law_289 : decode cL_law 289 = .ok (.iconst 0, 1) := by decide +kernel
theorem dL_law_290 : decode cL_law 290 = .ok (.istore 13, 2) := by decide +kernel
theorem dL_law_292 : decode cL_law 292 = .ok (.iconst 0, 1) := by decide +kernel
theorem dL_law_293 : decode cL_law 293 = .ok (.istore 14, 2) := by decide +kernel
theorem dL_law_295 : decode cL_law 295 = .ok (.iload 14, 2) := by decide +kernel
theorem dL_law_297 : decode cL_law 297 = .ok (.iload 5, 2) := by decide +kernel
theorem dL_law_299 : decode cL_law 299 = .ok (.if_icmp .ge 195, 3) := by decide +kernel
theorem dL_law_302 : decode cL_law 302 = .ok (.aload_n 2, 1) := by decide +kernel
theorem dL_law_303 : decode cL_law 303 = .ok (.getfield 61, 3) := by decide +kernel
theorem dL_law_306 : decode cL_law 306 = .ok (.iload 14, 2) := by decide +kernel
theorem dL_law_308 : decode cL_law 308 = .ok (.aaload, 1) := by decide +kernel
theorem dL_law_309 : decode cL_law 309 = .ok (.astore 15, 2) := by decide +kernel
theorem dL_law_311 : decode cL_law 311 = .ok (.aload_n 2, 1) := by decide +kernel
theorem dL_law_312 : decode cL_law 312 = .ok (.getfield 43, 3) := by decide +kernel
theorem dL_law_315 : decode cL_law 315 = .ok (.iload 8, 2) := by decide +kernel
theorem dL_law_317 : decode cL_law 317 = .ok (.aaload, 1) := by decide +kernel
theorem dL_law_318 : decode cL_law 318 = .ok (.iload 14, 2) := by decide +kernel
theorem dL_law_320 : decode cL_law 320 = .ok (.baload, 1) := by decide +kernel
theorem dL_law_321 : decode cL_law 321 = .ok (.istore 16, 2) := by decide +kernel
theorem dL_law_323 : decode cL_law 323 = .ok (.iload 16, 2) := by decide +kernel
theorem dL_law_325 : decode cL_law 325 = .ok (.ifCond .eq 40, 3) := by decide +kernel
theorem dL_law_328 : decode cL_law 328 = .ok (.iconst 0, 1) := by decide +kernel
theorem dL_law_329 : decode cL_law 329 = .ok (.istore 17, 2) := by decide +kernel
theorem dL_law_331 : decode cL_law 331 = .ok (.iload 17, 2) := by decide +kernel
theorem dL_law_333 : decode cL_law 333 = .ok (.bipush 8, 2) := by decide +kernel
theorem dL_law_335 : decode cL_law 335 = .ok (.if_icmp .ge 30, 3) := by decide +kernel
theorem dL_law_338 : decode cL_law 338 = .ok (.aload_n 1, 1) := by decide +kernel
theorem dL_law_339 : decode cL_law 339 = .ok (.iload 14, 2) := by decide +kernel
theorem dL_law_341 : decode cL_law 341 = .ok (.iload 17, 2) := by decide +kernel
theorem dL_law_343 : decode cL_law 343 = .ok (.invokevirtual 91, 3) := by decide +kernel
theorem dL_law_346 : decode cL_law 346 = .ok (.aload_n 1, 1) := by decide +kernel
theorem dL_law_347 : decode cL_law 347 = .ok (.iload 8, 2) := by decide +kernel
theorem dL_law_349 : decode cL_law 349 = .ok (.iload 17, 2) := by decide +kernel
theorem dL_law_351 : decode cL_law 351 = .ok (.invokevirtual 91, 3) := by decide +kernel
theorem dL_law_354 : decode cL_law 354 = .ok (.if_icmp .eq 5, 3) := by decide +kernel
theorem dL_law_357 : decode cL_law 357 = .ok (.iconst 0, 1) := by decide +kernel
theorem dL_law_358 : decode cL_law 358 = .ok (.ireturn, 1) := by decide +kernel
theorem dL_law_359 : decode cL_law 359 = .ok (.iinc 17 1, 3) := by decide +kernel
theorem dL_law_362 : decode cL_law 362 = .ok (.goto (-31), 3) := by decide +kernel
theorem dL_law_365 : decode cL_law 365 = .ok (.aload_n 1, 1) := by decide +kernel
theorem dL_law_366 : decode cL_law 366 = .ok (.iload 8, 2) := by decide +kernel
theorem dL_law_368 : decode cL_law 368 = .ok (.iload 14, 2) := by decide +kernel
theorem dL_law_370 : decode cL_law 370 = .ok (.invokevirtual 94, 3) := by decide +kernel
theorem dL_law_373 : decode cL_law 373 = .ok (.ifCond .eq 34, 3) := by decide +kernel
theorem dL_law_376 : decode cL_law 376 = .ok (.iload 9, 2) := by decide +kernel
theorem dL_law_378 : decode cL_law 378 = .ok (.aload_n 1, 1) := by decide +kernel
theorem dL_law_379 : decode cL_law 379 = .ok (.iload 14, 2) := by decide +kernel
theorem dL_law_381 : decode cL_law 381 = .ok (.iconst 0, 1) := by decide +kernel
theorem dL_law_382 : decode cL_law 382 = .ok (.invokevirtual 91, 3) := by decide +kernel
theorem dL_law_385 : decode cL_law 385 = .ok (.if_icmp .lt 20, 3) := by decide +kernel
theorem dL_law_388 : decode cL_law 388 = .ok (.iload 10, 2) := by decide +kernel
theorem dL_law_390 : decode cL_law 390 = .ok (.aload_n 1, 1) := by decide +kernel
theorem dL_law_391 : decode cL_law 391 = .ok (.iload 14, 2) := by decide +kernel
theorem dL_law_393 : decode cL_law 393 = .ok (.iconst 1, 1) := by decide +kernel
theorem dL_law_394 : decode cL_law 394 = .ok (.invokevirtual 91, 3) := by decide +kernel
theorem dL_law_397 : decode cL_law 397 = .ok (.if_icmp .lt 8, 3) := by decide +kernel
theorem dL_law_400 : decode cL_law 400 = .ok (.iload 16, 2) := by decide +kernel
theorem dL_law_402 : decode cL_law 402 = .ok (.ifCond .eq 5, 3) := by decide +kernel
theorem dL_law_405 : decode cL_law 405 = .ok (.iconst 0, 1) := by decide +kernel
theorem dL_law_406 : decode cL_law 406 = .ok (.ireturn, 1) := by decide +kernel
theorem dL_law_407 : decode cL_law 407 = .ok (.iload 12, 2) := by decide +kernel
theorem dL_law_409 : decode cL_law 409 = .ok (.ifCond .ne 28, 3) := by decide +kernel
theorem dL_law_412 : decode cL_law 412 = .ok (.aload 15, 2) := by decide +kernel
theorem dL_law_414 : decode cL_law 414 = .ok (.iconst 0, 1) := by decide +kernel
theorem dL_law_415 : decode cL_law 415 = .ok (.iaload, 1) := by decide +kernel
theorem dL_law_416 : decode cL_law 416 = .ok (.iload 9, 2) := by decide +kernel
theorem dL_law_418 : decode cL_law 418 = .ok (.if_icmp .ne 23, 3) := by decide +kernel
theorem dL_law_421 : decode cL_law 421 = .ok (.iload 16, 2) := by decide +kernel
theorem dL_law_423 : decode cL_law 423 = .ok (.ifCond .ne 14, 3) := by decide +kernel
theorem dL_law_426 : decode cL_law 426 = .ok (.aload_n 1, 1) := by decide +kernel
theorem dL_law_427 : decode cL_law 427 = .ok (.iload 8, 2) := by decide +kernel
theorem dL_law_429 : decode cL_law 429 = .ok (.iload 14, 2) := by decide +kernel
theorem dL_law_431 : decode cL_law 431 = .ok (.invokevirtual 94, 3) := by decide +kernel
theorem dL_law_434 : decode cL_law 434 = .ok (.ifCond .eq 7, 3) := by decide +kernel
theorem dL_law_437 : decode cL_law 437 = .ok (.iconst 1, 1) := by decide +kernel
theorem dL_law_438 : decode cL_law 438 = .ok (.goto 4, 3) := by decide +kernel
theorem dL_law_441 : decode cL_law 441 = .ok (.iconst 0, 1) := by decide +kernel
theorem dL_law_442 : decode cL_law 442 = .ok (.istore 12, 2) := by decide +kernel
theorem dL_law_444 : decode cL_law 444 = .ok (.iload 13, 2) := by decide +kernel
theorem dL_law_446 : decode cL_law 446 = .ok (.ifCond .ne 35, 3) := by decide +kernel
theorem dL_law_449 : decode cL_law 449 = .ok (.aload 15, 2) := by decide +kernel
theorem dL_law_451 : decode cL_law 451 = .ok (.iconst 0, 1) := by decide +kernel
theorem dL_law_452 : decode cL_law 452 = .ok (.iaload, 1) := by decide +kernel
theorem dL_law_453 : decode cL_law 453 = .ok (.ifCond .lt 32, 3) := by decide +kernel
theorem dL_law_456 : decode cL_law 456 = .ok (.aload 15, 2) := by decide +kernel
theorem dL_law_458 : decode cL_law 458 = .ok (.iconst 1, 1) := by decide +kernel
theorem dL_law_459 : decode cL_law 459 = .ok (.iaload, 1) := by decide +kernel
theorem dL_law_460 : decode cL_law 460 = .ok (.iload 10, 2) := by decide +kernel
theorem dL_law_462 : decode cL_law 462 = .ok (.if_icmp .ne 23, 3) := by decide +kernel
theorem dL_law_465 : decode cL_law 465 = .ok (.iload 16, 2) := by decide +kernel
theorem dL_law_467 : decode cL_law 467 = .ok (.ifCond .ne 14, 3) := by decide +kernel
theorem dL_law_470 : decode cL_law 470 = .ok (.aload_n 1, 1) := by decide +kernel
theorem dL_law_471 : decode cL_law 471 = .ok (.iload 14, 2) := by decide +kernel
theorem dL_law_473 : decode cL_law 473 = .ok (.iload 8, 2) := by decide +kernel
theorem dL_law_475 : decode cL_law 475 = .ok (.invokevirtual 94, 3) := by decide +kernel
theorem dL_law_478 : decode cL_law 478 = .ok (.ifCond .eq 7, 3) := by decide +kernel
theorem dL_law_481 : decode cL_law 481 = .ok (.iconst 1, 1) := by decide +kernel
theorem dL_law_482 : decode cL_law 482 = .ok (.goto 4, 3) := by decide +kernel
theorem dL_law_485 : decode cL_law 485 = .ok (.iconst 0, 1) := by decide +kernel
theorem dL_law_486 : decode cL_law 486 = .ok (.istore 13, 2) := by decide +kernel
theorem dL_law_488 : decode cL_law 488 = .ok (.iinc 14 1, 3) := by decide +kernel
theorem dL_law_491 : decode cL_law 491 = .ok (.goto (-196), 3) := by decide +kernel
theorem dL_law_494 : decode cL_law 494 = .ok (.iload 12, 2) := by decide +kernel
theorem dL_law_496 : decode cL_law 496 = .ok (.ifCond .eq 8, 3) := by decide +kernel
theorem dL_law_499 : decode cL_law 499 = .ok (.iload 13, 2) := by decide +kernel
theorem dL_law_501 : decode cL_law 501 = .ok (.ifCond .ne 5, 3) := by decide +kernel
theorem dL_law_504 : decode cL_law 504 = .ok (.iconst 0, 1) := by decide +kernel
theorem dL_law_505 : decode cL_law 505 = .ok (.ireturn, 1) := by decide +kernel
theorem dL_law_506 : decode cL_law 506 = .ok (.iconst 4, 1) := by decide +kernel
theorem dL_law_507 : decode cL_law 507 = .ok (.newarray .int, 2) := by decide +kernel
theorem dL_law_509 : decode cL_law 509 = .ok (.dup, 1) := by decide +kernel
theorem dL_law_510 : decode cL_law 510 = .ok (.iconst 0, 1) := by decide +kernel
theorem dL_law_511 : decode cL_law 511 = .ok (.aload_n 1, 1) := by decide +kernel
theorem dL_law_512 : decode cL_law 512 = .ok (.iload 8, 2) := by decide +kernel
theorem dL_law_514 : decode cL_law 514 = .ok (.iconst 0, 1) := by decide +kernel
theorem dL_law_515 : decode cL_law 515 = .ok (.invokevirtual 97, 3) := by decide +kernel
theorem dL_law_518 : decode cL_law 518 = .ok (.iastore, 1) := by decide +kernel
theorem dL_law_519 : decode cL_law 519 = .ok (.dup, 1) := by decide +kernel
theorem dL_law_520 : decode cL_law 520 = .ok (.iconst 1, 1) := by decide +kernel
theorem dL_law_521 : decode cL_law 521 = .ok (.aload_n 1, 1) := by decide +kernel
theorem dL_law_522 : decode cL_law 522 = .ok (.iload 8, 2) := by decide +kernel
theorem dL_law_524 : decode cL_law 524 = .ok (.iconst 1, 1) := by decide +kernel
theorem dL_law_525 : decode cL_law 525 = .ok (.invokevirtual 97, 3) := by decide +kernel
theorem dL_law_528 : decode cL_law 528 = .ok (.iastore, 1) := by decide +kernel
theorem dL_law_529 : decode cL_law 529 = .ok (.dup, 1) := by decide +kernel
theorem dL_law_530 : decode cL_law 530 = .ok (.iconst 2, 1) := by decide +kernel
theorem dL_law_531 : decode cL_law 531 = .ok (.aload_n 1, 1) := by decide +kernel
theorem dL_law_532 : decode cL_law 532 = .ok (.iload 8, 2) := by decide +kernel
theorem dL_law_534 : decode cL_law 534 = .ok (.iconst 2, 1) := by decide +kernel
theorem dL_law_535 : decode cL_law 535 = .ok (.invokevirtual 97, 3) := by decide +kernel
theorem dL_law_538 : decode cL_law 538 = .ok (.iastore, 1) := by decide +kernel
theorem dL_law_539 : decode cL_law 539 = .ok (.dup, 1) := by decide +kernel
theorem dL_law_540 : decode cL_law 540 = .ok (.iconst 3, 1) := by decide +kernel
theorem dL_law_541 : decode cL_law 541 = .ok (.aload_n 1, 1) := by decide +kernel
theorem dL_law_542 : decode cL_law 542 = .ok (.iload 8, 2) := by decide +kernel
theorem dL_law_544 : decode cL_law 544 = .ok (.iconst 3, 1) := by decide +kernel
theorem dL_law_545 : decode cL_law 545 = .ok (.invokevirtual 97, 3) := by decide +kernel
theorem dL_law_548 : decode cL_law 548 = .ok (.iastore, 1) := by decide +kernel
theorem dL_law_549 : decode cL_law 549 = .ok (.astore 14, 2) := by decide +kernel
theorem dL_law_551 : decode cL_law 551 = .ok (.iconst 4, 1) := by decide +kernel
theorem dL_law_552 : decode cL_law 552 = .ok (.newarray .int, 2) := by decide +kernel
theorem dL_law_554 : decode cL_law 554 = .ok (.dup, 1) := by decide +kernel
theorem dL_law_555 : decode cL_law 555 = .ok (.iconst 0, 1) := by decide +kernel
theorem dL_law_556 : decode cL_law 556 = .ok (.iconst 3, 1) := by decide +kernel
theorem dL_law_557 : decode cL_law 557 = .ok (.aload 14, 2) := by decide +kernel
theorem dL_law_559 : decode cL_law 559 = .ok (.iconst 0, 1) := by decide +kernel
theorem dL_law_560 : decode cL_law 560 = .ok (.iaload, 1) := by decide +kernel
theorem dL_law_561 : decode cL_law 561 = .ok (.imul, 1) := by decide +kernel
theorem dL_law_562 : decode cL_law 562 = .ok (.aload 14, 2) := by decide +kernel
theorem dL_law_564 : decode cL_law 564 = .ok (.iconst 3, 1) := by decide +kernel
theorem dL_law_565 : decode cL_law 565 = .ok (.iaload, 1) := by decide +kernel
theorem dL_law_566 : decode cL_law 566 = .ok (.iadd, 1) := by decide +kernel
theorem dL_law_567 : decode cL_law 567 = .ok (.iastore, 1) := by decide +kernel
theorem dL_law_568 : decode cL_law 568 = .ok (.dup, 1) := by decide +kernel
theorem dL_law_569 : decode cL_law 569 = .ok (.iconst 1, 1) := by decide +kernel
theorem dL_law_570 : decode cL_law 570 = .ok (.iconst 2, 1) := by decide +kernel
theorem dL_law_571 : decode cL_law 571 = .ok (.aload 14, 2) := by decide +kernel
theorem dL_law_573 : decode cL_law 573 = .ok (.iconst 1, 1) := by decide +kernel
theorem dL_law_574 : decode cL_law 574 = .ok (.iaload, 1) := by decide +kernel
theorem dL_law_575 : decode cL_law 575 = .ok (.imul, 1) := by decide +kernel
theorem dL_law_576 : decode cL_law 576 = .ok (.aload 14, 2) := by decide +kernel
theorem dL_law_578 : decode cL_law 578 = .ok (.iconst 2, 1) := by decide +kernel
theorem dL_law_579 : decode cL_law 579 = .ok (.iaload, 1) := by decide +kernel
theorem dL_law_580 : decode cL_law 580 = .ok (.iconst 2, 1) := by decide +kernel
theorem dL_law_581 : decode cL_law 581 = .ok (.idiv, 1) := by decide +kernel
theorem dL_law_582 : decode cL_law 582 = .ok (.iadd, 1) := by decide +kernel
theorem dL_law_583 : decode cL_law 583 = .ok (.iastore, 1) := by decide +kernel
theorem dL_law_584 : decode cL_law 584 = .ok (.dup, 1) := by decide +kernel
theorem dL_law_585 : decode cL_law 585 = .ok (.iconst 2, 1) := by decide +kernel
theorem dL_law_586 : decode cL_law 586 = .ok (.iconst 2, 1) := by decide +kernel
theorem dL_law_587 : decode cL_law 587 = .ok (.aload 14, 2) := by decide +kernel
theorem dL_law_589 : decode cL_law 589 = .ok (.iconst 2, 1) := by decide +kernel
theorem dL_law_590 : decode cL_law 590 = .ok (.iaload, 1) := by decide +kernel
theorem dL_law_591 : decode cL_law 591 = .ok (.imul, 1) := by decide +kernel
theorem dL_law_592 : decode cL_law 592 = .ok (.aload 14, 2) := by decide +kernel
theorem dL_law_594 : decode cL_law 594 = .ok (.iconst 1, 1) := by decide +kernel
theorem dL_law_595 : decode cL_law 595 = .ok (.iaload, 1) := by decide +kernel
theorem dL_law_596 : decode cL_law 596 = .ok (.iadd, 1) := by decide +kernel
theorem dL_law_597 : decode cL_law 597 = .ok (.iastore, 1) := by decide +kernel
theorem dL_law_598 : decode cL_law 598 = .ok (.dup, 1) := by decide +kernel
theorem dL_law_599 : decode cL_law 599 = .ok (.iconst 3, 1) := by decide +kernel
theorem dL_law_600 : decode cL_law 600 = .ok (.iconst 4, 1) := by decide +kernel
theorem dL_law_601 : decode cL_law 601 = .ok (.aload 14, 2) := by decide +kernel
theorem dL_law_603 : decode cL_law 603 = .ok (.iconst 3, 1) := by decide +kernel
theorem dL_law_604 : decode cL_law 604 = .ok (.iaload, 1) := by decide +kernel
theorem dL_law_605 : decode cL_law 605 = .ok (.imul, 1) := by decide +kernel
theorem dL_law_606 : decode cL_law 606 = .ok (.aload 14, 2) := by decide +kernel
theorem dL_law_608 : decode cL_law 608 = .ok (.iconst 0, 1) := by decide +kernel
theorem dL_law_609 : decode cL_law 609 = .ok (.iaload, 1) := by decide +kernel
theorem dL_law_610 : decode cL_law 610 = .ok (.iadd, 1) := by decide +kernel
theorem dL_law_611 : decode cL_law 611 = .ok (.iastore, 1) := by decide +kernel
theorem dL_law_612 : decode cL_law 612 = .ok (.astore 15, 2) := by decide +kernel
theorem dL_law_614 : decode cL_law 614 = .ok (.aload_n 1, 1) := by decide +kernel
theorem dL_law_615 : decode cL_law 615 = .ok (.iload 8, 2) := by decide +kernel
theorem dL_law_617 : decode cL_law 617 = .ok (.bipush 7, 2) := by decide +kernel
theorem dL_law_619 : decode cL_law 619 = .ok (.invokevirtual 91, 3) := by decide +kernel
theorem dL_law_622 : decode cL_law 622 = .ok (.istore 16, 2) := by decide +kernel
theorem dL_law_624 : decode cL_law 624 = .ok (.iload 16, 2) := by decide +kernel
theorem dL_law_626 : decode cL_law 626 = .ok (.ifCond .ge 7, 3) := by decide +kernel
theorem dL_law_629 : decode cL_law 629 = .ok (.iconst 1, 1) := by decide +kernel
theorem dL_law_630 : decode cL_law 630 = .ok (.goto 4, 3) := by decide +kernel
theorem dL_law_633 : decode cL_law 633 = .ok (.iconst 0, 1) := by decide +kernel
theorem dL_law_634 : decode cL_law 634 = .ok (.aload 14, 2) := by decide +kernel
theorem dL_law_636 : decode cL_law 636 = .ok (.iconst 0, 1) := by decide +kernel
theorem dL_law_637 : decode cL_law 637 = .ok (.iaload, 1) := by decide +kernel
theorem dL_law_638 : decode cL_law 638 = .ok (.aload 14, 2) := by decide +kernel
theorem dL_law_640 : decode cL_law 640 = .ok (.iconst 1, 1) := by decide +kernel
theorem dL_law_641 : decode cL_law 641 = .ok (.iaload, 1) := by decide +kernel
theorem dL_law_642 : decode cL_law 642 = .ok (.iadd, 1) := by decide +kernel
theorem dL_law_643 : decode cL_law 643 = .ok (.aload 14, 2) := by decide +kernel
theorem dL_law_645 : decode cL_law 645 = .ok (.iconst 2, 1) := by decide +kernel
theorem dL_law_646 : decode cL_law 646 = .ok (.iaload, 1) := by decide +kernel
theorem dL_law_647 : decode cL_law 647 = .ok (.iadd, 1) := by decide +kernel
theorem dL_law_648 : decode cL_law 648 = .ok (.aload 14, 2) := by decide +kernel
theorem dL_law_650 : decode cL_law 650 = .ok (.iconst 3, 1) := by decide +kernel
theorem dL_law_651 : decode cL_law 651 = .ok (.iaload, 1) := by decide +kernel
theorem dL_law_652 : decode cL_law 652 = .ok (.iadd, 1) := by decide +kernel
theorem dL_law_653 : decode cL_law 653 = .ok (.ifCond .ne 7, 3) := by decide +kernel
theorem dL_law_656 : decode cL_law 656 = .ok (.iconst 1, 1) := by decide +kernel
theorem dL_law_657 : decode cL_law 657 = .ok (.goto 4, 3) := by decide +kernel
theorem dL_law_660 : decode cL_law 660 = .ok (.iconst 0, 1) := by decide +kernel
theorem dL_law_661 : decode cL_law 661 = .ok (.if_icmp .eq 5, 3) := by decide +kernel
theorem dL_law_664 : decode cL_law 664 = .ok (.iconst 0, 1) := by decide +kernel
theorem dL_law_665 : decode cL_law 665 = .ok (.ireturn, 1) := by decide +kernel
theorem dL_law_666 : decode cL_law 666 = .ok (.iconst 0, 1) := by decide +kernel
theorem dL_law_667 : decode cL_law 667 = .ok (.istore 17, 2) := by decide +kernel
theorem dL_law_669 : decode cL_law 669 = .ok (.iload 17, 2) := by decide +kernel
theorem dL_law_671 : decode cL_law 671 = .ok (.iconst 4, 1) := by decide +kernel
theorem dL_law_672 : decode cL_law 672 = .ok (.if_icmp .ge 49, 3) := by decide +kernel
theorem dL_law_675 : decode cL_law 675 = .ok (.iload 16, 2) := by decide +kernel
theorem dL_law_677 : decode cL_law 677 = .ok (.ifCond .lt 44, 3) := by decide +kernel
theorem dL_law_680 : decode cL_law 680 = .ok (.aload 15, 2) := by decide +kernel
theorem dL_law_682 : decode cL_law 682 = .ok (.iload 17, 2) := by decide +kernel
theorem dL_law_684 : decode cL_law 684 = .ok (.iaload, 1) := by decide +kernel
theorem dL_law_685 : decode cL_law 685 = .ok (.aload 15, 2) := by decide +kernel
theorem dL_law_687 : decode cL_law 687 = .ok (.iload 16, 2) := by decide +kernel
theorem dL_law_689 : decode cL_law 689 = .ok (.iaload, 1) := by decide +kernel
theorem dL_law_690 : decode cL_law 690 = .ok (.if_icmp .gt 23, 3) := by decide +kernel
theorem dL_law_693 : decode cL_law 693 = .ok (.aload 15, 2) := by decide +kernel
theorem dL_law_695 : decode cL_law 695 = .ok (.iload 17, 2) := by decide +kernel
theorem dL_law_697 : decode cL_law 697 = .ok (.iaload, 1) := by decide +kernel
theorem dL_law_698 : decode cL_law 698 = .ok (.aload 15, 2) := by decide +kernel
theorem dL_law_700 : decode cL_law 700 = .ok (.iload 16, 2) := by decide +kernel
theorem dL_law_702 : decode cL_law 702 = .ok (.iaload, 1) := by decide +kernel
theorem dL_law_703 : decode cL_law 703 = .ok (.if_icmp .ne 12, 3) := by decide +kernel
theorem dL_law_706 : decode cL_law 706 = .ok (.iload 17, 2) := by decide +kernel
theorem dL_law_708 : decode cL_law 708 = .ok (.iload 16, 2) := by decide +kernel
theorem dL_law_710 : decode cL_law 710 = .ok (.if_icmp .ge 5, 3) := by decide +kernel
theorem dL_law_713 : decode cL_law 713 = .ok (.iconst 0, 1) := by decide +kernel
theorem dL_law_714 : decode cL_law 714 = .ok (.ireturn, 1) := by decide +kernel
theorem dL_law_715 : decode cL_law 715 = .ok (.iinc 17 1, 3) := by decide +kernel
theorem dL_law_718 : decode cL_law 718 = .ok (.goto (-49), 3) := by decide +kernel
theorem dL_law_721 : decode cL_law 721 = .ok (.iinc 8 1, 3) := by decide +kernel
theorem dL_law_724 : decode cL_law 724 = .ok (.goto (-623), 3) := by decide +kernel
theorem dL_law_727 : decode cL_law 727 = .ok (.aload_n 1, 1) := by decide +kernel
theorem dL_law_728 : decode cL_law 728 = .ok (.iconst 2, 1) := by decide +kernel
theorem dL_law_729 : decode cL_law 729 = .ok (.invokevirtual 88, 3) := by decide +kernel
theorem dL_law_732 : decode cL_law 732 = .ok (.iload 6, 2) := by decide +kernel
theorem dL_law_734 : decode cL_law 734 = .ok (.if_icmp .ne 13, 3) := by decide +kernel
theorem dL_law_737 : decode cL_law 737 = .ok (.aload_n 1, 1) := by decide +kernel
theorem dL_law_738 : decode cL_law 738 = .ok (.iconst 3, 1) := by decide +kernel
theorem dL_law_739 : decode cL_law 739 = .ok (.invokevirtual 88, 3) := by decide +kernel
theorem dL_law_742 : decode cL_law 742 = .ok (.iload 7, 2) := by decide +kernel
theorem dL_law_744 : decode cL_law 744 = .ok (.if_icmp .eq 5, 3) := by decide +kernel
theorem dL_law_747 : decode cL_law 747 = .ok (.iconst 0, 1) := by decide +kernel
theorem dL_law_748 : decode cL_law 748 = .ok (.ireturn, 1) := by decide +kernel
theorem dL_law_749 : decode cL_law 749 = .ok (.aload_n 1, 1) := by decide +kernel
theorem dL_law_750 : decode cL_law 750 = .ok (.invokevirtual 99, 3) := by decide +kernel
theorem dL_law_753 : decode cL_law 753 = .ok (.istore 8, 2) := by decide +kernel
theorem dL_law_755 : decode cL_law 755 = .ok (.iload 8, 2) := by decide +kernel
theorem dL_law_757 : decode cL_law 757 = .ok (.ifCond .lt 7, 3) := by decide +kernel
theorem dL_law_760 : decode cL_law 760 = .ok (.iconst 1, 1) := by decide +kernel
theorem dL_law_761 : decode cL_law 761 = .ok (.goto 4, 3) := by decide +kernel
theorem dL_law_764 : decode cL_law 764 = .ok (.iconst 0, 1) := by decide +kernel
theorem dL_law_765 : decode cL_law 765 = .ok (.iload 6, 2) := by decide +kernel
theorem dL_law_767 : decode cL_law 767 = .ok (.ifCond .le 7, 3) := by decide +kernel
theorem dL_law_770 : decode cL_law 770 = .ok (.iconst 1, 1) := by decide +kernel
theorem dL_law_771 : decode cL_law 771 = .ok (.goto 4, 3) := by decide +kernel
theorem dL_law_774 : decode cL_law 774 = .ok (.iconst 0, 1) := by decide +kernel
theorem dL_law_775 : decode cL_law 775 = .ok (.if_icmp .eq 10, 3) := by decide +kernel
theorem dL_law_778 : decode cL_law 778 = .ok (.iload 8, 2) := by decide +kernel
theorem dL_law_780 : decode cL_law 780 = .ok (.ifCond .lt 5, 3) := by decide +kernel
theorem dL_law_783 : decode cL_law 783 = .ok (.iconst 0, 1) := by decide +kernel
theorem dL_law_784 : decode cL_law 784 = .ok (.ireturn, 1) := by decide +kernel
theorem dL_law_785 : decode cL_law 785 = .ok (.iload 8, 2) := by decide +kernel
theorem dL_law_787 : decode cL_law 787 = .ok (.ifCond .lt 169, 3) := by decide +kernel
theorem dL_law_790 : decode cL_law 790 = .ok (.aload_n 2, 1) := by decide +kernel
theorem dL_law_791 : decode cL_law 791 = .ok (.getfield 61, 3) := by decide +kernel
theorem dL_law_794 : decode cL_law 794 = .ok (.iload 8, 2) := by decide +kernel
theorem dL_law_796 : decode cL_law 796 = .ok (.aaload, 1) := by decide +kernel
theorem dL_law_797 : decode cL_law 797 = .ok (.astore 9, 2) := by decide +kernel
theorem dL_law_799 : decode cL_law 799 = .ok (.aload_n 1, 1) := by decide +kernel
theorem dL_law_800 : decode cL_law 800 = .ok (.iload 8, 2) := by decide +kernel
theorem dL_law_802 : decode cL_law 802 = .ok (.invokevirtual 64, 3) := by decide +kernel
theorem dL_law_805 : decode cL_law 805 = .ok (.aload 9, 2) := by decide +kernel
theorem dL_law_807 : decode cL_law 807 = .ok (.iconst 0, 1) := by decide +kernel
theorem dL_law_808 : decode cL_law 808 = .ok (.iaload, 1) := by decide +kernel
theorem dL_law_809 : decode cL_law 809 = .ok (.if_icmp .ne 13, 3) := by decide +kernel
theorem dL_law_812 : decode cL_law 812 = .ok (.aload_n 1, 1) := by decide +kernel
theorem dL_law_813 : decode cL_law 813 = .ok (.iconst 2, 1) := by decide +kernel
theorem dL_law_814 : decode cL_law 814 = .ok (.invokevirtual 88, 3) := by decide +kernel
theorem dL_law_817 : decode cL_law 817 = .ok (.iload 6, 2) := by decide +kernel
theorem dL_law_819 : decode cL_law 819 = .ok (.if_icmp .lt 5, 3) := by decide +kernel
theorem dL_law_822 : decode cL_law 822 = .ok (.iconst 0, 1) := by decide +kernel
theorem dL_law_823 : decode cL_law 823 = .ok (.ireturn, 1) := by decide +kernel
theorem dL_law_824 : decode cL_law 824 = .ok (.aload_n 1, 1) := by decide +kernel
theorem dL_law_825 : decode cL_law 825 = .ok (.iconst 2, 1) := by decide +kernel
theorem dL_law_826 : decode cL_law 826 = .ok (.invokevirtual 88, 3) := by decide +kernel
theorem dL_law_829 : decode cL_law 829 = .ok (.istore 10, 2) := by decide +kernel
theorem dL_law_831 : decode cL_law 831 = .ok (.aload_n 1, 1) := by decide +kernel
theorem dL_law_832 : decode cL_law 832 = .ok (.iload 8, 2) := by decide +kernel
theorem dL_law_834 : decode cL_law 834 = .ok (.aload 9, 2) := by decide +kernel
theorem dL_law_836 : decode cL_law 836 = .ok (.iconst 0, 1) := by decide +kernel
theorem dL_law_837 : decode cL_law 837 = .ok (.iaload, 1) := by decide +kernel
theorem dL_law_838 : decode cL_law 838 = .ok (.aload 9, 2) := by decide +kernel
theorem dL_law_840 : decode cL_law 840 = .ok (.iconst 1, 1) := by decide +kernel
theorem dL_law_841 : decode cL_law 841 = .ok (.iaload, 1) := by decide +kernel
theorem dL_law_842 : decode cL_law 842 = .ok (.invokevirtual 68, 3) := by decide +kernel
theorem dL_law_845 : decode cL_law 845 = .ok (.pop, 1) := by decide +kernel
theorem dL_law_846 : decode cL_law 846 = .ok (.aload_n 1, 1) := by decide +kernel
theorem dL_law_847 : decode cL_law 847 = .ok (.iconst 2, 1) := by decide +kernel
theorem dL_law_848 : decode cL_law 848 = .ok (.invokevirtual 88, 3) := by decide +kernel
theorem dL_law_851 : decode cL_law 851 = .ok (.iload 6, 2) := by decide +kernel
theorem dL_law_853 : decode cL_law 853 = .ok (.if_icmp .eq 5, 3) := by decide +kernel
theorem dL_law_856 : decode cL_law 856 = .ok (.iconst 0, 1) := by decide +kernel
theorem dL_law_857 : decode cL_law 857 = .ok (.ireturn, 1) := by decide +kernel
theorem dL_law_858 : decode cL_law 858 = .ok (.iconst 0, 1) := by decide +kernel
theorem dL_law_859 : decode cL_law 859 = .ok (.istore 11, 2) := by decide +kernel
theorem dL_law_861 : decode cL_law 861 = .ok (.iload 11, 2) := by decide +kernel
theorem dL_law_863 : decode cL_law 863 = .ok (.iload 5, 2) := by decide +kernel
theorem dL_law_865 : decode cL_law 865 = .ok (.if_icmp .ge 91, 3) := by decide +kernel
theorem dL_law_868 : decode cL_law 868 = .ok (.aload_n 2, 1) := by decide +kernel
theorem dL_law_869 : decode cL_law 869 = .ok (.getfield 61, 3) := by decide +kernel
theorem dL_law_872 : decode cL_law 872 = .ok (.iload 11, 2) := by decide +kernel
theorem dL_law_874 : decode cL_law 874 = .ok (.aaload, 1) := by decide +kernel
theorem dL_law_875 : decode cL_law 875 = .ok (.astore 12, 2) := by decide +kernel
theorem dL_law_877 : decode cL_law 877 = .ok (.aload 12, 2) := by decide +kernel
theorem dL_law_879 : decode cL_law 879 = .ok (.iconst 0, 1) := by decide +kernel
theorem dL_law_880 : decode cL_law 880 = .ok (.iaload, 1) := by decide +kernel
theorem dL_law_881 : decode cL_law 881 = .ok (.ifCond .ge 6, 3) := by decide +kernel
theorem dL_law_884 : decode cL_law 884 = .ok (.goto 66, 3) := by decide +kernel
theorem dL_law_887 : decode cL_law 887 = .ok (.aload_n 1, 1) := by decide +kernel
theorem dL_law_888 : decode cL_law 888 = .ok (.iload 11, 2) := by decide +kernel
theorem dL_law_890 : decode cL_law 890 = .ok (.invokevirtual 64, 3) := by decide +kernel
theorem dL_law_893 : decode cL_law 893 = .ok (.pop, 1) := by decide +kernel
theorem dL_law_894 : decode cL_law 894 = .ok (.aload_n 1, 1) := by decide +kernel
theorem dL_law_895 : decode cL_law 895 = .ok (.iconst 2, 1) := by decide +kernel
theorem dL_law_896 : decode cL_law 896 = .ok (.invokevirtual 88, 3) := by decide +kernel
theorem dL_law_899 : decode cL_law 899 = .ok (.iload 10, 2) := by decide +kernel
theorem dL_law_901 : decode cL_law 901 = .ok (.if_icmp .lt 20, 3) := by decide +kernel
theorem dL_law_904 : decode cL_law 904 = .ok (.aload_n 1, 1) := by decide +kernel
theorem dL_law_905 : decode cL_law 905 = .ok (.iconst 2, 1) := by decide +kernel
theorem dL_law_906 : decode cL_law 906 = .ok (.invokevirtual 88, 3) := by decide +kernel
theorem dL_law_909 : decode cL_law 909 = .ok (.iload 10, 2) := by decide +kernel
theorem dL_law_911 : decode cL_law 911 = .ok (.if_icmp .ne 14, 3) := by decide +kernel
theorem dL_law_914 : decode cL_law 914 = .ok (.iload 11, 2) := by decide +kernel
theorem dL_law_916 : decode cL_law 916 = .ok (.iload 8, 2) := by decide +kernel
theorem dL_law_918 : decode cL_law 918 = .ok (.if_icmp .ge 7, 3) := by decide +kernel
theorem dL_law_921 : decode cL_law 921 = .ok (.iconst 1, 1) := by decide +kernel
theorem dL_law_922 : decode cL_law 922 = .ok (.goto 4, 3) := by decide +kernel
theorem dL_law_925 : decode cL_law 925 = .ok (.iconst 0, 1) := by decide +kernel
theorem dL_law_926 : decode cL_law 926 = .ok (.istore 13, 2) := by decide +kernel
theorem dL_law_928 : decode cL_law 928 = .ok (.aload_n 1, 1) := by decide +kernel
theorem dL_law_929 : decode cL_law 929 = .ok (.iload 11, 2) := by decide +kernel
theorem dL_law_931 : decode cL_law 931 = .ok (.aload 12, 2) := by decide +kernel
theorem dL_law_933 : decode cL_law 933 = .ok (.iconst 0, 1) := by decide +kernel
theorem dL_law_934 : decode cL_law 934 = .ok (.iaload, 1) := by decide +kernel
theorem dL_law_935 : decode cL_law 935 = .ok (.aload 12, 2) := by decide +kernel
theorem dL_law_937 : decode cL_law 937 = .ok (.iconst 1, 1) := by decide +kernel
theorem dL_law_938 : decode cL_law 938 = .ok (.iaload, 1) := by decide +kernel
theorem dL_law_939 : decode cL_law 939 = .ok (.invokevirtual 68, 3) := by decide +kernel
theorem dL_law_942 : decode cL_law 942 = .ok (.pop, 1) := by decide +kernel
theorem dL_law_943 : decode cL_law 943 = .ok (.iload 13, 2) := by decide +kernel
theorem dL_law_945 : decode cL_law 945 = .ok (.ifCond .eq 5, 3) := by decide +kernel
theorem dL_law_948 : decode cL_law 948 = .ok (.iconst 0, 1) := by decide +kernel
theorem dL_law_949 : decode cL_law 949 = .ok (.ireturn, 1) := by decide +kernel
theorem dL_law_950 : decode cL_law 950 = .ok (.iinc 11 1, 3) := by decide +kernel
theorem dL_law_953 : decode cL_law 953 = .ok (.goto (-92), 3) := by decide +kernel
theorem dL_law_956 : decode cL_law 956 = .ok (.iinc 3 1, 3) := by decide +kernel
theorem dL_law_959 : decode cL_law 959 = .ok (.goto (-937), 3) := by decide +kernel
theorem dL_law_962 : decode cL_law 962 = .ok (.aload_n 2, 1) := by decide +kernel
theorem dL_law_963 : decode cL_law 963 = .ok (.aload_n 1, 1) := by decide +kernel
theorem dL_law_964 : decode cL_law 964 = .ok (.invokevirtual 102, 3) := by decide +kernel
theorem dL_law_967 : decode cL_law 967 = .ok (.ireturn, 1) := by decide +kernel

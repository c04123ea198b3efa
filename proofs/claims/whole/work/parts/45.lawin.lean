theorem mem_places {big : List Cond} (ws : List Cond) (ps : List Nat) (hp : ws = ps.filterMap (fun i => big[i]?)) : ∀ w ∈ ws, w ∈ big := by
  intro w hw
  rw [hp] at hw
  obtain ⟨i, -, hi⟩ := List.mem_filterMap.mp hw
  exact List.mem_of_getElem? hi
set_option maxRecDepth 20000 in
theorem lwi_wsL_law0_r1 : ∀ w ∈ wsL_law0_r1, w ∈ lw_tbl := mem_places _ [51, 52, 37, 541, 542, 41, 744, 53, 54, 55, 56, 57, 58, 59, 60, 38, 111, 85, 86, 39, 112, 95, 96, 40] (by decide +kernel)
set_option maxRecDepth 20000 in
theorem lwi_wsL_law0_r2 : ∀ w ∈ wsL_law0_r2, w ∈ lw_tbl := mem_places _ [113, 114, 62, 63, 64, 84, 66, 67, 68, 69, 70, 88, 89, 90, 91, 97, 98, 99, 100, 102, 103, 543, 544, 545] (by decide +kernel)
set_option maxRecDepth 20000 in
theorem lwi_wsL_law0_r3 : ∀ w ∈ wsL_law0_r3, w ∈ lw_tbl := mem_places _ [546, 549, 550, 551, 552, 553, 267, 268, 36, 269, 270, 271, 272, 273, 274, 275, 45, 132, 133, 134, 135, 65, 343, 344] (by decide +kernel)
set_option maxRecDepth 20000 in
theorem lwi_wsL_law0_r4 : ∀ w ∈ wsL_law0_r4, w ∈ lw_tbl := mem_places _ [345, 346, 347, 349, 10, 350, 351, 353, 11, 354, 157, 158, 356, 358, 12, 359, 206, 160, 46, 161, 573, 574, 575, 576] (by decide +kernel)
set_option maxRecDepth 20000 in
theorem lwi_wsL_law0_r5 : ∀ w ∈ wsL_law0_r5, w ∈ lw_tbl := mem_places _ [547, 548, 577, 579, 16, 580, 569, 570, 571, 572, 360, 361, 362, 363, 364, 365, 366, 367, 368, 370, 13, 371, 372, 373] (by decide +kernel)
set_option maxRecDepth 20000 in
theorem lwi_wsL_law0_r6 : ∀ w ∈ wsL_law0_r6, w ∈ lw_tbl := mem_places _ [374, 375, 47, 391, 392, 393, 394, 395, 396, 397, 398, 400, 401, 402, 403, 404, 406, 14, 407, 148, 149, 150, 151, 246] (by decide +kernel)
set_option maxRecDepth 20000 in
theorem lwi_wsL_law0_r7 : ∀ w ∈ wsL_law0_r7, w ∈ lw_tbl := mem_places _ [212, 48, 213, 214, 215, 216, 581, 582, 583, 584, 585, 587, 17, 588, 589, 590, 591, 592, 594, 18, 595, 596, 597, 598] (by decide +kernel)
set_option maxRecDepth 20000 in
theorem lwi_wsL_law0_r8 : ∀ w ∈ wsL_law0_r8, w ∈ lw_tbl := mem_places _ [599, 601, 19, 602, 603, 605, 20, 606, 607, 609, 21, 610, 611, 612, 613, 408, 409, 410, 411, 412, 413, 414, 415, 417] (by decide +kernel)
set_option maxRecDepth 20000 in
theorem lwi_wsL_law0_r9 : ∀ w ∈ wsL_law0_r9, w ∈ lw_tbl := mem_places _ [418, 419, 420, 144, 145, 146, 147, 614, 615, 616, 617, 421, 422, 423, 424, 425, 426, 427, 428, 432, 49, 429, 430, 431] (by decide +kernel)
set_option maxRecDepth 20000 in
theorem lwi_wsL_law0_r10 : ∀ w ∈ wsL_law0_r10, w ∈ lw_tbl := mem_places _ [448, 449, 450, 451, 618, 619, 620, 621, 452, 453, 454, 455, 456, 457, 458, 460, 461, 462, 463, 101, 140, 142, 2, 143] (by decide +kernel)
set_option maxRecDepth 20000 in
theorem lwi_wsL_law0_r11 : ∀ w ∈ wsL_law0_r11, w ∈ lw_tbl := mem_places _ [152, 153, 154, 155, 159, 622, 623, 624, 625, 626, 628, 22, 629, 634, 630, 632, 23, 633, 464, 465, 466, 467, 468, 469] (by decide +kernel)
set_option maxRecDepth 20000 in
theorem lwi_wsL_law0_r12 : ∀ w ∈ wsL_law0_r12, w ∈ lw_tbl := mem_places _ [470, 263, 264, 265, 266, 472, 473, 474, 475, 181, 182, 183, 184, 635, 636, 637, 638, 476, 477, 478, 479, 480, 481, 482] (by decide +kernel)
set_option maxRecDepth 20000 in
theorem lwi_wsL_law0_r13 : ∀ w ∈ wsL_law0_r13, w ∈ lw_tbl := mem_places _ [639, 640, 641, 642, 483, 484, 485, 486, 487, 488, 489, 242, 244, 6, 245, 162, 164, 3, 165, 166, 167, 168, 169, 170] (by decide +kernel)
set_option maxRecDepth 20000 in
theorem lwi_wsL_law0_r14 : ∀ w ∈ wsL_law0_r14, w ∈ lw_tbl := mem_places _ [171, 172, 173, 174, 175, 176, 136, 138, 1, 139, 189, 190, 191, 192, 247, 249, 7, 250, 251, 253, 8, 254, 255, 256] (by decide +kernel)
set_option maxRecDepth 20000 in
theorem lwi_wsL_law0_r15 : ∀ w ∈ wsL_law0_r15, w ∈ lw_tbl := mem_places _ [257, 258, 260, 261, 262, 643, 644, 645, 646, 647, 649, 24, 650, 651, 653, 25, 654, 655, 656, 658, 26, 659, 660, 662] (by decide +kernel)
set_option maxRecDepth 20000 in
theorem lwi_wsL_law0_r16 : ∀ w ∈ wsL_law0_r16, w ∈ lw_tbl := mem_places _ [27, 663, 664, 666, 28, 667, 668, 670, 29, 671, 672, 674, 30, 675, 490, 491, 492, 493, 494, 495, 496, 676, 677, 678] (by decide +kernel)
set_option maxRecDepth 20000 in
theorem lwi_wsL_law0_r17 : ∀ w ∈ wsL_law0_r17, w ∈ lw_tbl := mem_places _ [679, 497, 498, 499, 500, 501, 502, 503, 234, 235, 236, 237, 680, 681, 682, 683, 684, 686, 31, 687, 504, 505, 506, 507] (by decide +kernel)
set_option maxRecDepth 20000 in
theorem lwi_wsL_law0_r18 : ∀ w ∈ wsL_law0_r18, w ∈ lw_tbl := mem_places _ [508, 509, 510, 688, 689, 690, 691, 692, 694, 32, 695, 511, 512, 513, 514, 515, 516, 517, 198, 200, 4, 201, 202, 203] (by decide +kernel)
set_option maxRecDepth 20000 in
theorem lwi_wsL_law0_r19 : ∀ w ∈ wsL_law0_r19, w ∈ lw_tbl := mem_places _ [204, 205, 128, 130, 0, 131, 207, 208, 209, 210, 211, 217, 218, 219, 220, 221, 222, 223, 224, 225, 226, 227, 228, 229] (by decide +kernel)
set_option maxRecDepth 20000 in
theorem lwi_wsL_law0_r20 : ∀ w ∈ wsL_law0_r20, w ∈ lw_tbl := mem_places _ [696, 697, 698, 699, 700, 702, 33, 703, 704, 706, 34, 707, 708, 710, 35, 711, 124, 125, 126, 127, 177, 178, 179, 180] (by decide +kernel)
set_option maxRecDepth 20000 in
theorem lwi_wsL_law0_r21 : ∀ w ∈ wsL_law0_r21, w ∈ lw_tbl := mem_places _ [712, 713, 714, 715, 518, 519, 520, 521, 522, 523, 524, 526, 528, 15, 529, 716, 717, 718, 719, 530, 531, 532, 533, 534] (by decide +kernel)
set_option maxRecDepth 20000 in
theorem lwi_wsL_law0_r22 : ∀ w ∈ wsL_law0_r22, w ∈ lw_tbl := mem_places _ [535, 536, 537, 538, 539, 540, 720, 721, 722, 723, 724, 725, 726, 727, 728, 730, 731, 733, 732, 50, 185, 186, 187, 188] (by decide +kernel)
set_option maxRecDepth 20000 in
theorem lwi_wsL_law0_r23 : ∀ w ∈ wsL_law0_r23, w ∈ lw_tbl := mem_places _ [734, 735, 736, 737, 193, 194, 195, 196, 197, 230, 231, 232, 233, 238, 240, 5, 241, 738, 739, 740, 741, 742, 743] (by decide +kernel)
theorem lwi_wsX30 : ∀ w ∈ wsX30, w ∈ lw_tbl := by decide +kernel
theorem lwi_wsX40 : ∀ w ∈ wsX40, w ∈ lw_tbl := by decide +kernel
theorem lwi_wsX20 : ∀ w ∈ wsX20, w ∈ lw_tbl := by decide +kernel
theorem lwi_wsX10 : ∀ w ∈ wsX10, w ∈ lw_tbl := by decide +kernel
theorem lwi_wsX00 : ∀ w ∈ wsX00, w ∈ lw_tbl := by decide +kernel
theorem wsL_law_in0 : ∀ w ∈ wsL_law0, w ∈ lw_tbl := fun w h => (List.mem_append.mp h).elim (fun h => (List.mem_append.mp h).elim (fun h => (List.mem_append.mp h).elim (fun h => (List.mem_append.mp h).elim (fun h => (List.mem_append.mp h).elim (fun h => (List.mem_append.mp h).elim (fun h => (List.mem_append.mp h).elim (fun h => lwi_wsL_law0_r1 w h) (fun h => (List.mem_append.mp h).elim (fun h => lwi_wsL_law0_r2 w h) (fun h => (List.mem_append.mp h).elim (fun h => lwi_wsL_law0_r3 w h) (fun h => (List.mem_append.mp h).elim (fun h => lwi_wsL_law0_r4 w h) (fun h => (List.mem_append.mp h).elim (fun h => lwi_wsL_law0_r5 w h) (fun h => (List.mem_append.mp h).elim (fun h => lwi_wsL_law0_r6 w h) (fun h => (List.mem_append.mp h).elim (fun h => lwi_wsL_law0_r7 w h) (fun h => (List.mem_append.mp h).elim (fun h => lwi_wsL_law0_r8 w h) (fun h => (List.mem_append.mp h).elim (fun h => lwi_wsL_law0_r9 w h) (fun h => (List.mem_append.mp h).elim (fun h => lwi_wsL_law0_r10 w h) (fun h => (List.mem_append.mp h).elim (fun h => lwi_wsL_law0_r11 w h) (fun h => (List.mem_append.mp h).elim (fun h => lwi_wsL_law0_r12 w h) (fun h => (List.mem_append.mp h).elim (fun h => lwi_wsL_law0_r13 w h) (fun h => (List.mem_append.mp h).elim (fun h => lwi_wsL_law0_r14 w h) (fun h => (List.mem_append.mp h).elim (fun h => lwi_wsL_law0_r15 w h) (fun h => (List.mem_append.mp h).elim (fun h => lwi_wsL_law0_r16 w h) (fun h => (List.mem_append.mp h).elim (fun h => lwi_wsL_law0_r17 w h) (fun h => (List.mem_append.mp h).elim (fun h => lwi_wsL_law0_r18 w h) (fun h => (List.mem_append.mp h).elim (fun h => lwi_wsL_law0_r19 w h) (fun h => (List.mem_append.mp h).elim (fun h => lwi_wsL_law0_r20 w h) (fun h => (List.mem_append.mp h).elim (fun h => lwi_wsL_law0_r21 w h) (fun h => (List.mem_append.mp h).elim (fun h => lwi_wsL_law0_r22 w h) (fun h => lwi_wsL_law0_r23 w h))))))))))))))))))))))) (fun h => lwi_wsX30 w h)) (fun h => lwi_wsX40 w h)) (fun h => lwi_wsX20 w h)) (fun h => lwi_wsX10 w h)) (fun h => lwi_wsX00 w h)) (fun h => absurd h (List.not_mem_nil))
theorem wsL_law_x0 : ∀ w ∈ (vx_atS RX3 41 "java/lang/IllegalStateException" ["java/lang/RuntimeException", "java/lang/Exception"]).filter goodWord, w ∈ lw_tbl := by decide +kernel
theorem wsL_law_x1 : ∀ w ∈ (vx_atS RX3 172 "java/lang/IndexOutOfBoundsException" ["java/lang/RuntimeException", "java/lang/Exception"]).filter goodWord, w ∈ lw_tbl := by decide +kernel
theorem wsL_law_x2 : ∀ w ∈ (vx_atS RX3 88 "java/lang/IllegalArgumentException" ["java/lang/RuntimeException", "java/lang/Exception"]).filter goodWord, w ∈ lw_tbl := by decide +kernel
theorem wsL_law_in : ∀ w ∈ wsL_law, w ∈ lw_tbl := fun w h => (List.mem_append.mp h).elim (fun h => (List.mem_append.mp h).elim (fun h => (List.mem_append.mp h).elim (fun h => wsL_law_in0 w h) (fun h => wsL_law_x0 w h)) (fun h => wsL_law_x1 w h)) (fun h => wsL_law_x2 w h)
theorem inlX0 : ∀ w ∈ wsX00, w ∈ wsL_law := fun _ h => List.mem_append_left _ (List.mem_append_left _ (List.mem_append_left _ (List.mem_append_left _ (List.mem_append_right _ h))))
theorem inX0 : ∀ w ∈ wsX00, w ∈ lw_tbl := fun w h => wsL_law_in w (inlX0 w h)
theorem inlX1 : ∀ w ∈ wsX10, w ∈ wsL_law := fun _ h => List.mem_append_left _ (List.mem_append_left _ (List.mem_append_left _ (List.mem_append_left _ (List.mem_append_left _ (List.mem_append_right _ h)))))
theorem inX1 : ∀ w ∈ wsX10, w ∈ lw_tbl := fun w h => wsL_law_in w (inlX1 w h)
theorem inlX2 : ∀ w ∈ wsX20, w ∈ wsL_law := fun _ h => List.mem_append_left _ (List.mem_append_left _ (List.mem_append_left _ (List.mem_append_left _ (List.mem_append_left _ (List.mem_append_left _ (List.mem_append_right _ h))))))
theorem inX2 : ∀ w ∈ wsX20, w ∈ lw_tbl := fun w h => wsL_law_in w (inlX2 w h)
theorem inlX3 : ∀ w ∈ wsX30, w ∈ wsL_law := fun _ h => List.mem_append_left _ (List.mem_append_left _ (List.mem_append_left _ (List.mem_append_left _ (List.mem_append_left _ (List.mem_append_left _ (List.mem_append_left _ (List.mem_append_left _ (List.mem_append_right _ h))))))))
theorem inX3 : ∀ w ∈ wsX30, w ∈ lw_tbl := fun w h => wsL_law_in w (inlX3 w h)
theorem inlX4 : ∀ w ∈ wsX40, w ∈ wsL_law := fun _ h => List.mem_append_left _ (List.mem_append_left _ (List.mem_append_left _ (List.mem_append_left _ (List.mem_append_left _ (List.mem_append_left _ (List.mem_append_left _ (List.mem_append_right _ h)))))))
theorem inX4 : ∀ w ∈ wsX40, w ∈ lw_tbl := fun w h => wsL_law_in w (inlX4 w h)
theorem inJx8e188 : ∀ w ∈ wsJx8e1880, w ∈ lw_tbl := by decide +kernel
theorem inJ6 : ∀ w ∈ wsJ60, w ∈ lw_tbl := by decide +kernel
theorem inJ9 : ∀ w ∈ wsJ90, w ∈ lw_tbl := by decide +kernel
theorem inJ0 : ∀ w ∈ wsJ00, w ∈ lw_tbl := by decide +kernel
theorem inJ10 : ∀ w ∈ wsJ100, w ∈ lw_tbl := by decide +kernel

set_option maxRecDepth 20000 in
theorem ggX3_init_X2_init : GoodIn wsX3_init wsX2_init := goodIn_r _ [18, 19, 2, 3, 20, 21, 22, 23, 24, 25, 36, 37, 38, 39, 40, 41] (by decide +kernel) (by decide +kernel)
set_option maxRecDepth 20000 in
theorem gX3_init_X2_init_n9 : GoodIn wsX3_init (wsX2_init) := ggX3_init_X2_init
set_option maxRecDepth 20000 in
theorem ggX3_init_X1_init : GoodIn wsX3_init wsX1_init := goodIn_r _ [27, 28, 2, 3, 20, 29, 46] (by decide +kernel) (by decide +kernel)
set_option maxRecDepth 20000 in
theorem gX3_init_X1_init_n18 : GoodIn wsX3_init (wsX1_init) := ggX3_init_X1_init
set_option maxRecDepth 20000 in
theorem ggX3_init_X0_init : GoodIn wsX3_init wsX0_init := goodIn_r _ [32, 33, 2, 3, 20, 34, 35, 47, 48, 49] (by decide +kernel) (by decide +kernel)
set_option maxRecDepth 20000 in
theorem gX3_init_X0_init : GoodIn wsX3_init (wsX0_init) := ggX3_init_X0_init
theorem dX3_init_0 : decode cX3_init 0 = .ok (.aload_n 0, 1) := by decide +kernel
theorem dX3_init_1 : decode cX3_init 1 = .ok (.invokespecial 1, 3) := by decide +kernel
theorem dX3_init_4 : decode cX3_init 4 = .ok (.aload_n 0, 1) := by decide +kernel
theorem dX3_init_5 : decode cX3_init 5 = .ok (.new 7, 3) := by decide +kernel
theorem dX3_init_8 : decode cX3_init 8 = .ok (.dup, 1) := by decide +kernel
theorem dX3_init_9 : decode cX3_init 9 = .ok (.invokespecial 9, 3) := by decide +kernel
theorem dX3_init_12 : decode cX3_init 12 = .ok (.putfield 10, 3) := by decide +kernel
theorem dX3_init_15 : decode cX3_init 15 = .ok (.aload_n 0, 1) := by decide +kernel
theorem dX3_init_16 : decode cX3_init 16 = .ok (.new 16, 3) := by decide +kernel
theorem dX3_init_19 : decode cX3_init 19 = .ok (.dup, 1) := by decide +kernel
theorem dX3_init_20 : decode cX3_init 20 = .ok (.invokespecial 18, 3) := by decide +kernel
theorem dX3_init_23 : decode cX3_init 23 = .ok (.putfield 19, 3) := by decide +kernel
theorem dX3_init_26 : decode cX3_init 26 = .ok (.aload_n 0, 1) := by decide +kernel
theorem dX3_init_27 : decode cX3_init 27 = .ok (.new 23, 3) := by decide +kernel
theorem dX3_init_30 : decode cX3_init 30 = .ok (.dup, 1) := by decide +kernel
theorem dX3_init_31 : decode cX3_init 31 = .ok (.invokespecial 25, 3) := by decide +kernel
theorem dX3_init_34 : decode cX3_init 34 = .ok (.putfield 26, 3) := by decide +kernel
theorem dX3_init_37 : decode cX3_init 37 = .ok (.aload_n 0, 1) := by decide +kernel
theorem dX3_init_38 : decode cX3_init 38 = .ok (.new 23, 3) := by decide +kernel
theorem dX3_init_41 : decode cX3_init 41 = .ok (.dup, 1) := by decide +kernel
theorem dX3_init_42 : decode cX3_init 42 = .ok (.invokespecial 25, 3) := by decide +kernel
theorem dX3_init_45 : decode cX3_init 45 = .ok (.putfield 30, 3) := by decide +kernel
theorem dX3_init_48 : decode cX3_init 48 = .ok (.return_, 1) := by decide +kernel
set_option maxRecDepth 20000 in
theorem ggX3_find_X2_size : GoodIn wsX3_find wsX2_size := goodIn_r _ [8, 9, 41, 42, 43, 44, 45, 46] (by decide +kernel) (by decide +kernel)
set_option maxRecDepth 20000 in
theorem gX3_find_X2_size : GoodIn wsX3_find (wsV RX3 33 RX2 yX2_size wsX2_size) := goodIn_app (goodIn_of _ (by decide +kernel)) ggX3_find_X2_size
set_option maxRecDepth 20000 in
theorem ggX3_find_X2_addLayer : GoodIn wsX3_find wsX2_addLayer := goodIn_r _ [13, 9, 14, 15, 16, 17, 7, 18, 19, 20, 21, 22, 23, 24, 25, 26, 27, 28, 29, 30, 31, 32, 33, 34, 35, 36, 41, 42, 43, 44, 45, 46] (by decide +kernel) (by decide +kernel)
set_option maxRecDepth 20000 in
theorem gX3_find_X2_addLayer : GoodIn wsX3_find (wsV RX3 44 RX2 yX2_addLayer wsX2_addLayer) := goodIn_app (goodIn_of _ (by decide +kernel)) ggX3_find_X2_addLayer
theorem dX3_find_0 : decode cX3_find 0 = .ok (.aload_n 0, 1) := by decide +kernel
theorem dX3_find_1 : decode cX3_find 1 = .ok (.getfield 10, 3) := by decide +kernel
theorem dX3_find_4 : decode cX3_find 4 = .ok (.invokevirtual 33, 3) := by decide +kernel
theorem dX3_find_7 : decode cX3_find 7 = .ok (.bipush 14, 2) := by decide +kernel
theorem dX3_find_9 : decode cX3_find 9 = .ok (.if_icmp .lt 13, 3) := by decide +kernel
theorem dX3_find_12 : decode cX3_find 12 = .ok (.new 37, 3) := by decide +kernel
theorem dX3_find_15 : decode cX3_find 15 = .ok (.dup, 1) := by decide +kernel
theorem dX3_find_16 : decode cX3_find 16 = .ok (.ldc 39, 2) := by decide +kernel
theorem dX3_find_18 : decode cX3_find 18 = .ok (.invokespecial 41, 3) := by decide +kernel
theorem dX3_find_21 : decode cX3_find 21 = .ok (.athrow, 1) := by decide +kernel
theorem dX3_find_22 : decode cX3_find 22 = .ok (.aload_n 0, 1) := by decide +kernel
theorem dX3_find_23 : decode cX3_find 23 = .ok (.getfield 10, 3) := by decide +kernel
theorem dX3_find_26 : decode cX3_find 26 = .ok (.invokevirtual 44, 3) := by decide +kernel
theorem dX3_find_29 : decode cX3_find 29 = .ok (.ireturn, 1) := by decide +kernel
set_option maxRecDepth 20000 in
theorem ggX3_above_X3_checkLayer : GoodIn wsX3_above wsX3_checkLayer := goodIn_ca (goodIn_r _ [8, 3, 9, 10, 11, 12, 13, 14, 15, 16, 7, 17, 18, 19, 70, 71, 72, 73, 74, 75, 76, 77, 78, 79] (by decide +kernel) (by decide +kernel)) (goodIn_sub (fun _ h => List.mem_cons_of_mem _ (List.mem_append_right _ h)) (by decide +kernel))
set_option maxRecDepth 20000 in
theorem gX3_above_X3_checkLayer : GoodIn wsX3_above (wsV RX3 47 RX3 yX3_checkLayer wsX3_checkLayer) := goodIn_app (goodIn_of _ (by decide +kernel)) ggX3_above_X3_checkLayer
set_option maxRecDepth 20000 in
theorem ggX3_above_X2_refusesAbove : GoodIn wsX3_above wsX2_refusesAbove := goodIn_r _ [23, 24, 25, 7, 26, 27, 28, 29, 12, 30, 31, 74, 75, 76, 77, 78, 79] (by decide +kernel) (by decide +kernel)
set_option maxRecDepth 20000 in
theorem gX3_above_X2_refusesAbove : GoodIn wsX3_above (wsV RX3 51 RX2 yX2_refusesAbove wsX2_refusesAbove) := goodIn_app (goodIn_of _ (by decide +kernel)) ggX3_above_X2_refusesAbove
set_option maxRecDepth 20000 in
theorem ggX3_above_X2_putAbove : GoodIn wsX3_above wsX2_putAbove := goodIn_r _ [35, 24, 36, 31, 37, 38, 39, 12, 40, 14, 25, 7, 26, 41, 42, 43, 44, 45, 46, 47, 48, 49, 50, 51, 52, 53, 54, 55, 56, 57, 58, 74, 75, 76, 77, 78, 79] (by decide +kernel) (by decide +kernel)
set_option maxRecDepth 20000 in
theorem gX3_above_X2_putAbove : GoodIn wsX3_above (wsV RX3 57 RX2 yX2_putAbove wsX2_putAbove) := goodIn_app (goodIn_of _ (by decide +kernel)) ggX3_above_X2_putAbove
set_option maxRecDepth 20000 in
theorem ggX3_above_X2_below : GoodIn wsX3_above wsX2_below := goodIn_r _ [62, 31, 74, 75, 76, 77, 78, 79] (by decide +kernel) (by decide +kernel)
set_option maxRecDepth 20000 in
theorem gX3_above_X2_below : GoodIn wsX3_above (wsV RX3 61 RX2 yX2_below wsX2_below) := goodIn_app (goodIn_of _ (by decide +kernel)) ggX3_above_X2_below
set_option maxRecDepth 20000 in
theorem ggX3_above_J6_bitCount_0f7a4 : GoodIn wsX3_above wsJ6_bitCount_0f7a4 := goodIn_r _ [66, 67, 68, 69] (by decide +kernel) (by decide +kernel)
set_option maxRecDepth 20000 in
theorem gX3_above_J6_bitCount_0f7a4 : GoodIn wsX3_above (va_wsS RX3 65 yJ6_bitCount_0f7a4 wsJ6_bitCount_0f7a4) := goodIn_app (goodIn_of _ (by decide +kernel)) ggX3_above_J6_bitCount_0f7a4
theorem dX3_above_0 : decode cX3_above 0 = .ok (.aload_n 0, 1) := by decide +kernel
theorem dX3_above_1 : decode cX3_above 1 = .ok (.iload_n 1, 1) := by decide +kernel
theorem dX3_above_2 : decode cX3_above 2 = .ok (.invokevirtual 47, 3) := by decide +kernel
theorem dX3_above_5 : decode cX3_above 5 = .ok (.aload_n 0, 1) := by decide +kernel
theorem dX3_above_6 : decode cX3_above 6 = .ok (.iload_n 2, 1) := by decide +kernel
theorem dX3_above_7 : decode cX3_above 7 = .ok (.invokevirtual 47, 3) := by decide +kernel
theorem dX3_above_10 : decode cX3_above 10 = .ok (.aload_n 0, 1) := by decide +kernel
theorem dX3_above_11 : decode cX3_above 11 = .ok (.getfield 10, 3) := by decide +kernel
theorem dX3_above_14 : decode cX3_above 14 = .ok (.iload_n 1, 1) := by decide +kernel
theorem dX3_above_15 : decode cX3_above 15 = .ok (.iload_n 2, 1) := by decide +kernel
theorem dX3_above_16 : decode cX3_above 16 = .ok (.invokevirtual 51, 3) := by decide +kernel
theorem dX3_above_19 : decode cX3_above 19 = .ok (.ifCond .eq 13, 3) := by decide +kernel
theorem dX3_above_22 : decode cX3_above 22 = .ok (.new 37, 3) := by decide +kernel
theorem dX3_above_25 : decode cX3_above 25 = .ok (.dup, 1) := by decide +kernel
theorem dX3_above_26 : decode cX3_above 26 = .ok (.ldc 55, 2) := by decide +kernel
theorem dX3_above_28 : decode cX3_above 28 = .ok (.invokespecial 41, 3) := by decide +kernel
theorem dX3_above_31 : decode cX3_above 31 = .ok (.athrow, 1) := by decide +kernel
theorem dX3_above_32 : decode cX3_above 32 = .ok (.aload_n 0, 1) := by decide +kernel
theorem dX3_above_33 : decode cX3_above 33 = .ok (.getfield 10, 3) := by decide +kernel
theorem dX3_above_36 : decode cX3_above 36 = .ok (.iload_n 1, 1) := by decide +kernel
theorem dX3_above_37 : decode cX3_above 37 = .ok (.iload_n 2, 1) := by decide +kernel
theorem dX3_above_38 : decode cX3_above 38 = .ok (.invokevirtual 57, 3) := by decide +kernel
theorem dX3_above_41 : decode cX3_above 41 = .ok (.aload_n 0, 1) := by decide +kernel
theorem dX3_above_42 : decode cX3_above 42 = .ok (.getfield 10, 3) := by decide +kernel
theorem dX3_above_45 : decode cX3_above 45 = .ok (.iload_n 1, 1) := by decide +kernel
theorem dX3_above_46 : decode cX3_above 46 = .ok (.invokevirtual 61, 3) := by decide +kernel
theorem dX3_above_49 : decode cX3_above 49 = .ok (.invokestatic 65, 3) := by decide +kernel
theorem dX3_above_52 : decode cX3_above 52 = .ok (.ireturn, 1) := by decide +kernel
set_option maxRecDepth 20000 in
theorem ggX3_same_X3_checkLayer : GoodIn wsX3_same wsX3_checkLayer := goodIn_ca (goodIn_r _ [8, 3, 9, 10, 11, 12, 13, 14, 15, 16, 7, 17, 18, 19, 66, 67, 68, 69, 70, 71, 72, 73, 74, 75] (by decide +kernel) (by decide +kernel)) (goodIn_sub (fun _ h => List.mem_cons_of_mem _ (List.mem_append_right _ h)) (by decide +kernel))
set_option maxRecDepth 20000 in
theorem gX3_same_X3_checkLayer : GoodIn wsX3_same (wsV RX3 47 RX3 yX3_checkLayer wsX3_checkLayer) := goodIn_app (goodIn_of _ (by decide +kernel)) ggX3_same_X3_checkLayer
set_option maxRecDepth 20000 in
theorem ggX3_same_X2_isLater : GoodIn wsX3_same wsX2_isLater := goodIn_r _ [23, 24, 25, 7, 26, 70, 71, 72, 73, 74, 75] (by decide +kernel) (by decide +kernel)
set_option maxRecDepth 20000 in
theorem gX3_same_X2_isLater : GoodIn wsX3_same (wsV RX3 70 RX2 yX2_isLater wsX2_isLater) := goodIn_app (goodIn_of _ (by decide +kernel)) ggX3_same_X2_isLater
set_option maxRecDepth 20000 in
theorem ggX3_same_X2_join : GoodIn wsX3_same wsX2_join := goodIn_r _ [30, 31, 24, 32, 14, 25, 7, 26, 33, 34, 35, 12, 36, 37, 38, 39, 40, 41, 42, 43, 44, 45, 46, 47, 48, 49, 50, 51, 52, 53, 54, 70, 71, 72, 73, 74, 75] (by decide +kernel) (by decide +kernel)
set_option maxRecDepth 20000 in
theorem gX3_same_X2_join : GoodIn wsX3_same (wsV RX3 75 RX2 yX2_join wsX2_join) := goodIn_app (goodIn_of _ (by decide +kernel)) ggX3_same_X2_join
set_option maxRecDepth 20000 in
theorem ggX3_same_X2_alike : GoodIn wsX3_same wsX2_alike := goodIn_r _ [58, 31, 70, 71, 72, 73, 74, 75] (by decide +kernel) (by decide +kernel)
set_option maxRecDepth 20000 in
theorem gX3_same_X2_alike : GoodIn wsX3_same (wsV RX3 78 RX2 yX2_alike wsX2_alike) := goodIn_app (goodIn_of _ (by decide +kernel)) ggX3_same_X2_alike
set_option maxRecDepth 20000 in
theorem ggX3_same_J6_bitCount_0f7a4 : GoodIn wsX3_same wsJ6_bitCount_0f7a4 := goodIn_r _ [62, 63, 64, 65] (by decide +kernel) (by decide +kernel)
set_option maxRecDepth 20000 in
theorem gX3_same_J6_bitCount_0f7a4 : GoodIn wsX3_same (va_wsS RX3 65 yJ6_bitCount_0f7a4 wsJ6_bitCount_0f7a4) := goodIn_app (goodIn_of _ (by decide +kernel)) ggX3_same_J6_bitCount_0f7a4
theorem dX3_same_0 : decode cX3_same 0 = .ok (.aload_n 0, 1) := by decide +kernel
theorem dX3_same_1 : decode cX3_same 1 = .ok (.iload_n 1, 1) := by decide +kernel
theorem dX3_same_2 : decode cX3_same 2 = .ok (.invokevirtual 47, 3) := by decide +kernel
theorem dX3_same_5 : decode cX3_same 5 = .ok (.aload_n 0, 1) := by decide +kernel
theorem dX3_same_6 : decode cX3_same 6 = .ok (.iload_n 2, 1) := by decide +kernel
theorem dX3_same_7 : decode cX3_same 7 = .ok (.invokevirtual 47, 3) := by decide +kernel
theorem dX3_same_10 : decode cX3_same 10 = .ok (.aload_n 0, 1) := by decide +kernel
theorem dX3_same_11 : decode cX3_same 11 = .ok (.getfield 10, 3) := by decide +kernel
theorem dX3_same_14 : decode cX3_same 14 = .ok (.iload_n 1, 1) := by decide +kernel
theorem dX3_same_15 : decode cX3_same 15 = .ok (.iload_n 2, 1) := by decide +kernel
theorem dX3_same_16 : decode cX3_same 16 = .ok (.invokevirtual 70, 3) := by decide +kernel
theorem dX3_same_19 : decode cX3_same 19 = .ok (.ifCond .ne 15, 3) := by decide +kernel
theorem dX3_same_22 : decode cX3_same 22 = .ok (.aload_n 0, 1) := by decide +kernel
theorem dX3_same_23 : decode cX3_same 23 = .ok (.getfield 10, 3) := by decide +kernel
theorem dX3_same_26 : decode cX3_same 26 = .ok (.iload_n 2, 1) := by decide +kernel
theorem dX3_same_27 : decode cX3_same 27 = .ok (.iload_n 1, 1) := by decide +kernel
theorem dX3_same_28 : decode cX3_same 28 = .ok (.invokevirtual 70, 3) := by decide +kernel
theorem dX3_same_31 : decode cX3_same 31 = .ok (.ifCond .eq 13, 3) := by decide +kernel
theorem dX3_same_34 : decode cX3_same 34 = .ok (.new 37, 3) := by decide +kernel
theorem dX3_same_37 : decode cX3_same 37 = .ok (.dup, 1) := by decide +kernel
theorem dX3_same_38 : decode cX3_same 38 = .ok (.ldc 73, 2) := by decide +kernel
theorem dX3_same_40 : decode cX3_same 40 = .ok (.invokespecial 41, 3) := by decide +kernel
theorem dX3_same_43 : decode cX3_same 43 = .ok (.athrow, 1) := by decide +kernel
theorem dX3_same_44 : decode cX3_same 44 = .ok (.aload_n 0, 1) := by decide +kernel
theorem dX3_same_45 : decode cX3_same 45 = .ok (.getfield 10, 3) := by decide +kernel
theorem dX3_same_48 : decode cX3_same 48 = .ok (.iload_n 1, 1) := by decide +kernel
theorem dX3_same_49 : decode cX3_same 49 = .ok (.iload_n 2, 1) := by decide +kernel
theorem dX3_same_50 : decode cX3_same 50 = .ok (.invokevirtual 75, 3) := by decide +kernel
theorem dX3_same_53 : decode cX3_same 53 = .ok (.aload_n 0, 1) := by decide +kernel
theorem dX3_same_54 : decode cX3_same 54 = .ok (.getfield 10, 3) := by decide +kernel
theorem dX3_same_57 : decode cX3_same 57 = .ok (.iload_n 1, 1) := by decide +kernel
theorem dX3_same_58 : decode cX3_same 58 = .ok (.invokevirtual 78, 3) := by decide +kernel
theorem dX3_same_61 : decode cX3_same 61 = .ok (.invokestatic 65, 3) := by decide +kernel
theorem dX3_same_64 : decode cX3_same 64 = .ok (.ireturn, 1) := by decide +kernel
set_option maxRecDepth 20000 in
theorem ggX3_sift_X3_checkLayer : GoodIn wsX3_sift wsX3_checkLayer := goodIn_ca (goodIn_r _ [8, 9, 10, 11, 12, 13, 14, 15, 16, 17, 7, 18, 19, 20, 30, 31, 32, 33, 34, 35, 36, 37, 38, 39] (by decide +kernel) (by decide +kernel)) (goodIn_sub (fun _ h => List.mem_cons_of_mem _ (List.mem_append_right _ h)) (by decide +kernel))
set_option maxRecDepth 20000 in
theorem gX3_sift_X3_checkLayer : GoodIn wsX3_sift (wsV RX3 47 RX3 yX3_checkLayer wsX3_checkLayer) := goodIn_app (goodIn_of _ (by decide +kernel)) ggX3_sift_X3_checkLayer
set_option maxRecDepth 20000 in
theorem ggX3_sift_X3_checkKind : GoodIn wsX3_sift wsX3_checkKind := goodIn_ca (goodIn_r _ [23, 16, 17, 7, 18, 19, 20] (by decide +kernel) (by decide +kernel)) (goodIn_sub (fun _ h => List.mem_cons_of_mem _ (List.mem_append_right _ h)) (by decide +kernel))
set_option maxRecDepth 20000 in
theorem gX3_sift_X3_checkKind : GoodIn wsX3_sift (va_wsS RX3 81 yX3_checkKind wsX3_checkKind) := goodIn_app (goodIn_of _ (by decide +kernel)) ggX3_sift_X3_checkKind
set_option maxRecDepth 20000 in
theorem ggX3_sift_X1_put : GoodIn wsX3_sift wsX1_put := goodIn_r _ [28, 29, 40] (by decide +kernel) (by decide +kernel)
set_option maxRecDepth 20000 in
theorem gX3_sift_X1_put : GoodIn wsX3_sift (wsV RX3 89 RX1 yX1_put wsX1_put) := goodIn_app (goodIn_of _ (by decide +kernel)) ggX3_sift_X1_put
theorem dX3_sift_0 : decode cX3_sift 0 = .ok (.aload_n 0, 1) := by decide +kernel
theorem dX3_sift_1 : decode cX3_sift 1 = .ok (.iload_n 1, 1) := by decide +kernel
theorem dX3_sift_2 : decode cX3_sift 2 = .ok (.invokevirtual 47, 3) := by decide +kernel
theorem dX3_sift_5 : decode cX3_sift 5 = .ok (.iload_n 2, 1) := by decide +kernel
theorem dX3_sift_6 : decode cX3_sift 6 = .ok (.invokestatic 81, 3) := by decide +kernel
theorem dX3_sift_9 : decode cX3_sift 9 = .ok (.iload_n 3, 1) := by decide +kernel
theorem dX3_sift_10 : decode cX3_sift 10 = .ok (.ifCond .lt 9, 3) := by decide +kernel
theorem dX3_sift_13 : decode cX3_sift 13 = .ok (.iload_n 3, 1) := by decide +kernel
theorem dX3_sift_14 : decode cX3_sift 14 = .ok (.bipush 99, 2) := by decide +kernel
theorem dX3_sift_16 : decode cX3_sift 16 = .ok (.if_icmp .le 13, 3) := by decide +kernel
theorem dX3_sift_19 : decode cX3_sift 19 = .ok (.new 84, 3) := by decide +kernel
theorem dX3_sift_22 : decode cX3_sift 22 = .ok (.dup, 1) := by decide +kernel
theorem dX3_sift_23 : decode cX3_sift 23 = .ok (.ldc 86, 2) := by decide +kernel
theorem dX3_sift_25 : decode cX3_sift 25 = .ok (.invokespecial 88, 3) := by decide +kernel
theorem dX3_sift_28 : decode cX3_sift 28 = .ok (.athrow, 1) := by decide +kernel
theorem dX3_sift_29 : decode cX3_sift 29 = .ok (.aload_n 0, 1) := by decide +kernel
theorem dX3_sift_30 : decode cX3_sift 30 = .ok (.getfield 19, 3) := by decide +kernel
theorem dX3_sift_33 : decode cX3_sift 33 = .ok (.iload_n 1, 1) := by decide +kernel
theorem dX3_sift_34 : decode cX3_sift 34 = .ok (.iload_n 2, 1) := by decide +kernel
theorem dX3_sift_35 : decode cX3_sift 35 = .ok (.iload_n 3, 1) := by decide +kernel
theorem dX3_sift_36 : decode cX3_sift 36 = .ok (.invokevirtual 89, 3) := by decide +kernel
theorem dX3_sift_39 : decode cX3_sift 39 = .ok (.ireturn, 1) := by decide +kernel
set_option maxRecDepth 20000 in
theorem ggX3_hearth_X3_checkLayer : GoodIn wsX3_hearth wsX3_checkLayer := goodIn_ca (goodIn_r _ [8, 9, 10, 11, 12, 13, 14, 15, 16, 17, 7, 18, 19, 20, 53, 54, 55, 56, 57, 58, 59, 60, 61, 62] (by decide +kernel) (by decide +kernel)) (goodIn_sub (fun _ h => List.mem_cons_of_mem _ (List.mem_append_right _ h)) (by decide +kernel))
set_option maxRecDepth 20000 in
theorem gX3_hearth_X3_checkLayer : GoodIn wsX3_hearth (wsV RX3 47 RX3 yX3_checkLayer wsX3_checkLayer) := goodIn_app (goodIn_of _ (by decide +kernel)) ggX3_hearth_X3_checkLayer
set_option maxRecDepth 20000 in
theorem ggX3_hearth_X0_put : GoodIn wsX3_hearth wsX0_put := goodIn_r _ [25, 26, 27, 28, 63, 64, 65] (by decide +kernel) (by decide +kernel)
set_option maxRecDepth 20000 in
theorem gX3_hearth_X0_put : GoodIn wsX3_hearth (wsV RX3 95 RX0 yX0_put wsX0_put) := goodIn_app (goodIn_of _ (by decide +kernel)) ggX3_hearth_X0_put
set_option maxRecDepth 20000 in
theorem ggX3_hearth_X3_firstYear : GoodIn wsX3_hearth wsX3_firstYear := goodIn_r _ [32, 9, 33, 34, 35, 13, 36, 37, 38, 39, 40, 41, 42, 43, 44, 45, 24, 46, 27, 47, 48, 49, 50, 51, 7, 52, 53, 54, 55, 56, 57, 58, 59, 60, 61, 62, 63, 64, 65] (by decide +kernel) (by decide +kernel)
set_option maxRecDepth 20000 in
theorem gX3_hearth_X3_firstYear : GoodIn wsX3_hearth (wsV RX3 98 RX3 yX3_firstYear wsX3_firstYear) := goodIn_app (goodIn_of _ (by decide +kernel)) ggX3_hearth_X3_firstYear
theorem dX3_hearth_0 : decode cX3_hearth 0 = .ok (.aload_n 0, 1) := by decide +kernel
theorem dX3_hearth_1 : decode cX3_hearth 1 = .ok (.iload_n 1, 1) := by decide +kernel
theorem dX3_hearth_2 : decode cX3_hearth 2 = .ok (.invokevirtual 47, 3) := by decide +kernel
theorem dX3_hearth_5 : decode cX3_hearth 5 = .ok (.iload_n 2, 1) := by decide +kernel
theorem dX3_hearth_6 : decode cX3_hearth 6 = .ok (.ifCond .lt 15, 3) := by decide +kernel
theorem dX3_hearth_9 : decode cX3_hearth 9 = .ok (.iload_n 3, 1) := by decide +kernel
theorem dX3_hearth_10 : decode cX3_hearth 10 = .ok (.sipush 9999, 3) := by decide +kernel
theorem dX3_hearth_13 : decode cX3_hearth 13 = .ok (.if_icmp .gt 8, 3) := by decide +kernel
theorem dX3_hearth_16 : decode cX3_hearth 16 = .ok (.iload_n 2, 1) := by decide +kernel
theorem dX3_hearth_17 : decode cX3_hearth 17 = .ok (.iload_n 3, 1) := by decide +kernel
theorem dX3_hearth_18 : decode cX3_hearth 18 = .ok (.if_icmp .le 13, 3) := by decide +kernel
theorem dX3_hearth_21 : decode cX3_hearth 21 = .ok (.new 84, 3) := by decide +kernel
theorem dX3_hearth_24 : decode cX3_hearth 24 = .ok (.dup, 1) := by decide +kernel
theorem dX3_hearth_25 : decode cX3_hearth 25 = .ok (.ldc 93, 2) := by decide +kernel
theorem dX3_hearth_27 : decode cX3_hearth 27 = .ok (.invokespecial 88, 3) := by decide +kernel
theorem dX3_hearth_30 : decode cX3_hearth 30 = .ok (.athrow, 1) := by decide +kernel
theorem dX3_hearth_31 : decode cX3_hearth 31 = .ok (.aload_n 0, 1) := by decide +kernel
theorem dX3_hearth_32 : decode cX3_hearth 32 = .ok (.getfield 26, 3) := by decide +kernel
theorem dX3_hearth_35 : decode cX3_hearth 35 = .ok (.iload_n 1, 1) := by decide +kernel
theorem dX3_hearth_36 : decode cX3_hearth 36 = .ok (.iload_n 2, 1) := by decide +kernel
theorem dX3_hearth_37 : decode cX3_hearth 37 = .ok (.iload_n 3, 1) := by decide +kernel
theorem dX3_hearth_38 : decode cX3_hearth 38 = .ok (.invokevirtual 95, 3) := by decide +kernel
theorem dX3_hearth_41 : decode cX3_hearth 41 = .ok (.aload_n 0, 1) := by decide +kernel
theorem dX3_hearth_42 : decode cX3_hearth 42 = .ok (.aload_n 0, 1) := by decide +kernel
theorem dX3_hearth_43 : decode cX3_hearth 43 = .ok (.getfield 26, 3) := by decide +kernel
theorem dX3_hearth_46 : decode cX3_hearth 46 = .ok (.iload_n 1, 1) := by decide +kernel
theorem dX3_hearth_47 : decode cX3_hearth 47 = .ok (.invokevirtual 98, 3) := by decide +kernel
theorem dX3_hearth_50 : decode cX3_hearth 50 = .ok (.ireturn, 1) := by decide +kernel
set_option maxRecDepth 20000 in
theorem ggX3_clear_X3_checkLayer : GoodIn wsX3_clear wsX3_checkLayer := goodIn_ca (goodIn_r _ [8, 9, 10, 11, 12, 13, 14, 15, 16, 17, 7, 18, 19, 20, 39, 40, 41, 42, 43, 44, 45, 46, 47, 48] (by decide +kernel) (by decide +kernel)) (goodIn_sub (fun _ h => List.mem_cons_of_mem _ (List.mem_append_right _ h)) (by decide +kernel))
set_option maxRecDepth 20000 in
theorem gX3_clear_X3_checkLayer : GoodIn wsX3_clear (wsV RX3 47 RX3 yX3_checkLayer wsX3_checkLayer) := goodIn_app (goodIn_of _ (by decide +kernel)) ggX3_clear_X3_checkLayer
set_option maxRecDepth 20000 in
theorem ggX3_clear_X0_isAt : GoodIn wsX3_clear wsX0_isAt := goodIn_r _ [25, 26, 27, 7, 28, 49, 50, 51] (by decide +kernel) (by decide +kernel)
set_option maxRecDepth 20000 in
theorem gX3_clear_X0_isAt : GoodIn wsX3_clear (wsV RX3 102 RX0 yX0_isAt wsX0_isAt) := goodIn_app (goodIn_of _ (by decide +kernel)) ggX3_clear_X0_isAt
set_option maxRecDepth 20000 in
theorem ggX3_clear_X0_firstAt : GoodIn wsX3_clear wsX0_firstAt := goodIn_r _ [32, 33, 49, 50, 51] (by decide +kernel) (by decide +kernel)
set_option maxRecDepth 20000 in
theorem gX3_clear_X0_firstAt : GoodIn wsX3_clear (wsV RX3 108 RX0 yX0_firstAt wsX0_firstAt) := goodIn_app (goodIn_of _ (by decide +kernel)) ggX3_clear_X0_firstAt
set_option maxRecDepth 20000 in
theorem ggX3_clear_X0_take : GoodIn wsX3_clear wsX0_take := goodIn_r _ [37, 26, 33, 38, 49, 50, 51] (by decide +kernel) (by decide +kernel)
set_option maxRecDepth 20000 in
theorem gX3_clear_X0_take : GoodIn wsX3_clear (wsV RX3 111 RX0 yX0_take wsX0_take) := goodIn_app (goodIn_of _ (by decide +kernel)) ggX3_clear_X0_take
theorem dX3_clear_0 : decode cX3_clear 0 = .ok (.aload_n 0, 1) := by decide +kernel
theorem dX3_clear_1 : decode cX3_clear 1 = .ok (.iload_n 1, 1) := by decide +kernel
theorem dX3_clear_2 : decode cX3_clear 2 = .ok (.invokevirtual 47, 3) := by decide +kernel
theorem dX3_clear_5 : decode cX3_clear 5 = .ok (.aload_n 0, 1) := by decide +kernel
theorem dX3_clear_6 : decode cX3_clear 6 = .ok (.getfield 26, 3) := by decide +kernel
theorem dX3_clear_9 : decode cX3_clear 9 = .ok (.iload_n 1, 1) := by decide +kernel
theorem dX3_clear_10 : decode cX3_clear 10 = .ok (.invokevirtual 102, 3) := by decide +kernel
theorem dX3_clear_13 : decode cX3_clear 13 = .ok (.ifCond .ne 13, 3) := by decide +kernel
theorem dX3_clear_16 : decode cX3_clear 16 = .ok (.new 37, 3) := by decide +kernel
theorem dX3_clear_19 : decode cX3_clear 19 = .ok (.dup, 1) := by decide +kernel
theorem dX3_clear_20 : decode cX3_clear 20 = .ok (.ldc 106, 2) := by decide +kernel
theorem dX3_clear_22 : decode cX3_clear 22 = .ok (.invokespecial 41, 3) := by decide +kernel
theorem dX3_clear_25 : decode cX3_clear 25 = .ok (.athrow, 1) := by decide +kernel
theorem dX3_clear_26 : decode cX3_clear 26 = .ok (.aload_n 0, 1) := by decide +kernel
theorem dX3_clear_27 : decode cX3_clear 27 = .ok (.getfield 26, 3) := by decide +kernel
theorem dX3_clear_30 : decode cX3_clear 30 = .ok (.iload_n 1, 1) := by decide +kernel
theorem dX3_clear_31 : decode cX3_clear 31 = .ok (.invokevirtual 108, 3) := by decide +kernel
theorem dX3_clear_34 : decode cX3_clear 34 = .ok (.istore_n 2, 1) := by decide +kernel
theorem dX3_clear_35 : decode cX3_clear 35 = .ok (.aload_n 0, 1) := by decide +kernel
theorem dX3_clear_36 : decode cX3_clear 36 = .ok (.getfield 26, 3) := by decide +kernel
theorem dX3_clear_39 : decode cX3_clear 39 = .ok (.iload_n 1, 1) := by decide +kernel
theorem dX3_clear_40 : decode cX3_clear 40 = .ok (.invokevirtual 111, 3) := by decide +kernel
theorem dX3_clear_43 : decode cX3_clear 43 = .ok (.iload_n 2, 1) := by decide +kernel
theorem dX3_clear_44 : decode cX3_clear 44 = .ok (.ireturn, 1) := by decide +kernel
set_option maxRecDepth 20000 in
theorem ggX3_later_X3_checkLayer : GoodIn wsX3_later wsX3_checkLayer := goodIn_ca (goodIn_r _ [6, 1, 7, 8, 9, 10, 11, 12, 13, 14, 5, 15, 16, 17, 25, 26, 27, 28, 29, 30, 31, 32, 33, 34] (by decide +kernel) (by decide +kernel)) (goodIn_sub (fun _ h => List.mem_cons_of_mem _ (List.mem_append_right _ h)) (by decide +kernel))
set_option maxRecDepth 20000 in
theorem gX3_later_X3_checkLayer : GoodIn wsX3_later (wsV RX3 47 RX3 yX3_checkLayer wsX3_checkLayer) := goodIn_app (goodIn_of _ (by decide +kernel)) ggX3_later_X3_checkLayer
set_option maxRecDepth 20000 in
theorem ggX3_later_X2_isLater : GoodIn wsX3_later wsX2_isLater := goodIn_r _ [21, 22, 23, 5, 24, 29, 30, 31, 32, 33, 34] (by decide +kernel) (by decide +kernel)
set_option maxRecDepth 20000 in
theorem gX3_later_X2_isLater : GoodIn wsX3_later (wsV RX3 70 RX2 yX2_isLater wsX2_isLater) := goodIn_app (goodIn_of _ (by decide +kernel)) ggX3_later_X2_isLater
theorem dX3_later_0 : decode cX3_later 0 = .ok (.aload_n 0, 1) := by decide +kernel
theorem dX3_later_1 : decode cX3_later 1 = .ok (.iload_n 1, 1) := by decide +kernel
theorem dX3_later_2 : decode cX3_later 2 = .ok (.invokevirtual 47, 3) := by decide +kernel
theorem dX3_later_5 : decode cX3_later 5 = .ok (.aload_n 0, 1) := by decide +kernel
theorem dX3_later_6 : decode cX3_later 6 = .ok (.iload_n 2, 1) := by decide +kernel
theorem dX3_later_7 : decode cX3_later 7 = .ok (.invokevirtual 47, 3) := by decide +kernel
theorem dX3_later_10 : decode cX3_later 10 = .ok (.aload_n 0, 1) := by decide +kernel
theorem dX3_later_11 : decode cX3_later 11 = .ok (.getfield 10, 3) := by decide +kernel
theorem dX3_later_14 : decode cX3_later 14 = .ok (.iload_n 1, 1) := by decide +kernel
theorem dX3_later_15 : decode cX3_later 15 = .ok (.iload_n 2, 1) := by decide +kernel
theorem dX3_later_16 : decode cX3_later 16 = .ok (.invokevirtual 70, 3) := by decide +kernel
theorem dX3_later_19 : decode cX3_later 19 = .ok (.ireturn, 1) := by decide +kernel
set_option maxRecDepth 20000 in
theorem ggX3_told_X3_checkLayer : GoodIn wsX3_told wsX3_checkLayer := goodIn_ca (goodIn_r _ [5, 6, 7, 8, 9, 10, 11, 12, 13, 14, 4, 15, 16, 17, 105, 106, 107, 108, 109, 110, 111, 112, 113, 114] (by decide +kernel) (by decide +kernel)) (goodIn_sub (fun _ h => List.mem_cons_of_mem _ (List.mem_append_right _ h)) (by decide +kernel))
set_option maxRecDepth 20000 in
theorem gX3_told_X3_checkLayer : GoodIn wsX3_told (wsV RX3 47 RX3 yX3_checkLayer wsX3_checkLayer) := goodIn_app (goodIn_of _ (by decide +kernel)) ggX3_told_X3_checkLayer
set_option maxRecDepth 20000 in
theorem ggX3_told_X3_checkIndex : GoodIn wsX3_told wsX3_checkIndex := goodIn_ca (goodIn_r _ [15, 16, 17] (by decide +kernel) (by decide +kernel)) (goodIn_sub (fun _ h => List.mem_cons_of_mem _ (List.mem_append_right _ h)) (by decide +kernel))
set_option maxRecDepth 20000 in
theorem gX3_told_X3_checkIndex : GoodIn wsX3_told (va_wsS RX3 114 yX3_checkIndex wsX3_checkIndex) := goodIn_app (goodIn_of _ (by decide +kernel)) ggX3_told_X3_checkIndex
set_option maxRecDepth 20000 in
theorem ggX3_told_X3_toldOf : GoodIn wsX3_told wsX3_toldOf := goodIn_r _ [21, 22, 6, 23, 24, 25, 4, 26, 27, 28, 29, 10, 30, 31, 32, 33, 34, 35, 36, 37, 38, 39, 40, 41, 42, 43, 44, 45, 46, 47, 48, 49, 50, 51, 52, 53, 54, 55, 56, 57, 58, 59, 60, 61, 62, 63, 64, 65, 66, 67, 68, 69, 70, 71, 72, 73, 74, 75, 76, 77, 78, 79, 80, 81, 82, 83, 84, 85, 86, 87, 88, 89, 90, 91, 92, 93, 94, 95, 96, 97, 98, 99, 100, 101, 102, 103, 104, 105, 106, 107, 108, 109, 110, 111, 112, 113, 114, 115, 116, 117, 118] (by decide +kernel) (by decide +kernel)
set_option maxRecDepth 20000 in
theorem gX3_told_X3_toldOf : GoodIn wsX3_told (wsV RX3 117 RX3 yX3_toldOf wsX3_toldOf) := goodIn_app (goodIn_of _ (by decide +kernel)) ggX3_told_X3_toldOf
theorem dX3_told_0 : decode cX3_told 0 = .ok (.aload_n 0, 1) := by decide +kernel
theorem dX3_told_1 : decode cX3_told 1 = .ok (.iload_n 1, 1) := by decide +kernel
theorem dX3_told_2 : decode cX3_told 2 = .ok (.invokevirtual 47, 3) := by decide +kernel
theorem dX3_told_5 : decode cX3_told 5 = .ok (.iload_n 2, 1) := by decide +kernel
theorem dX3_told_6 : decode cX3_told 6 = .ok (.bipush 9, 2) := by decide +kernel
theorem dX3_told_8 : decode cX3_told 8 = .ok (.invokestatic 114, 3) := by decide +kernel
theorem dX3_told_11 : decode cX3_told 11 = .ok (.aload_n 0, 1) := by decide +kernel
theorem dX3_told_12 : decode cX3_told 12 = .ok (.iload_n 1, 1) := by decide +kernel
theorem dX3_told_13 : decode cX3_told 13 = .ok (.iload_n 2, 1) := by decide +kernel
theorem dX3_told_14 : decode cX3_told 14 = .ok (.invokevirtual 117, 3) := by decide +kernel
theorem dX3_told_17 : decode cX3_told 17 = .ok (.ireturn, 1) := by decide +kernel
set_option maxRecDepth 20000 in
theorem ggX3_finds_X3_checkLayer : GoodIn wsX3_finds wsX3_checkLayer := goodIn_ca (goodIn_r _ [5, 6, 7, 8, 9, 10, 11, 12, 13, 14, 4, 15, 16, 17, 39, 40, 41, 42, 43, 44, 45, 46, 47, 48] (by decide +kernel) (by decide +kernel)) (goodIn_sub (fun _ h => List.mem_cons_of_mem _ (List.mem_append_right _ h)) (by decide +kernel))
set_option maxRecDepth 20000 in
theorem gX3_finds_X3_checkLayer : GoodIn wsX3_finds (wsV RX3 47 RX3 yX3_checkLayer wsX3_checkLayer) := goodIn_app (goodIn_of _ (by decide +kernel)) ggX3_finds_X3_checkLayer
set_option maxRecDepth 20000 in
theorem ggX3_finds_X3_checkKind : GoodIn wsX3_finds wsX3_checkKind := goodIn_ca (goodIn_r _ [20, 13, 14, 4, 15, 16, 17] (by decide +kernel) (by decide +kernel)) (goodIn_sub (fun _ h => List.mem_cons_of_mem _ (List.mem_append_right _ h)) (by decide +kernel))
set_option maxRecDepth 20000 in
theorem gX3_finds_X3_checkKind : GoodIn wsX3_finds (va_wsS RX3 81 yX3_checkKind wsX3_checkKind) := goodIn_app (goodIn_of _ (by decide +kernel)) ggX3_finds_X3_checkKind
set_option maxRecDepth 20000 in
theorem ggX3_finds_X3_findsOf : GoodIn wsX3_finds wsX3_findsOf := goodIn_r _ [24, 25, 6, 26, 27, 28, 10, 29, 30, 31, 32, 33, 34, 35, 36, 37, 4, 38, 39, 40, 41, 42, 43, 44, 45, 46, 47, 48, 49] (by decide +kernel) (by decide +kernel)
set_option maxRecDepth 20000 in
theorem gX3_finds_X3_findsOf : GoodIn wsX3_finds (wsV RX3 121 RX3 yX3_findsOf wsX3_findsOf) := goodIn_app (goodIn_of _ (by decide +kernel)) ggX3_finds_X3_findsOf
theorem dX3_finds_0 : decode cX3_finds 0 = .ok (.aload_n 0, 1) := by decide +kernel
theorem dX3_finds_1 : decode cX3_finds 1 = .ok (.iload_n 1, 1) := by decide +kernel
theorem dX3_finds_2 : decode cX3_finds 2 = .ok (.invokevirtual 47, 3) := by decide +kernel
theorem dX3_finds_5 : decode cX3_finds 5 = .ok (.iload_n 2, 1) := by decide +kernel
theorem dX3_finds_6 : decode cX3_finds 6 = .ok (.invokestatic 81, 3) := by decide +kernel
theorem dX3_finds_9 : decode cX3_finds 9 = .ok (.aload_n 0, 1) := by decide +kernel
theorem dX3_finds_10 : decode cX3_finds 10 = .ok (.iload_n 1, 1) := by decide +kernel
theorem dX3_finds_11 : decode cX3_finds 11 = .ok (.iload_n 2, 1) := by decide +kernel
theorem dX3_finds_12 : decode cX3_finds 12 = .ok (.invokevirtual 121, 3) := by decide +kernel
theorem dX3_finds_15 : decode cX3_finds 15 = .ok (.ireturn, 1) := by decide +kernel
set_option maxRecDepth 20000 in
theorem ggX3_order_X2_size : GoodIn wsX3_order wsX2_size := goodIn_r _ [6, 7, 23, 24, 25, 26, 27, 28] (by decide +kernel) (by decide +kernel)
set_option maxRecDepth 20000 in
theorem gX3_order_X2_size : GoodIn wsX3_order (wsV RX3 33 RX2 yX2_size wsX2_size) := goodIn_app (goodIn_of _ (by decide +kernel)) ggX3_order_X2_size
set_option maxRecDepth 20000 in
theorem ggX3_order_X3_checkIndex : GoodIn wsX3_order wsX3_checkIndex := goodIn_ca (goodIn_r _ [11, 12, 13] (by decide +kernel) (by decide +kernel)) (goodIn_sub (fun _ h => List.mem_cons_of_mem _ (List.mem_append_right _ h)) (by decide +kernel))
set_option maxRecDepth 20000 in
theorem gX3_order_X3_checkIndex : GoodIn wsX3_order (va_wsS RX3 114 yX3_checkIndex wsX3_checkIndex) := goodIn_app (goodIn_of _ (by decide +kernel)) ggX3_order_X3_checkIndex
set_option maxRecDepth 20000 in
theorem ggX3_order_X2_placed : GoodIn wsX3_order wsX2_placed := goodIn_r _ [17, 18, 23, 24, 25, 26, 27, 28] (by decide +kernel) (by decide +kernel)
set_option maxRecDepth 20000 in
theorem gX3_order_X2_placed : GoodIn wsX3_order (wsV RX3 124 RX2 yX2_placed wsX2_placed) := goodIn_app (goodIn_of _ (by decide +kernel)) ggX3_order_X2_placed
theorem dX3_order_0 : decode cX3_order 0 = .ok (.iload_n 1, 1) := by decide +kernel
theorem dX3_order_1 : decode cX3_order 1 = .ok (.aload_n 0, 1) := by decide +kernel
theorem dX3_order_2 : decode cX3_order 2 = .ok (.getfield 10, 3) := by decide +kernel
theorem dX3_order_5 : decode cX3_order 5 = .ok (.invokevirtual 33, 3) := by decide +kernel
theorem dX3_order_8 : decode cX3_order 8 = .ok (.invokestatic 114, 3) := by decide +kernel
theorem dX3_order_11 : decode cX3_order 11 = .ok (.aload_n 0, 1) := by decide +kernel
theorem dX3_order_12 : decode cX3_order 12 = .ok (.getfield 10, 3) := by decide +kernel
theorem dX3_order_15 : decode cX3_order 15 = .ok (.iload_n 1, 1) := by decide +kernel
theorem dX3_order_16 : decode cX3_order 16 = .ok (.invokevirtual 124, 3) := by decide +kernel
theorem dX3_order_19 : decode cX3_order 19 = .ok (.ireturn, 1) := by decide +kernel
set_option maxRecDepth 20000 in
theorem ggX3_between_X3_checkLayer : GoodIn wsX3_between wsX3_checkLayer := goodIn_ca (goodIn_r _ [6, 1, 7, 8, 9, 10, 11, 12, 13, 14, 5, 15, 16, 17, 41, 42, 43, 44, 45, 46, 47, 48, 49, 50] (by decide +kernel) (by decide +kernel)) (goodIn_sub (fun _ h => List.mem_cons_of_mem _ (List.mem_append_right _ h)) (by decide +kernel))
set_option maxRecDepth 20000 in
theorem gX3_between_X3_checkLayer : GoodIn wsX3_between (wsV RX3 47 RX3 yX3_checkLayer wsX3_checkLayer) := goodIn_app (goodIn_of _ (by decide +kernel)) ggX3_between_X3_checkLayer
set_option maxRecDepth 20000 in
theorem ggX3_between_X2_isLater : GoodIn wsX3_between wsX2_isLater := goodIn_r _ [21, 22, 23, 5, 24, 45, 46, 47, 48, 49, 50] (by decide +kernel) (by decide +kernel)
set_option maxRecDepth 20000 in
theorem gX3_between_X2_isLater : GoodIn wsX3_between (wsV RX3 70 RX2 yX2_isLater wsX2_isLater) := goodIn_app (goodIn_of _ (by decide +kernel)) ggX3_between_X2_isLater
set_option maxRecDepth 20000 in
theorem ggX3_between_X2_below : GoodIn wsX3_between wsX2_below := goodIn_r _ [28, 22, 45, 46, 47, 48, 49, 50] (by decide +kernel) (by decide +kernel)
set_option maxRecDepth 20000 in
theorem gX3_between_X2_below : GoodIn wsX3_between (wsV RX3 61 RX2 yX2_below wsX2_below) := goodIn_app (goodIn_of _ (by decide +kernel)) ggX3_between_X2_below
set_option maxRecDepth 20000 in
theorem ggX3_between_X2_onTop : GoodIn wsX3_between wsX2_onTop := goodIn_r _ [32, 33, 45, 46, 47, 48, 49, 50] (by decide +kernel) (by decide +kernel)
set_option maxRecDepth 20000 in
theorem gX3_between_X2_onTop : GoodIn wsX3_between (wsV RX3 127 RX2 yX2_onTop wsX2_onTop) := goodIn_app (goodIn_of _ (by decide +kernel)) ggX3_between_X2_onTop
set_option maxRecDepth 20000 in
theorem ggX3_between_J6_bitCount_0f7a4 : GoodIn wsX3_between wsJ6_bitCount_0f7a4 := goodIn_r _ [37, 38, 39, 40] (by decide +kernel) (by decide +kernel)
set_option maxRecDepth 20000 in
theorem gX3_between_J6_bitCount_0f7a4 : GoodIn wsX3_between (va_wsS RX3 65 yJ6_bitCount_0f7a4 wsJ6_bitCount_0f7a4) := goodIn_app (goodIn_of _ (by decide +kernel)) ggX3_between_J6_bitCount_0f7a4
theorem dX3_between_0 : decode cX3_between 0 = .ok (.aload_n 0, 1) := by decide +kernel
theorem dX3_between_1 : decode cX3_between 1 = .ok (.iload_n 1, 1) := by decide +kernel
theorem dX3_between_2 : decode cX3_between 2 = .ok (.invokevirtual 47, 3) := by decide +kernel
theorem dX3_between_5 : decode cX3_between 5 = .ok (.aload_n 0, 1) := by decide +kernel
theorem dX3_between_6 : decode cX3_between 6 = .ok (.iload_n 2, 1) := by decide +kernel
theorem dX3_between_7 : decode cX3_between 7 = .ok (.invokevirtual 47, 3) := by decide +kernel
theorem dX3_between_10 : decode cX3_between 10 = .ok (.aload_n 0, 1) := by decide +kernel
theorem dX3_between_11 : decode cX3_between 11 = .ok (.getfield 10, 3) := by decide +kernel
theorem dX3_between_14 : decode cX3_between 14 = .ok (.iload_n 1, 1) := by decide +kernel
theorem dX3_between_15 : decode cX3_between 15 = .ok (.iload_n 2, 1) := by decide +kernel
theorem dX3_between_16 : decode cX3_between 16 = .ok (.invokevirtual 70, 3) := by decide +kernel
theorem dX3_between_19 : decode cX3_between 19 = .ok (.ifCond .eq 24, 3) := by decide +kernel
theorem dX3_between_22 : decode cX3_between 22 = .ok (.aload_n 0, 1) := by decide +kernel
theorem dX3_between_23 : decode cX3_between 23 = .ok (.getfield 10, 3) := by decide +kernel
theorem dX3_between_26 : decode cX3_between 26 = .ok (.iload_n 1, 1) := by decide +kernel
theorem dX3_between_27 : decode cX3_between 27 = .ok (.invokevirtual 61, 3) := by decide +kernel
theorem dX3_between_30 : decode cX3_between 30 = .ok (.aload_n 0, 1) := by decide +kernel
theorem dX3_between_31 : decode cX3_between 31 = .ok (.getfield 10, 3) := by decide +kernel
theorem dX3_between_34 : decode cX3_between 34 = .ok (.iload_n 2, 1) := by decide +kernel
theorem dX3_between_35 : decode cX3_between 35 = .ok (.invokevirtual 127, 3) := by decide +kernel
theorem dX3_between_38 : decode cX3_between 38 = .ok (.iand, 1) := by decide +kernel
theorem dX3_between_39 : decode cX3_between 39 = .ok (.invokestatic 65, 3) := by decide +kernel
theorem dX3_between_42 : decode cX3_between 42 = .ok (.ireturn, 1) := by decide +kernel
theorem dX3_between_43 : decode cX3_between 43 = .ok (.aload_n 0, 1) := by decide +kernel
theorem dX3_between_44 : decode cX3_between 44 = .ok (.getfield 10, 3) := by decide +kernel
theorem dX3_between_47 : decode cX3_between 47 = .ok (.iload_n 2, 1) := by decide +kernel
theorem dX3_between_48 : decode cX3_between 48 = .ok (.iload_n 1, 1) := by decide +kernel
theorem dX3_between_49 : decode cX3_between 49 = .ok (.invokevirtual 70, 3) := by decide +kernel
theorem dX3_between_52 : decode cX3_between 52 = .ok (.ifCond .eq 24, 3) := by decide +kernel
theorem dX3_between_55 : decode cX3_between 55 = .ok (.aload_n 0, 1) := by decide +kernel
theorem dX3_between_56 : decode cX3_between 56 = .ok (.getfield 10, 3) := by decide +kernel
theorem dX3_between_59 : decode cX3_between 59 = .ok (.iload_n 2, 1) := by decide +kernel
theorem dX3_between_60 : decode cX3_between 60 = .ok (.invokevirtual 61, 3) := by decide +kernel
theorem dX3_between_63 : decode cX3_between 63 = .ok (.aload_n 0, 1) := by decide +kernel
theorem dX3_between_64 : decode cX3_between 64 = .ok (.getfield 10, 3) := by decide +kernel
theorem dX3_between_67 : decode cX3_between 67 = .ok (.iload_n 1, 1) := by decide +kernel
theorem dX3_between_68 : decode cX3_between 68 = .ok (.invokevirtual 127, 3) := by decide +kernel
theorem dX3_between_71 : decode cX3_between 71 = .ok (.iand, 1) := by decide +kernel
theorem dX3_between_72 : decode cX3_between 72 = .ok (.invokestatic 65, 3) := by decide +kernel
theorem dX3_between_75 : decode cX3_between 75 = .ok (.ireturn, 1) := by decide +kernel
theorem dX3_between_76 : decode cX3_between 76 = .ok (.iconst (-1), 1) := by decide +kernel
theorem dX3_between_77 : decode cX3_between 77 = .ok (.ireturn, 1) := by decide +kernel
set_option maxRecDepth 20000 in
theorem ggX3_count_X3_checkIndex : GoodIn wsX3_count wsX3_checkIndex := goodIn_ca (goodIn_r _ [4, 5, 6] (by decide +kernel) (by decide +kernel)) (goodIn_sub (fun _ h => List.mem_cons_of_mem _ (List.mem_append_right _ h)) (by decide +kernel))
set_option maxRecDepth 20000 in
theorem gX3_count_X3_checkIndex : GoodIn wsX3_count (va_wsS RX3 114 yX3_checkIndex wsX3_checkIndex) := goodIn_app (goodIn_of _ (by decide +kernel)) ggX3_count_X3_checkIndex
set_option maxRecDepth 20000 in
theorem ggX3_count_X3_counted : GoodIn wsX3_count wsX3_counted := goodIn_r _ [10, 11, 12, 13, 14, 15, 16, 17, 18, 19, 20, 21, 22, 23, 24, 25, 26, 27, 28, 29, 30, 31, 3, 32, 33, 34, 35, 36, 37, 38, 39, 40, 41, 42, 43, 44, 45, 46, 47, 48, 49, 50, 51, 52, 53, 54, 55, 56, 57, 58, 59, 60, 61, 62, 63, 64, 65, 66, 67, 68, 69, 70, 71, 72, 73, 74, 75, 76, 77, 78, 79, 80, 81, 82, 83, 84, 85, 86, 87, 88, 89, 90, 91, 92, 93, 94, 95, 96, 97, 98, 99, 100, 101, 102, 103, 104, 105, 106, 107, 108, 109, 110, 111, 112, 113, 114, 115, 116, 117] (by decide +kernel) (by decide +kernel)
set_option maxRecDepth 20000 in
theorem gX3_count_X3_counted : GoodIn wsX3_count (wsV RX3 130 RX3 yX3_counted wsX3_counted) := goodIn_app (goodIn_of _ (by decide +kernel)) ggX3_count_X3_counted
theorem dX3_count_0 : decode cX3_count 0 = .ok (.iload_n 1, 1) := by decide +kernel
theorem dX3_count_1 : decode cX3_count 1 = .ok (.bipush 7, 2) := by decide +kernel
theorem dX3_count_3 : decode cX3_count 3 = .ok (.invokestatic 114, 3) := by decide +kernel
theorem dX3_count_6 : decode cX3_count 6 = .ok (.aload_n 0, 1) := by decide +kernel
theorem dX3_count_7 : decode cX3_count 7 = .ok (.iload_n 1, 1) := by decide +kernel
theorem dX3_count_8 : decode cX3_count 8 = .ok (.invokevirtual 130, 3) := by decide +kernel
theorem dX3_count_11 : decode cX3_count 11 = .ok (.ireturn, 1) := by decide +kernel
set_option maxRecDepth 20000 in
theorem ggX3_blame_X3_doubtfulLayers : GoodIn wsX3_blame wsX3_doubtfulLayers := goodIn_r _ [8, 2, 9, 10, 11, 12, 13, 14, 15, 16, 17, 7, 18, 19, 20, 21, 22, 23, 24, 25, 26, 27, 28, 29, 30, 31, 32, 33, 34, 35, 36, 37, 38, 39, 40, 41, 42, 43, 44, 45, 46, 47, 48, 49, 50, 51, 52, 53, 54, 55, 56, 57, 58, 59, 60, 61, 71, 72, 73, 74, 75, 76, 77, 78, 79, 80, 81, 82, 83] (by decide +kernel) (by decide +kernel)
set_option maxRecDepth 20000 in
theorem gX3_blame_X3_doubtfulLayers : GoodIn wsX3_blame (wsV RX3 133 RX3 yX3_doubtfulLayers wsX3_doubtfulLayers) := goodIn_app (goodIn_of _ (by decide +kernel)) ggX3_blame_X3_doubtfulLayers
set_option maxRecDepth 20000 in
theorem ggX3_blame_X2_size : GoodIn wsX3_blame wsX2_size := goodIn_r _ [13, 14, 75, 76, 77, 78, 79, 80] (by decide +kernel) (by decide +kernel)
set_option maxRecDepth 20000 in
theorem gX3_blame_X2_size : GoodIn wsX3_blame (wsV RX3 33 RX2 yX2_size wsX2_size) := goodIn_app (goodIn_of _ (by decide +kernel)) ggX3_blame_X2_size
set_option maxRecDepth 20000 in
theorem ggX3_blame_X0_copy : GoodIn wsX3_blame wsX0_copy := goodIn_r _ [65, 66, 38, 58, 81, 82, 83] (by decide +kernel) (by decide +kernel)
set_option maxRecDepth 20000 in
theorem gX3_blame_X0_copy : GoodIn wsX3_blame (wsV RX3 137 RX0 yX0_copy wsX0_copy) := goodIn_app (goodIn_of _ (by decide +kernel)) ggX3_blame_X0_copy
set_option maxRecDepth 20000 in
theorem ggX3_blame_X0_take : GoodIn wsX3_blame wsX0_take := goodIn_r _ [70, 66, 38, 58, 81, 82, 83] (by decide +kernel) (by decide +kernel)
set_option maxRecDepth 20000 in
theorem gX3_blame_X0_take : GoodIn wsX3_blame (wsV RX3 111 RX0 yX0_take wsX0_take) := goodIn_app (goodIn_of _ (by decide +kernel)) ggX3_blame_X0_take
theorem dX3_blame_0 : decode cX3_blame 0 = .ok (.iconst (-1), 1) := by decide +kernel
theorem dX3_blame_1 : decode cX3_blame 1 = .ok (.istore_n 1, 1) := by decide +kernel
theorem dX3_blame_2 : decode cX3_blame 2 = .ok (.aload_n 0, 1) := by decide +kernel
theorem dX3_blame_3 : decode cX3_blame 3 = .ok (.aload_n 0, 1) := by decide +kernel
theorem dX3_blame_4 : decode cX3_blame 4 = .ok (.getfield 26, 3) := by decide +kernel
theorem dX3_blame_7 : decode cX3_blame 7 = .ok (.invokevirtual 133, 3) := by decide +kernel
theorem dX3_blame_10 : decode cX3_blame 10 = .ok (.istore_n 2, 1) := by decide +kernel
theorem dX3_blame_11 : decode cX3_blame 11 = .ok (.iconst 0, 1) := by decide +kernel
theorem dX3_blame_12 : decode cX3_blame 12 = .ok (.istore_n 3, 1) := by decide +kernel
theorem dX3_blame_13 : decode cX3_blame 13 = .ok (.iload_n 3, 1) := by decide +kernel
theorem dX3_blame_14 : decode cX3_blame 14 = .ok (.aload_n 0, 1) := by decide +kernel
theorem dX3_blame_15 : decode cX3_blame 15 = .ok (.getfield 10, 3) := by decide +kernel
theorem dX3_blame_18 : decode cX3_blame 18 = .ok (.invokevirtual 33, 3) := by decide +kernel
theorem dX3_blame_21 : decode cX3_blame 21 = .ok (.if_icmp .ge 49, 3) := by decide +kernel
theorem dX3_blame_24 : decode cX3_blame 24 = .ok (.aload_n 0, 1) := by decide +kernel
theorem dX3_blame_25 : decode cX3_blame 25 = .ok (.getfield 30, 3) := by decide +kernel
theorem dX3_blame_28 : decode cX3_blame 28 = .ok (.aload_n 0, 1) := by decide +kernel
theorem dX3_blame_29 : decode cX3_blame 29 = .ok (.getfield 26, 3) := by decide +kernel
theorem dX3_blame_32 : decode cX3_blame 32 = .ok (.invokevirtual 137, 3) := by decide +kernel
theorem dX3_blame_35 : decode cX3_blame 35 = .ok (.aload_n 0, 1) := by decide +kernel
theorem dX3_blame_36 : decode cX3_blame 36 = .ok (.getfield 30, 3) := by decide +kernel
theorem dX3_blame_39 : decode cX3_blame 39 = .ok (.iload_n 3, 1) := by decide +kernel
theorem dX3_blame_40 : decode cX3_blame 40 = .ok (.invokevirtual 111, 3) := by decide +kernel
theorem dX3_blame_43 : decode cX3_blame 43 = .ok (.aload_n 0, 1) := by decide +kernel
theorem dX3_blame_44 : decode cX3_blame 44 = .ok (.aload_n 0, 1) := by decide +kernel
theorem dX3_blame_45 : decode cX3_blame 45 = .ok (.getfield 30, 3) := by decide +kernel
theorem dX3_blame_48 : decode cX3_blame 48 = .ok (.invokevirtual 133, 3) := by decide +kernel
theorem dX3_blame_51 : decode cX3_blame 51 = .ok (.istore 4, 2) := by decide +kernel
theorem dX3_blame_53 : decode cX3_blame 53 = .ok (.iload 4, 2) := by decide +kernel
theorem dX3_blame_55 : decode cX3_blame 55 = .ok (.iload_n 2, 1) := by decide +kernel
theorem dX3_blame_56 : decode cX3_blame 56 = .ok (.if_icmp .ge 8, 3) := by decide +kernel
theorem dX3_blame_59 : decode cX3_blame 59 = .ok (.iload 4, 2) := by decide +kernel
theorem dX3_blame_61 : decode cX3_blame 61 = .ok (.istore_n 2, 1) := by decide +kernel
theorem dX3_blame_62 : decode cX3_blame 62 = .ok (.iload_n 3, 1) := by decide +kernel
theorem dX3_blame_63 : decode cX3_blame 63 = .ok (.istore_n 1, 1) := by decide +kernel
theorem dX3_blame_64 : decode cX3_blame 64 = .ok (.iinc 3 1, 3) := by decide +kernel
theorem dX3_blame_67 : decode cX3_blame 67 = .ok (.goto (-54), 3) := by decide +kernel
theorem dX3_blame_70 : decode cX3_blame 70 = .ok (.iload_n 1, 1) := by decide +kernel
theorem dX3_blame_71 : decode cX3_blame 71 = .ok (.ireturn, 1) := by decide +kernel
set_option maxRecDepth 20000 in
theorem ggX3_mean_X2_size : GoodIn wsX3_mean wsX2_size := goodIn_r _ [6, 7, 17, 18, 19, 20, 21, 22] (by decide +kernel) (by decide +kernel)
set_option maxRecDepth 20000 in
theorem gX3_mean_X2_size : GoodIn wsX3_mean (wsV RX3 33 RX2 yX2_size wsX2_size) := goodIn_app (goodIn_of _ (by decide +kernel)) ggX3_mean_X2_size
set_option maxRecDepth 20000 in
theorem ggX3_mean_X2_phase : GoodIn wsX3_mean wsX2_phase := goodIn_r _ [11, 12, 17, 18, 19, 20, 21, 22] (by decide +kernel) (by decide +kernel)
set_option maxRecDepth 20000 in
theorem gX3_mean_X2_phase : GoodIn wsX3_mean (wsV RX3 153 RX2 yX2_phase wsX2_phase) := goodIn_app (goodIn_of _ (by decide +kernel)) ggX3_mean_X2_phase
theorem dX3_mean_0 : decode cX3_mean 0 = .ok (.aload_n 0, 1) := by decide +kernel
theorem dX3_mean_1 : decode cX3_mean 1 = .ok (.getfield 10, 3) := by decide +kernel
theorem dX3_mean_4 : decode cX3_mean 4 = .ok (.invokevirtual 33, 3) := by decide +kernel
theorem dX3_mean_7 : decode cX3_mean 7 = .ok (.istore_n 1, 1) := by decide +kernel
theorem dX3_mean_8 : decode cX3_mean 8 = .ok (.iload_n 1, 1) := by decide +kernel
theorem dX3_mean_9 : decode cX3_mean 9 = .ok (.ifCond .ne 5, 3) := by decide +kernel
theorem dX3_mean_12 : decode cX3_mean 12 = .ok (.dconst 0, 1) := by decide +kernel
theorem dX3_mean_13 : decode cX3_mean 13 = .ok (.dreturn, 1) := by decide +kernel
theorem dX3_mean_14 : decode cX3_mean 14 = .ok (.iconst 0, 1) := by decide +kernel
theorem dX3_mean_15 : decode cX3_mean 15 = .ok (.istore_n 2, 1) := by decide +kernel
theorem dX3_mean_16 : decode cX3_mean 16 = .ok (.iconst 0, 1) := by decide +kernel
theorem dX3_mean_17 : decode cX3_mean 17 = .ok (.istore_n 3, 1) := by decide +kernel
theorem dX3_mean_18 : decode cX3_mean 18 = .ok (.iload_n 3, 1) := by decide +kernel
theorem dX3_mean_19 : decode cX3_mean 19 = .ok (.iload_n 1, 1) := by decide +kernel
theorem dX3_mean_20 : decode cX3_mean 20 = .ok (.if_icmp .ge 20, 3) := by decide +kernel
theorem dX3_mean_23 : decode cX3_mean 23 = .ok (.iload_n 2, 1) := by decide +kernel
theorem dX3_mean_24 : decode cX3_mean 24 = .ok (.aload_n 0, 1) := by decide +kernel
theorem dX3_mean_25 : decode cX3_mean 25 = .ok (.getfield 10, 3) := by decide +kernel
theorem dX3_mean_28 : decode cX3_mean 28 = .ok (.iload_n 3, 1) := by decide +kernel
theorem dX3_mean_29 : decode cX3_mean 29 = .ok (.invokevirtual 153, 3) := by decide +kernel
theorem dX3_mean_32 : decode cX3_mean 32 = .ok (.iadd, 1) := by decide +kernel
theorem dX3_mean_33 : decode cX3_mean 33 = .ok (.istore_n 2, 1) := by decide +kernel
theorem dX3_mean_34 : decode cX3_mean 34 = .ok (.iinc 3 1, 3) := by decide +kernel
theorem dX3_mean_37 : decode cX3_mean 37 = .ok (.goto (-19), 3) := by decide +kernel
theorem dX3_mean_40 : decode cX3_mean 40 = .ok (.iload_n 2, 1) := by decide +kernel
theorem dX3_mean_41 : decode cX3_mean 41 = .ok (.i2d, 1) := by decide +kernel
theorem dX3_mean_42 : decode cX3_mean 42 = .ok (.iload_n 1, 1) := by decide +kernel
theorem dX3_mean_43 : decode cX3_mean 43 = .ok (.i2d, 1) := by decide +kernel
theorem dX3_mean_44 : decode cX3_mean 44 = .ok (.ddiv, 1) := by decide +kernel
theorem dX3_mean_45 : decode cX3_mean 45 = .ok (.dreturn, 1) := by decide +kernel
set_option maxRecDepth 20000 in
theorem ggX3_checkLayer_X2_size : GoodIn wsX3_checkLayer wsX2_size := goodIn_r _ [6, 7, 18, 19, 20, 21, 22, 23] (by decide +kernel) (by decide +kernel)
set_option maxRecDepth 20000 in
theorem gX3_checkLayer_X2_size : GoodIn wsX3_checkLayer (wsV RX3 33 RX2 yX2_size wsX2_size) := goodIn_app (goodIn_of _ (by decide +kernel)) ggX3_checkLayer_X2_size
set_option maxRecDepth 20000 in
theorem ggX3_checkLayer_X3_checkIndex : GoodIn wsX3_checkLayer wsX3_checkIndex := goodIn_ca (goodIn_r _ [11, 12, 13] (by decide +kernel) (by decide +kernel)) (goodIn_sub (fun _ h => List.mem_cons_of_mem _ (List.mem_append_right _ h)) (by decide +kernel))
set_option maxRecDepth 20000 in
theorem gX3_checkLayer_X3_checkIndex : GoodIn wsX3_checkLayer (va_wsS RX3 114 yX3_checkIndex wsX3_checkIndex) := goodIn_app (goodIn_of _ (by decide +kernel)) ggX3_checkLayer_X3_checkIndex
theorem dX3_checkLayer_0 : decode cX3_checkLayer 0 = .ok (.iload_n 1, 1) := by decide +kernel
theorem dX3_checkLayer_1 : decode cX3_checkLayer 1 = .ok (.aload_n 0, 1) := by decide +kernel
theorem dX3_checkLayer_2 : decode cX3_checkLayer 2 = .ok (.getfield 10, 3) := by decide +kernel
theorem dX3_checkLayer_5 : decode cX3_checkLayer 5 = .ok (.invokevirtual 33, 3) := by decide +kernel
theorem dX3_checkLayer_8 : decode cX3_checkLayer 8 = .ok (.invokestatic 114, 3) := by decide +kernel
theorem dX3_checkLayer_11 : decode cX3_checkLayer 11 = .ok (.return_, 1) := by decide +kernel
set_option maxRecDepth 20000 in
theorem ggX3_checkKind_X3_checkIndex : GoodIn wsX3_checkKind wsX3_checkIndex := goodIn_ca (goodIn_r _ [4, 5, 6] (by decide +kernel) (by decide +kernel)) (goodIn_sub (fun _ h => List.mem_cons_of_mem _ (List.mem_append_right _ h)) (by decide +kernel))
set_option maxRecDepth 20000 in
theorem gX3_checkKind_X3_checkIndex : GoodIn wsX3_checkKind (va_wsS RX3 114 yX3_checkIndex wsX3_checkIndex) := goodIn_app (goodIn_of _ (by decide +kernel)) ggX3_checkKind_X3_checkIndex
theorem dX3_checkKind_0 : decode cX3_checkKind 0 = .ok (.iload_n 0, 1) := by decide +kernel
theorem dX3_checkKind_1 : decode cX3_checkKind 1 = .ok (.iconst 4, 1) := by decide +kernel
theorem dX3_checkKind_2 : decode cX3_checkKind 2 = .ok (.invokestatic 114, 3) := by decide +kernel
theorem dX3_checkKind_5 : decode cX3_checkKind 5 = .ok (.return_, 1) := by decide +kernel
theorem dX3_checkIndex_0 : decode cX3_checkIndex 0 = .ok (.iload_n 0, 1) := by decide +kernel
theorem dX3_checkIndex_1 : decode cX3_checkIndex 1 = .ok (.ifCond .lt 8, 3) := by decide +kernel
theorem dX3_checkIndex_4 : decode cX3_checkIndex 4 = .ok (.iload_n 0, 1) := by decide +kernel
theorem dX3_checkIndex_5 : decode cX3_checkIndex 5 = .ok (.iload_n 1, 1) := by decide +kernel
theorem dX3_checkIndex_6 : decode cX3_checkIndex 6 = .ok (.if_icmp .lt 13, 3) := by decide +kernel
theorem dX3_checkIndex_9 : decode cX3_checkIndex 9 = .ok (.new 168, 3) := by decide +kernel
theorem dX3_checkIndex_12 : decode cX3_checkIndex 12 = .ok (.dup, 1) := by decide +kernel
theorem dX3_checkIndex_13 : decode cX3_checkIndex 13 = .ok (.ldc 170, 2) := by decide +kernel
theorem dX3_checkIndex_15 : decode cX3_checkIndex 15 = .ok (.invokespecial 172, 3) := by decide +kernel
theorem dX3_checkIndex_18 : decode cX3_checkIndex 18 = .ok (.athrow, 1) := by decide +kernel
theorem dX3_checkIndex_19 : decode cX3_checkIndex 19 = .ok (.return_, 1) := by decide +kernel
set_option maxRecDepth 20000 in
theorem ggX3_toldOf_X3_firstYear : GoodIn wsX3_toldOf wsX3_firstYear := goodIn_r _ [7, 2, 8, 9, 10, 11, 12, 13, 14, 15, 16, 17, 18, 19, 20, 21, 22, 23, 24, 25, 26, 27, 28, 29, 6, 30, 87, 88, 89, 90, 91, 92, 93, 94, 95, 96, 97, 98, 99] (by decide +kernel) (by decide +kernel)
set_option maxRecDepth 20000 in
theorem gX3_toldOf_X3_firstYear : GoodIn wsX3_toldOf (wsV RX3 98 RX3 yX3_firstYear wsX3_firstYear) := goodIn_app (goodIn_of _ (by decide +kernel)) ggX3_toldOf_X3_firstYear
set_option maxRecDepth 20000 in
theorem ggX3_toldOf_X3_lastYear : GoodIn wsX3_toldOf wsX3_lastYear := goodIn_r _ [34, 2, 8, 9, 10, 11, 12, 13, 35, 36, 37, 38, 39, 40, 41, 42, 22, 43, 44, 45, 46, 27, 47, 29, 6, 30, 87, 88, 89, 90, 91, 92, 93, 94, 95, 96, 97, 98, 99] (by decide +kernel) (by decide +kernel)
set_option maxRecDepth 20000 in
theorem gX3_toldOf_X3_lastYear : GoodIn wsX3_toldOf (wsV RX3 173 RX3 yX3_lastYear wsX3_lastYear) := goodIn_app (goodIn_of _ (by decide +kernel)) ggX3_toldOf_X3_lastYear
set_option maxRecDepth 20000 in
theorem ggX3_toldOf_X3_isDoubtful : GoodIn wsX3_toldOf wsX3_isDoubtful := goodIn_r _ [51, 3, 4, 5, 6, 7, 2, 8, 9, 10, 11, 12, 13, 14, 15, 16, 17, 18, 19, 20, 21, 22, 23, 24, 25, 26, 27, 28, 29, 30, 31, 32, 33, 34, 35, 36, 37, 38, 39, 40, 41, 42, 43, 44, 45, 46, 47, 87, 88, 89, 90, 91, 92, 93, 94, 95, 96, 97, 98, 99] (by decide +kernel) (by decide +kernel)
set_option maxRecDepth 20000 in
theorem gX3_toldOf_X3_isDoubtful : GoodIn wsX3_toldOf (wsV RX3 143 RX3 yX3_isDoubtful wsX3_isDoubtful) := goodIn_app (goodIn_of _ (by decide +kernel)) ggX3_toldOf_X3_isDoubtful
set_option maxRecDepth 20000 in
theorem ggX3_toldOf_X2_phase : GoodIn wsX3_toldOf wsX2_phase := goodIn_r _ [55, 56, 91, 92, 93, 94, 95, 96] (by decide +kernel) (by decide +kernel)
set_option maxRecDepth 20000 in
theorem gX3_toldOf_X2_phase : GoodIn wsX3_toldOf (wsV RX3 153 RX2 yX2_phase wsX2_phase) := goodIn_app (goodIn_of _ (by decide +kernel)) ggX3_toldOf_X2_phase
set_option maxRecDepth 20000 in
theorem ggX3_toldOf_X2_below : GoodIn wsX3_toldOf wsX2_below := goodIn_r _ [17, 18, 91, 92, 93, 94, 95, 96] (by decide +kernel) (by decide +kernel)
set_option maxRecDepth 20000 in
theorem gX3_toldOf_X2_below : GoodIn wsX3_toldOf (wsV RX3 61 RX2 yX2_below wsX2_below) := goodIn_app (goodIn_of _ (by decide +kernel)) ggX3_toldOf_X2_below
set_option maxRecDepth 20000 in
theorem ggX3_toldOf_J6_bitCount_0f7a4 : GoodIn wsX3_toldOf wsJ6_bitCount_0f7a4 := goodIn_r _ [60, 61, 62, 63] (by decide +kernel) (by decide +kernel)
set_option maxRecDepth 20000 in
theorem gX3_toldOf_J6_bitCount_0f7a4 : GoodIn wsX3_toldOf (va_wsS RX3 65 yJ6_bitCount_0f7a4 wsJ6_bitCount_0f7a4) := goodIn_app (goodIn_of _ (by decide +kernel)) ggX3_toldOf_J6_bitCount_0f7a4
set_option maxRecDepth 20000 in
theorem ggX3_toldOf_X2_onTop : GoodIn wsX3_toldOf wsX2_onTop := goodIn_r _ [38, 39, 91, 92, 93, 94, 95, 96] (by decide +kernel) (by decide +kernel)
set_option maxRecDepth 20000 in
theorem gX3_toldOf_X2_onTop : GoodIn wsX3_toldOf (wsV RX3 127 RX2 yX2_onTop wsX2_onTop) := goodIn_app (goodIn_of _ (by decide +kernel)) ggX3_toldOf_X2_onTop
set_option maxRecDepth 20000 in
theorem ggX3_toldOf_X2_alike : GoodIn wsX3_toldOf wsX2_alike := goodIn_r _ [12, 13, 91, 92, 93, 94, 95, 96] (by decide +kernel) (by decide +kernel)
set_option maxRecDepth 20000 in
theorem gX3_toldOf_X2_alike : GoodIn wsX3_toldOf (wsV RX3 78 RX2 yX2_alike wsX2_alike) := goodIn_app (goodIn_of _ (by decide +kernel)) ggX3_toldOf_X2_alike
set_option maxRecDepth 20000 in
theorem ggX3_toldOf_X3_season : GoodIn wsX3_toldOf wsX3_season := goodIn_r _ [67, 68, 69, 70, 6, 71, 72, 2, 8, 9, 10, 11, 12, 13, 73, 74, 75, 76, 77, 78, 29, 30, 79, 80, 81, 87, 88, 89, 90, 91, 92, 93, 94, 95, 96, 100] (by decide +kernel) (by decide +kernel)
set_option maxRecDepth 20000 in
theorem gX3_toldOf_X3_season : GoodIn wsX3_toldOf (wsV RX3 176 RX3 yX3_season wsX3_season) := goodIn_app (goodIn_of _ (by decide +kernel)) ggX3_toldOf_X3_season
set_option maxRecDepth 20000 in
theorem ggX3_toldOf_X0_isAt : GoodIn wsX3_toldOf wsX0_isAt := goodIn_r _ [85, 86, 29, 6, 30, 97, 98, 99] (by decide +kernel) (by decide +kernel)
set_option maxRecDepth 20000 in
theorem gX3_toldOf_X0_isAt : GoodIn wsX3_toldOf (wsV RX3 102 RX0 yX0_isAt wsX0_isAt) := goodIn_app (goodIn_of _ (by decide +kernel)) ggX3_toldOf_X0_isAt
theorem dX3_toldOf_0 : decode cX3_toldOf 0 = .ok (.iload_n 2, 1) := by decide +kernel
theorem dX3_toldOf_1 : decode cX3_toldOf 1 = .ok (.tableswitch 136 0 7 #[47, 57, 67, 85, 94, 106, 118, 130], 47) := by decide +kernel
theorem dX3_toldOf_48 : decode cX3_toldOf 48 = .ok (.aload_n 0, 1) := by decide +kernel
theorem dX3_toldOf_49 : decode cX3_toldOf 49 = .ok (.aload_n 0, 1) := by decide +kernel
theorem dX3_toldOf_50 : decode cX3_toldOf 50 = .ok (.getfield 26, 3) := by decide +kernel
theorem dX3_toldOf_53 : decode cX3_toldOf 53 = .ok (.iload_n 1, 1) := by decide +kernel
theorem dX3_toldOf_54 : decode cX3_toldOf 54 = .ok (.invokevirtual 98, 3) := by decide +kernel
theorem dX3_toldOf_57 : decode cX3_toldOf 57 = .ok (.ireturn, 1) := by decide +kernel
theorem dX3_toldOf_58 : decode cX3_toldOf 58 = .ok (.aload_n 0, 1) := by decide +kernel
theorem dX3_toldOf_59 : decode cX3_toldOf 59 = .ok (.aload_n 0, 1) := by decide +kernel
theorem dX3_toldOf_60 : decode cX3_toldOf 60 = .ok (.getfield 26, 3) := by decide +kernel
theorem dX3_toldOf_63 : decode cX3_toldOf 63 = .ok (.iload_n 1, 1) := by decide +kernel
theorem dX3_toldOf_64 : decode cX3_toldOf 64 = .ok (.invokevirtual 173, 3) := by decide +kernel
theorem dX3_toldOf_67 : decode cX3_toldOf 67 = .ok (.ireturn, 1) := by decide +kernel
theorem dX3_toldOf_68 : decode cX3_toldOf 68 = .ok (.aload_n 0, 1) := by decide +kernel
theorem dX3_toldOf_69 : decode cX3_toldOf 69 = .ok (.aload_n 0, 1) := by decide +kernel
theorem dX3_toldOf_70 : decode cX3_toldOf 70 = .ok (.getfield 26, 3) := by decide +kernel
theorem dX3_toldOf_73 : decode cX3_toldOf 73 = .ok (.iload_n 1, 1) := by decide +kernel
theorem dX3_toldOf_74 : decode cX3_toldOf 74 = .ok (.invokevirtual 143, 3) := by decide +kernel
theorem dX3_toldOf_77 : decode cX3_toldOf 77 = .ok (.ifCond .eq 7, 3) := by decide +kernel
theorem dX3_toldOf_80 : decode cX3_toldOf 80 = .ok (.iconst 1, 1) := by decide +kernel
theorem dX3_toldOf_81 : decode cX3_toldOf 81 = .ok (.goto 4, 3) := by decide +kernel
theorem dX3_toldOf_84 : decode cX3_toldOf 84 = .ok (.iconst 0, 1) := by decide +kernel
theorem dX3_toldOf_85 : decode cX3_toldOf 85 = .ok (.ireturn, 1) := by decide +kernel
theorem dX3_toldOf_86 : decode cX3_toldOf 86 = .ok (.aload_n 0, 1) := by decide +kernel
theorem dX3_toldOf_87 : decode cX3_toldOf 87 = .ok (.getfield 10, 3) := by decide +kernel
theorem dX3_toldOf_90 : decode cX3_toldOf 90 = .ok (.iload_n 1, 1) := by decide +kernel
theorem dX3_toldOf_91 : decode cX3_toldOf 91 = .ok (.invokevirtual 153, 3) := by decide +kernel
theorem dX3_toldOf_94 : decode cX3_toldOf 94 = .ok (.ireturn, 1) := by decide +kernel
theorem dX3_toldOf_95 : decode cX3_toldOf 95 = .ok (.aload_n 0, 1) := by decide +kernel
theorem dX3_toldOf_96 : decode cX3_toldOf 96 = .ok (.getfield 10, 3) := by decide +kernel
theorem dX3_toldOf_99 : decode cX3_toldOf 99 = .ok (.iload_n 1, 1) := by decide +kernel
theorem dX3_toldOf_100 : decode cX3_toldOf 100 = .ok (.invokevirtual 61, 3) := by decide +kernel
theorem dX3_toldOf_103 : decode cX3_toldOf 103 = .ok (.invokestatic 65, 3) := by decide +kernel
theorem dX3_toldOf_106 : decode cX3_toldOf 106 = .ok (.ireturn, 1) := by decide +kernel
theorem dX3_toldOf_107 : decode cX3_toldOf 107 = .ok (.aload_n 0, 1) := by decide +kernel
theorem dX3_toldOf_108 : decode cX3_toldOf 108 = .ok (.getfield 10, 3) := by decide +kernel
theorem dX3_toldOf_111 : decode cX3_toldOf 111 = .ok (.iload_n 1, 1) := by decide +kernel
theorem dX3_toldOf_112 : decode cX3_toldOf 112 = .ok (.invokevirtual 127, 3) := by decide +kernel
theorem dX3_toldOf_115 : decode cX3_toldOf 115 = .ok (.invokestatic 65, 3) := by decide +kernel
theorem dX3_toldOf_118 : decode cX3_toldOf 118 = .ok (.ireturn, 1) := by decide +kernel
theorem dX3_toldOf_119 : decode cX3_toldOf 119 = .ok (.aload_n 0, 1) := by decide +kernel
theorem dX3_toldOf_120 : decode cX3_toldOf 120 = .ok (.getfield 10, 3) := by decide +kernel
theorem dX3_toldOf_123 : decode cX3_toldOf 123 = .ok (.iload_n 1, 1) := by decide +kernel
theorem dX3_toldOf_124 : decode cX3_toldOf 124 = .ok (.invokevirtual 78, 3) := by decide +kernel
theorem dX3_toldOf_127 : decode cX3_toldOf 127 = .ok (.invokestatic 65, 3) := by decide +kernel
theorem dX3_toldOf_130 : decode cX3_toldOf 130 = .ok (.ireturn, 1) := by decide +kernel
theorem dX3_toldOf_131 : decode cX3_toldOf 131 = .ok (.aload_n 0, 1) := by decide +kernel
theorem dX3_toldOf_132 : decode cX3_toldOf 132 = .ok (.iload_n 1, 1) := by decide +kernel
theorem dX3_toldOf_133 : decode cX3_toldOf 133 = .ok (.invokevirtual 176, 3) := by decide +kernel
theorem dX3_toldOf_136 : decode cX3_toldOf 136 = .ok (.ireturn, 1) := by decide +kernel
theorem dX3_toldOf_137 : decode cX3_toldOf 137 = .ok (.aload_n 0, 1) := by decide +kernel
theorem dX3_toldOf_138 : decode cX3_toldOf 138 = .ok (.getfield 26, 3) := by decide +kernel
theorem dX3_toldOf_141 : decode cX3_toldOf 141 = .ok (.iload_n 1, 1) := by decide +kernel
theorem dX3_toldOf_142 : decode cX3_toldOf 142 = .ok (.invokevirtual 102, 3) := by decide +kernel
theorem dX3_toldOf_145 : decode cX3_toldOf 145 = .ok (.ifCond .eq 7, 3) := by decide +kernel
theorem dX3_toldOf_148 : decode cX3_toldOf 148 = .ok (.iconst 1, 1) := by decide +kernel
theorem dX3_toldOf_149 : decode cX3_toldOf 149 = .ok (.goto 4, 3) := by decide +kernel
theorem dX3_toldOf_152 : decode cX3_toldOf 152 = .ok (.iconst 0, 1) := by decide +kernel
theorem dX3_toldOf_153 : decode cX3_toldOf 153 = .ok (.ireturn, 1) := by decide +kernel
set_option maxRecDepth 20000 in
theorem ggX3_counted_X2_size : GoodIn wsX3_counted wsX2_size := goodIn_r _ [8, 9, 99, 100, 101, 102, 103, 104] (by decide +kernel) (by decide +kernel)
set_option maxRecDepth 20000 in
theorem gX3_counted_X2_size : GoodIn wsX3_counted (wsV RX3 33 RX2 yX2_size wsX2_size) := goodIn_app (goodIn_of _ (by decide +kernel)) ggX3_counted_X2_size
set_option maxRecDepth 20000 in
theorem ggX3_counted_X2_phases : GoodIn wsX3_counted wsX2_phases := goodIn_r _ [13, 9, 14, 15, 16, 17, 18, 99, 100, 101, 102, 103, 104] (by decide +kernel) (by decide +kernel)
set_option maxRecDepth 20000 in
theorem gX3_counted_X2_phases : GoodIn wsX3_counted (wsV RX3 179 RX2 yX2_phases wsX2_phases) := goodIn_app (goodIn_of _ (by decide +kernel)) ggX3_counted_X2_phases
set_option maxRecDepth 20000 in
theorem ggX3_counted_X3_doubtfulLayers : GoodIn wsX3_counted wsX3_doubtfulLayers := goodIn_r _ [23, 1, 4, 5, 6, 7, 8, 9, 24, 25, 26, 22, 27, 28, 29, 30, 31, 32, 33, 34, 35, 36, 37, 38, 39, 40, 41, 42, 43, 44, 45, 46, 47, 48, 16, 17, 18, 49, 50, 51, 52, 53, 54, 55, 56, 57, 58, 59, 60, 61, 62, 63, 64, 65, 66, 67, 95, 96, 97, 98, 99, 100, 101, 102, 103, 104, 105, 106, 107] (by decide +kernel) (by decide +kernel)
set_option maxRecDepth 20000 in
theorem gX3_counted_X3_doubtfulLayers : GoodIn wsX3_counted (wsV RX3 133 RX3 yX3_doubtfulLayers wsX3_doubtfulLayers) := goodIn_app (goodIn_of _ (by decide +kernel)) ggX3_counted_X3_doubtfulLayers
set_option maxRecDepth 20000 in
theorem ggX3_counted_X0_size : GoodIn wsX3_counted wsX0_size := goodIn_r _ [71, 72, 73, 74, 75, 76, 77, 78, 79, 105, 106, 107] (by decide +kernel) (by decide +kernel)
set_option maxRecDepth 20000 in
theorem gX3_counted_X0_size : GoodIn wsX3_counted (wsV RX3 182 RX0 yX0_size wsX0_size) := goodIn_app (goodIn_of _ (by decide +kernel)) ggX3_counted_X0_size
set_option maxRecDepth 20000 in
theorem ggX3_counted_X2_pairs : GoodIn wsX3_counted wsX2_pairs := goodIn_r _ [83, 9, 41, 84, 74, 75, 76, 77, 78, 79, 99, 100, 101, 102, 103, 104] (by decide +kernel) (by decide +kernel)
set_option maxRecDepth 20000 in
theorem gX3_counted_X2_pairs : GoodIn wsX3_counted (wsV RX3 183 RX2 yX2_pairs wsX2_pairs) := goodIn_app (goodIn_of _ (by decide +kernel)) ggX3_counted_X2_pairs
set_option maxRecDepth 20000 in
theorem ggX3_counted_X2_sorts : GoodIn wsX3_counted wsX2_sorts := goodIn_r _ [88, 9, 36, 99, 100, 101, 102, 103, 104] (by decide +kernel) (by decide +kernel)
set_option maxRecDepth 20000 in
theorem gX3_counted_X2_sorts : GoodIn wsX3_counted (wsV RX3 186 RX2 yX2_sorts wsX2_sorts) := goodIn_app (goodIn_of _ (by decide +kernel)) ggX3_counted_X2_sorts
set_option maxRecDepth 20000 in
theorem ggX3_counted_X1_all : GoodIn wsX3_counted wsX1_all := goodIn_r _ [93, 94, 108] (by decide +kernel) (by decide +kernel)
set_option maxRecDepth 20000 in
theorem gX3_counted_X1_all : GoodIn wsX3_counted (wsV RX3 189 RX1 yX1_all wsX1_all) := goodIn_app (goodIn_of _ (by decide +kernel)) ggX3_counted_X1_all
theorem dX3_counted_0 : decode cX3_counted 0 = .ok (.iload_n 1, 1) := by decide +kernel
theorem dX3_counted_1 : decode cX3_counted 1 = .ok (.tableswitch 88 0 5 #[39, 47, 55, 64, 72, 80], 39) := by decide +kernel
theorem dX3_counted_40 : decode cX3_counted 40 = .ok (.aload_n 0, 1) := by decide +kernel
theorem dX3_counted_41 : decode cX3_counted 41 = .ok (.getfield 10, 3) := by decide +kernel
theorem dX3_counted_44 : decode cX3_counted 44 = .ok (.invokevirtual 33, 3) := by decide +kernel
theorem dX3_counted_47 : decode cX3_counted 47 = .ok (.ireturn, 1) := by decide +kernel
theorem dX3_counted_48 : decode cX3_counted 48 = .ok (.aload_n 0, 1) := by decide +kernel
theorem dX3_counted_49 : decode cX3_counted 49 = .ok (.getfield 10, 3) := by decide +kernel
theorem dX3_counted_52 : decode cX3_counted 52 = .ok (.invokevirtual 179, 3) := by decide +kernel
theorem dX3_counted_55 : decode cX3_counted 55 = .ok (.ireturn, 1) := by decide +kernel
theorem dX3_counted_56 : decode cX3_counted 56 = .ok (.aload_n 0, 1) := by decide +kernel
theorem dX3_counted_57 : decode cX3_counted 57 = .ok (.aload_n 0, 1) := by decide +kernel
theorem dX3_counted_58 : decode cX3_counted 58 = .ok (.getfield 26, 3) := by decide +kernel
theorem dX3_counted_61 : decode cX3_counted 61 = .ok (.invokevirtual 133, 3) := by decide +kernel
theorem dX3_counted_64 : decode cX3_counted 64 = .ok (.ireturn, 1) := by decide +kernel
theorem dX3_counted_65 : decode cX3_counted 65 = .ok (.aload_n 0, 1) := by decide +kernel
theorem dX3_counted_66 : decode cX3_counted 66 = .ok (.getfield 26, 3) := by decide +kernel
theorem dX3_counted_69 : decode cX3_counted 69 = .ok (.invokevirtual 182, 3) := by decide +kernel
theorem dX3_counted_72 : decode cX3_counted 72 = .ok (.ireturn, 1) := by decide +kernel
theorem dX3_counted_73 : decode cX3_counted 73 = .ok (.aload_n 0, 1) := by decide +kernel
theorem dX3_counted_74 : decode cX3_counted 74 = .ok (.getfield 10, 3) := by decide +kernel
theorem dX3_counted_77 : decode cX3_counted 77 = .ok (.invokevirtual 183, 3) := by decide +kernel
theorem dX3_counted_80 : decode cX3_counted 80 = .ok (.ireturn, 1) := by decide +kernel
theorem dX3_counted_81 : decode cX3_counted 81 = .ok (.aload_n 0, 1) := by decide +kernel
theorem dX3_counted_82 : decode cX3_counted 82 = .ok (.getfield 10, 3) := by decide +kernel
theorem dX3_counted_85 : decode cX3_counted 85 = .ok (.invokevirtual 186, 3) := by decide +kernel
theorem dX3_counted_88 : decode cX3_counted 88 = .ok (.ireturn, 1) := by decide +kernel
theorem dX3_counted_89 : decode cX3_counted 89 = .ok (.aload_n 0, 1) := by decide +kernel
theorem dX3_counted_90 : decode cX3_counted 90 = .ok (.getfield 19, 3) := by decide +kernel
theorem dX3_counted_93 : decode cX3_counted 93 = .ok (.invokevirtual 189, 3) := by decide +kernel
theorem dX3_counted_96 : decode cX3_counted 96 = .ok (.ireturn, 1) := by decide +kernel
set_option maxRecDepth 20000 in
theorem ggX3_findsOf_X2_alike : GoodIn wsX3_findsOf wsX2_alike := goodIn_r _ [7, 8, 22, 23, 24, 25, 26, 27] (by decide +kernel) (by decide +kernel)
set_option maxRecDepth 20000 in
theorem gX3_findsOf_X2_alike : GoodIn wsX3_findsOf (wsV RX3 78 RX2 yX2_alike wsX2_alike) := goodIn_app (goodIn_of _ (by decide +kernel)) ggX3_findsOf_X2_alike
set_option maxRecDepth 20000 in
theorem ggX3_findsOf_X1_sum : GoodIn wsX3_findsOf wsX1_sum := goodIn_r _ [13, 14, 15, 16, 17, 28] (by decide +kernel) (by decide +kernel)
set_option maxRecDepth 20000 in
theorem gX3_findsOf_X1_sum : GoodIn wsX3_findsOf (wsV RX3 192 RX1 yX1_sum wsX1_sum) := goodIn_app (goodIn_of _ (by decide +kernel)) ggX3_findsOf_X1_sum
theorem dX3_findsOf_0 : decode cX3_findsOf 0 = .ok (.aload_n 0, 1) := by decide +kernel
theorem dX3_findsOf_1 : decode cX3_findsOf 1 = .ok (.getfield 19, 3) := by decide +kernel
theorem dX3_findsOf_4 : decode cX3_findsOf 4 = .ok (.aload_n 0, 1) := by decide +kernel
theorem dX3_findsOf_5 : decode cX3_findsOf 5 = .ok (.getfield 10, 3) := by decide +kernel
theorem dX3_findsOf_8 : decode cX3_findsOf 8 = .ok (.iload_n 1, 1) := by decide +kernel
theorem dX3_findsOf_9 : decode cX3_findsOf 9 = .ok (.invokevirtual 78, 3) := by decide +kernel
theorem dX3_findsOf_12 : decode cX3_findsOf 12 = .ok (.iload_n 2, 1) := by decide +kernel
theorem dX3_findsOf_13 : decode cX3_findsOf 13 = .ok (.invokevirtual 192, 3) := by decide +kernel
theorem dX3_findsOf_16 : decode cX3_findsOf 16 = .ok (.ireturn, 1) := by decide +kernel
set_option maxRecDepth 20000 in
theorem ggX3_season_X3_findsOf : GoodIn wsX3_season wsX3_findsOf := goodIn_r _ [5, 6, 7, 8, 9, 10, 11, 12, 13, 14, 15, 16, 17, 18, 19, 20, 4, 21, 25, 26, 27, 28, 29, 30, 31, 32, 33, 34, 35] (by decide +kernel) (by decide +kernel)
set_option maxRecDepth 20000 in
theorem gX3_season_X3_findsOf : GoodIn wsX3_season (wsV RX3 121 RX3 yX3_findsOf wsX3_findsOf) := goodIn_app (goodIn_of _ (by decide +kernel)) ggX3_season_X3_findsOf
set_option maxRecDepth 20000 in
theorem ggX3_season_X3_weight : GoodIn wsX3_season wsX3_weight := goodIn_r _ [24] (by decide +kernel) (by decide +kernel)
set_option maxRecDepth 20000 in
theorem gX3_season_X3_weight : GoodIn wsX3_season (va_wsS RX3 195 yX3_weight wsX3_weight) := goodIn_app (goodIn_of _ (by decide +kernel)) ggX3_season_X3_weight
theorem dX3_season_0 : decode cX3_season 0 = .ok (.aload_n 0, 1) := by decide +kernel
theorem dX3_season_1 : decode cX3_season 1 = .ok (.iload_n 1, 1) := by decide +kernel
theorem dX3_season_2 : decode cX3_season 2 = .ok (.iconst 0, 1) := by decide +kernel
theorem dX3_season_3 : decode cX3_season 3 = .ok (.invokevirtual 121, 3) := by decide +kernel
theorem dX3_season_6 : decode cX3_season 6 = .ok (.istore_n 2, 1) := by decide +kernel
theorem dX3_season_7 : decode cX3_season 7 = .ok (.aload_n 0, 1) := by decide +kernel
theorem dX3_season_8 : decode cX3_season 8 = .ok (.iload_n 1, 1) := by decide +kernel
theorem dX3_season_9 : decode cX3_season 9 = .ok (.iconst 1, 1) := by decide +kernel
theorem dX3_season_10 : decode cX3_season 10 = .ok (.invokevirtual 121, 3) := by decide +kernel
theorem dX3_season_13 : decode cX3_season 13 = .ok (.istore_n 3, 1) := by decide +kernel
theorem dX3_season_14 : decode cX3_season 14 = .ok (.aload_n 0, 1) := by decide +kernel
theorem dX3_season_15 : decode cX3_season 15 = .ok (.iload_n 1, 1) := by decide +kernel
theorem dX3_season_16 : decode cX3_season 16 = .ok (.iconst 2, 1) := by decide +kernel
theorem dX3_season_17 : decode cX3_season 17 = .ok (.invokevirtual 121, 3) := by decide +kernel
theorem dX3_season_20 : decode cX3_season 20 = .ok (.istore 4, 2) := by decide +kernel
theorem dX3_season_22 : decode cX3_season 22 = .ok (.aload_n 0, 1) := by decide +kernel
theorem dX3_season_23 : decode cX3_season 23 = .ok (.iload_n 1, 1) := by decide +kernel
theorem dX3_season_24 : decode cX3_season 24 = .ok (.iconst 3, 1) := by decide +kernel
theorem dX3_season_25 : decode cX3_season 25 = .ok (.invokevirtual 121, 3) := by decide +kernel
theorem dX3_season_28 : decode cX3_season 28 = .ok (.istore 5, 2) := by decide +kernel
theorem dX3_season_30 : decode cX3_season 30 = .ok (.iconst (-1), 1) := by decide +kernel
theorem dX3_season_31 : decode cX3_season 31 = .ok (.istore 6, 2) := by decide +kernel
theorem dX3_season_33 : decode cX3_season 33 = .ok (.iconst 0, 1) := by decide +kernel
theorem dX3_season_34 : decode cX3_season 34 = .ok (.istore 7, 2) := by decide +kernel
theorem dX3_season_36 : decode cX3_season 36 = .ok (.iconst 0, 1) := by decide +kernel
theorem dX3_season_37 : decode cX3_season 37 = .ok (.istore 8, 2) := by decide +kernel
theorem dX3_season_39 : decode cX3_season 39 = .ok (.iload 8, 2) := by decide +kernel
theorem dX3_season_41 : decode cX3_season 41 = .ok (.iconst 4, 1) := by decide +kernel
theorem dX3_season_42 : decode cX3_season 42 = .ok (.if_icmp .ge 37, 3) := by decide +kernel
theorem dX3_season_45 : decode cX3_season 45 = .ok (.iload 8, 2) := by decide +kernel
theorem dX3_season_47 : decode cX3_season 47 = .ok (.iload_n 2, 1) := by decide +kernel
theorem dX3_season_48 : decode cX3_season 48 = .ok (.iload_n 3, 1) := by decide +kernel
theorem dX3_season_49 : decode cX3_season 49 = .ok (.iload 4, 2) := by decide +kernel
theorem dX3_season_51 : decode cX3_season 51 = .ok (.iload 5, 2) := by decide +kernel
theorem dX3_season_53 : decode cX3_season 53 = .ok (.invokestatic 195, 3) := by decide +kernel
theorem dX3_season_56 : decode cX3_season 56 = .ok (.istore 9, 2) := by decide +kernel
theorem dX3_season_58 : decode cX3_season 58 = .ok (.iload 9, 2) := by decide +kernel
theorem dX3_season_60 : decode cX3_season 60 = .ok (.iload 7, 2) := by decide +kernel
theorem dX3_season_62 : decode cX3_season 62 = .ok (.if_icmp .le 11, 3) := by decide +kernel
theorem dX3_season_65 : decode cX3_season 65 = .ok (.iload 9, 2) := by decide +kernel
theorem dX3_season_67 : decode cX3_season 67 = .ok (.istore 7, 2) := by decide +kernel
theorem dX3_season_69 : decode cX3_season 69 = .ok (.iload 8, 2) := by decide +kernel
theorem dX3_season_71 : decode cX3_season 71 = .ok (.istore 6, 2) := by decide +kernel
theorem dX3_season_73 : decode cX3_season 73 = .ok (.iinc 8 1, 3) := by decide +kernel
theorem dX3_season_76 : decode cX3_season 76 = .ok (.goto (-37), 3) := by decide +kernel
theorem dX3_season_79 : decode cX3_season 79 = .ok (.iload 6, 2) := by decide +kernel
theorem dX3_season_81 : decode cX3_season 81 = .ok (.ireturn, 1) := by decide +kernel
theorem dX3_weight_0 : decode cX3_weight 0 = .ok (.iload_n 0, 1) := by decide +kernel
theorem dX3_weight_1 : decode cX3_weight 1 = .ok (.tableswitch 48 0 2 #[27, 34, 42], 27) := by decide +kernel
theorem dX3_weight_28 : decode cX3_weight 28 = .ok (.iconst 3, 1) := by decide +kernel
theorem dX3_weight_29 : decode cX3_weight 29 = .ok (.iload_n 1, 1) := by decide +kernel
theorem dX3_weight_30 : decode cX3_weight 30 = .ok (.imul, 1) := by decide +kernel
theorem dX3_weight_31 : decode cX3_weight 31 = .ok (.iload 4, 2) := by decide +kernel
theorem dX3_weight_33 : decode cX3_weight 33 = .ok (.iadd, 1) := by decide +kernel
theorem dX3_weight_34 : decode cX3_weight 34 = .ok (.ireturn, 1) := by decide +kernel
theorem dX3_weight_35 : decode cX3_weight 35 = .ok (.iconst 2, 1) := by decide +kernel
theorem dX3_weight_36 : decode cX3_weight 36 = .ok (.iload_n 2, 1) := by decide +kernel
theorem dX3_weight_37 : decode cX3_weight 37 = .ok (.imul, 1) := by decide +kernel
theorem dX3_weight_38 : decode cX3_weight 38 = .ok (.iload_n 3, 1) := by decide +kernel
theorem dX3_weight_39 : decode cX3_weight 39 = .ok (.iconst 2, 1) := by decide +kernel
theorem dX3_weight_40 : decode cX3_weight 40 = .ok (.idiv, 1) := by decide +kernel
theorem dX3_weight_41 : decode cX3_weight 41 = .ok (.iadd, 1) := by decide +kernel
theorem dX3_weight_42 : decode cX3_weight 42 = .ok (.ireturn, 1) := by decide +kernel
theorem dX3_weight_43 : decode cX3_weight 43 = .ok (.iconst 2, 1) := by decide +kernel
theorem dX3_weight_44 : decode cX3_weight 44 = .ok (.iload_n 3, 1) := by decide +kernel
theorem dX3_weight_45 : decode cX3_weight 45 = .ok (.imul, 1) := by decide +kernel
theorem dX3_weight_46 : decode cX3_weight 46 = .ok (.iload_n 2, 1) := by decide +kernel
theorem dX3_weight_47 : decode cX3_weight 47 = .ok (.iadd, 1) := by decide +kernel
theorem dX3_weight_48 : decode cX3_weight 48 = .ok (.ireturn, 1) := by decide +kernel
theorem dX3_weight_49 : decode cX3_weight 49 = .ok (.iconst 4, 1) := by decide +kernel
theorem dX3_weight_50 : decode cX3_weight 50 = .ok (.iload 4, 2) := by decide +kernel
theorem dX3_weight_52 : decode cX3_weight 52 = .ok (.imul, 1) := by decide +kernel
theorem dX3_weight_53 : decode cX3_weight 53 = .ok (.iload_n 1, 1) := by decide +kernel
theorem dX3_weight_54 : decode cX3_weight 54 = .ok (.iadd, 1) := by decide +kernel
theorem dX3_weight_55 : decode cX3_weight 55 = .ok (.ireturn, 1) := by decide +kernel
set_option maxRecDepth 20000 in
theorem ggX3_firstYear_X2_alike : GoodIn wsX3_firstYear wsX2_alike := goodIn_r _ [6, 7, 30, 31, 32, 33, 34, 35] (by decide +kernel) (by decide +kernel)
set_option maxRecDepth 20000 in
theorem gX3_firstYear_X2_alike : GoodIn wsX3_firstYear (wsV RX3 78 RX2 yX2_alike wsX2_alike) := goodIn_app (goodIn_of _ (by decide +kernel)) ggX3_firstYear_X2_alike
set_option maxRecDepth 20000 in
theorem ggX3_firstYear_X2_below : GoodIn wsX3_firstYear wsX2_below := goodIn_r _ [11, 12, 30, 31, 32, 33, 34, 35] (by decide +kernel) (by decide +kernel)
set_option maxRecDepth 20000 in
theorem gX3_firstYear_X2_below : GoodIn wsX3_firstYear (wsV RX3 61 RX2 yX2_below wsX2_below) := goodIn_app (goodIn_of _ (by decide +kernel)) ggX3_firstYear_X2_below
set_option maxRecDepth 20000 in
theorem ggX3_firstYear_X0_greatestFirst : GoodIn wsX3_firstYear wsX0_greatestFirst := goodIn_r _ [17, 18, 19, 20, 21, 22, 23, 24, 25, 36, 37, 38] (by decide +kernel) (by decide +kernel)
set_option maxRecDepth 20000 in
theorem gX3_firstYear_X0_greatestFirst : GoodIn wsX3_firstYear (wsV RX3 199 RX0 yX0_greatestFirst wsX0_greatestFirst) := goodIn_app (goodIn_of _ (by decide +kernel)) ggX3_firstYear_X0_greatestFirst
theorem dX3_firstYear_0 : decode cX3_firstYear 0 = .ok (.aload_n 1, 1) := by decide +kernel
theorem dX3_firstYear_1 : decode cX3_firstYear 1 = .ok (.aload_n 0, 1) := by decide +kernel
theorem dX3_firstYear_2 : decode cX3_firstYear 2 = .ok (.getfield 10, 3) := by decide +kernel
theorem dX3_firstYear_5 : decode cX3_firstYear 5 = .ok (.iload_n 2, 1) := by decide +kernel
theorem dX3_firstYear_6 : decode cX3_firstYear 6 = .ok (.invokevirtual 78, 3) := by decide +kernel
theorem dX3_firstYear_9 : decode cX3_firstYear 9 = .ok (.aload_n 0, 1) := by decide +kernel
theorem dX3_firstYear_10 : decode cX3_firstYear 10 = .ok (.getfield 10, 3) := by decide +kernel
theorem dX3_firstYear_13 : decode cX3_firstYear 13 = .ok (.iload_n 2, 1) := by decide +kernel
theorem dX3_firstYear_14 : decode cX3_firstYear 14 = .ok (.invokevirtual 61, 3) := by decide +kernel
theorem dX3_firstYear_17 : decode cX3_firstYear 17 = .ok (.ior, 1) := by decide +kernel
theorem dX3_firstYear_18 : decode cX3_firstYear 18 = .ok (.invokevirtual 199, 3) := by decide +kernel
theorem dX3_firstYear_21 : decode cX3_firstYear 21 = .ok (.ireturn, 1) := by decide +kernel
set_option maxRecDepth 20000 in
theorem ggX3_lastYear_X2_alike : GoodIn wsX3_lastYear wsX2_alike := goodIn_r _ [6, 7, 30, 31, 32, 33, 34, 35] (by decide +kernel) (by decide +kernel)
set_option maxRecDepth 20000 in
theorem gX3_lastYear_X2_alike : GoodIn wsX3_lastYear (wsV RX3 78 RX2 yX2_alike wsX2_alike) := goodIn_app (goodIn_of _ (by decide +kernel)) ggX3_lastYear_X2_alike
set_option maxRecDepth 20000 in
theorem ggX3_lastYear_X2_onTop : GoodIn wsX3_lastYear wsX2_onTop := goodIn_r _ [11, 12, 30, 31, 32, 33, 34, 35] (by decide +kernel) (by decide +kernel)
set_option maxRecDepth 20000 in
theorem gX3_lastYear_X2_onTop : GoodIn wsX3_lastYear (wsV RX3 127 RX2 yX2_onTop wsX2_onTop) := goodIn_app (goodIn_of _ (by decide +kernel)) ggX3_lastYear_X2_onTop
set_option maxRecDepth 20000 in
theorem ggX3_lastYear_X0_leastLast : GoodIn wsX3_lastYear wsX0_leastLast := goodIn_r _ [17, 18, 19, 20, 21, 22, 23, 24, 25, 36, 37, 38] (by decide +kernel) (by decide +kernel)
set_option maxRecDepth 20000 in
theorem gX3_lastYear_X0_leastLast : GoodIn wsX3_lastYear (wsV RX3 202 RX0 yX0_leastLast wsX0_leastLast) := goodIn_app (goodIn_of _ (by decide +kernel)) ggX3_lastYear_X0_leastLast
theorem dX3_lastYear_0 : decode cX3_lastYear 0 = .ok (.aload_n 1, 1) := by decide +kernel
theorem dX3_lastYear_1 : decode cX3_lastYear 1 = .ok (.aload_n 0, 1) := by decide +kernel
theorem dX3_lastYear_2 : decode cX3_lastYear 2 = .ok (.getfield 10, 3) := by decide +kernel
theorem dX3_lastYear_5 : decode cX3_lastYear 5 = .ok (.iload_n 2, 1) := by decide +kernel
theorem dX3_lastYear_6 : decode cX3_lastYear 6 = .ok (.invokevirtual 78, 3) := by decide +kernel
theorem dX3_lastYear_9 : decode cX3_lastYear 9 = .ok (.aload_n 0, 1) := by decide +kernel
theorem dX3_lastYear_10 : decode cX3_lastYear 10 = .ok (.getfield 10, 3) := by decide +kernel
theorem dX3_lastYear_13 : decode cX3_lastYear 13 = .ok (.iload_n 2, 1) := by decide +kernel
theorem dX3_lastYear_14 : decode cX3_lastYear 14 = .ok (.invokevirtual 127, 3) := by decide +kernel
theorem dX3_lastYear_17 : decode cX3_lastYear 17 = .ok (.ior, 1) := by decide +kernel
theorem dX3_lastYear_18 : decode cX3_lastYear 18 = .ok (.invokevirtual 202, 3) := by decide +kernel
theorem dX3_lastYear_21 : decode cX3_lastYear 21 = .ok (.ireturn, 1) := by decide +kernel
set_option maxRecDepth 20000 in
theorem ggX3_isDoubtful_X3_firstYear : GoodIn wsX3_isDoubtful wsX3_firstYear := goodIn_r _ [5, 6, 7, 8, 9, 10, 11, 12, 13, 14, 15, 16, 17, 18, 19, 20, 21, 22, 23, 24, 25, 26, 27, 28, 4, 29, 47, 48, 49, 50, 51, 52, 53, 54, 55, 56, 57, 58, 59] (by decide +kernel) (by decide +kernel)
set_option maxRecDepth 20000 in
theorem gX3_isDoubtful_X3_firstYear : GoodIn wsX3_isDoubtful (wsV RX3 98 RX3 yX3_firstYear wsX3_firstYear) := goodIn_app (goodIn_of _ (by decide +kernel)) ggX3_isDoubtful_X3_firstYear
set_option maxRecDepth 20000 in
theorem ggX3_isDoubtful_X3_lastYear : GoodIn wsX3_isDoubtful wsX3_lastYear := goodIn_r _ [33, 6, 7, 8, 9, 10, 11, 12, 34, 35, 36, 37, 38, 39, 40, 41, 21, 42, 43, 44, 45, 26, 46, 28, 4, 29, 47, 48, 49, 50, 51, 52, 53, 54, 55, 56, 57, 58, 59] (by decide +kernel) (by decide +kernel)
set_option maxRecDepth 20000 in
theorem gX3_isDoubtful_X3_lastYear : GoodIn wsX3_isDoubtful (wsV RX3 173 RX3 yX3_lastYear wsX3_lastYear) := goodIn_app (goodIn_of _ (by decide +kernel)) ggX3_isDoubtful_X3_lastYear
theorem dX3_isDoubtful_0 : decode cX3_isDoubtful 0 = .ok (.aload_n 0, 1) := by decide +kernel
theorem dX3_isDoubtful_1 : decode cX3_isDoubtful 1 = .ok (.aload_n 1, 1) := by decide +kernel
theorem dX3_isDoubtful_2 : decode cX3_isDoubtful 2 = .ok (.iload_n 2, 1) := by decide +kernel
theorem dX3_isDoubtful_3 : decode cX3_isDoubtful 3 = .ok (.invokevirtual 98, 3) := by decide +kernel
theorem dX3_isDoubtful_6 : decode cX3_isDoubtful 6 = .ok (.aload_n 0, 1) := by decide +kernel
theorem dX3_isDoubtful_7 : decode cX3_isDoubtful 7 = .ok (.aload_n 1, 1) := by decide +kernel
theorem dX3_isDoubtful_8 : decode cX3_isDoubtful 8 = .ok (.iload_n 2, 1) := by decide +kernel
theorem dX3_isDoubtful_9 : decode cX3_isDoubtful 9 = .ok (.invokevirtual 173, 3) := by decide +kernel
theorem dX3_isDoubtful_12 : decode cX3_isDoubtful 12 = .ok (.if_icmp .le 7, 3) := by decide +kernel
theorem dX3_isDoubtful_15 : decode cX3_isDoubtful 15 = .ok (.iconst 1, 1) := by decide +kernel
theorem dX3_isDoubtful_16 : decode cX3_isDoubtful 16 = .ok (.goto 4, 3) := by decide +kernel
theorem dX3_isDoubtful_19 : decode cX3_isDoubtful 19 = .ok (.iconst 0, 1) := by decide +kernel
theorem dX3_isDoubtful_20 : decode cX3_isDoubtful 20 = .ok (.ireturn, 1) := by decide +kernel
set_option maxRecDepth 20000 in
theorem ggX3_doubtfulLayers_X2_size : GoodIn wsX3_doubtfulLayers wsX2_size := goodIn_r _ [6, 7, 60, 61, 62, 63, 64, 65] (by decide +kernel) (by decide +kernel)
set_option maxRecDepth 20000 in
theorem gX3_doubtfulLayers_X2_size : GoodIn wsX3_doubtfulLayers (wsV RX3 33 RX2 yX2_size wsX2_size) := goodIn_app (goodIn_of _ (by decide +kernel)) ggX3_doubtfulLayers_X2_size
set_option maxRecDepth 20000 in
theorem ggX3_doubtfulLayers_X3_isDoubtful : GoodIn wsX3_doubtfulLayers wsX3_isDoubtful := goodIn_r _ [12, 13, 14, 15, 11, 16, 1, 17, 18, 19, 5, 20, 21, 22, 23, 24, 25, 26, 27, 28, 29, 30, 31, 32, 33, 34, 35, 36, 37, 38, 39, 40, 41, 42, 43, 44, 45, 46, 47, 48, 49, 50, 51, 52, 53, 54, 55, 56, 57, 58, 59, 60, 61, 62, 63, 64, 65, 66, 67, 68] (by decide +kernel) (by decide +kernel)
set_option maxRecDepth 20000 in
theorem gX3_doubtfulLayers_X3_isDoubtful : GoodIn wsX3_doubtfulLayers (wsV RX3 143 RX3 yX3_isDoubtful wsX3_isDoubtful) := goodIn_app (goodIn_of _ (by decide +kernel)) ggX3_doubtfulLayers_X3_isDoubtful
theorem dX3_doubtfulLayers_0 : decode cX3_doubtfulLayers 0 = .ok (.iconst 0, 1) := by decide +kernel
theorem dX3_doubtfulLayers_1 : decode cX3_doubtfulLayers 1 = .ok (.istore_n 2, 1) := by decide +kernel
theorem dX3_doubtfulLayers_2 : decode cX3_doubtfulLayers 2 = .ok (.iconst 0, 1) := by decide +kernel
theorem dX3_doubtfulLayers_3 : decode cX3_doubtfulLayers 3 = .ok (.istore_n 3, 1) := by decide +kernel
theorem dX3_doubtfulLayers_4 : decode cX3_doubtfulLayers 4 = .ok (.iload_n 3, 1) := by decide +kernel
theorem dX3_doubtfulLayers_5 : decode cX3_doubtfulLayers 5 = .ok (.aload_n 0, 1) := by decide +kernel
theorem dX3_doubtfulLayers_6 : decode cX3_doubtfulLayers 6 = .ok (.getfield 10, 3) := by decide +kernel
theorem dX3_doubtfulLayers_9 : decode cX3_doubtfulLayers 9 = .ok (.invokevirtual 33, 3) := by decide +kernel
theorem dX3_doubtfulLayers_12 : decode cX3_doubtfulLayers 12 = .ok (.if_icmp .ge 21, 3) := by decide +kernel
theorem dX3_doubtfulLayers_15 : decode cX3_doubtfulLayers 15 = .ok (.aload_n 0, 1) := by decide +kernel
theorem dX3_doubtfulLayers_16 : decode cX3_doubtfulLayers 16 = .ok (.aload_n 1, 1) := by decide +kernel
theorem dX3_doubtfulLayers_17 : decode cX3_doubtfulLayers 17 = .ok (.iload_n 3, 1) := by decide +kernel
theorem dX3_doubtfulLayers_18 : decode cX3_doubtfulLayers 18 = .ok (.invokevirtual 143, 3) := by decide +kernel
theorem dX3_doubtfulLayers_21 : decode cX3_doubtfulLayers 21 = .ok (.ifCond .eq 6, 3) := by decide +kernel
theorem dX3_doubtfulLayers_24 : decode cX3_doubtfulLayers 24 = .ok (.iinc 2 1, 3) := by decide +kernel
theorem dX3_doubtfulLayers_27 : decode cX3_doubtfulLayers 27 = .ok (.iinc 3 1, 3) := by decide +kernel
theorem dX3_doubtfulLayers_30 : decode cX3_doubtfulLayers 30 = .ok (.goto (-26), 3) := by decide +kernel
theorem dX3_doubtfulLayers_33 : decode cX3_doubtfulLayers 33 = .ok (.iload_n 2, 1) := by decide +kernel
theorem dX3_doubtfulLayers_34 : decode cX3_doubtfulLayers 34 = .ok (.ireturn, 1) := by decide +kernel
theorem dX3_has_0 : decode cX3_has 0 = .ok (.iload_n 0, 1) := by decide +kernel
theorem dX3_has_1 : decode cX3_has 1 = .ok (.iload_n 1, 1) := by decide +kernel
theorem dX3_has_2 : decode cX3_has 2 = .ok (.ishr, 1) := by decide +kernel
theorem dX3_has_3 : decode cX3_has 3 = .ok (.iconst 1, 1) := by decide +kernel
theorem dX3_has_4 : decode cX3_has 4 = .ok (.iand, 1) := by decide +kernel
theorem dX3_has_5 : decode cX3_has 5 = .ok (.ifCond .eq 7, 3) := by decide +kernel
theorem dX3_has_8 : decode cX3_has 8 = .ok (.iconst 1, 1) := by decide +kernel
theorem dX3_has_9 : decode cX3_has 9 = .ok (.goto 4, 3) := by decide +kernel
theorem dX3_has_12 : decode cX3_has 12 = .ok (.iconst 0, 1) := by decide +kernel
theorem dX3_has_13 : decode cX3_has 13 = .ok (.ireturn, 1) := by decide +kernel

theorem dX0_init_0 : decode cX0_init 0 = .ok (.aload_n 0, 1) := by decide +kernel
theorem dX0_init_1 : decode cX0_init 1 = .ok (.invokespecial 3, 3) := by decide +kernel
theorem dX0_init_4 : decode cX0_init 4 = .ok (.aload_n 0, 1) := by decide +kernel
theorem dX0_init_5 : decode cX0_init 5 = .ok (.bipush 14, 2) := by decide +kernel
theorem dX0_init_7 : decode cX0_init 7 = .ok (.newarray .int, 2) := by decide +kernel
theorem dX0_init_9 : decode cX0_init 9 = .ok (.putfield 9, 3) := by decide +kernel
theorem dX0_init_12 : decode cX0_init 12 = .ok (.aload_n 0, 1) := by decide +kernel
theorem dX0_init_13 : decode cX0_init 13 = .ok (.bipush 14, 2) := by decide +kernel
theorem dX0_init_15 : decode cX0_init 15 = .ok (.newarray .int, 2) := by decide +kernel
theorem dX0_init_17 : decode cX0_init 17 = .ok (.putfield 15, 3) := by decide +kernel
theorem dX0_init_20 : decode cX0_init 20 = .ok (.iconst 0, 1) := by decide +kernel
theorem dX0_init_21 : decode cX0_init 21 = .ok (.istore_n 1, 1) := by decide +kernel
theorem dX0_init_22 : decode cX0_init 22 = .ok (.iload_n 1, 1) := by decide +kernel
theorem dX0_init_23 : decode cX0_init 23 = .ok (.bipush 14, 2) := by decide +kernel
theorem dX0_init_25 : decode cX0_init 25 = .ok (.if_icmp .ge 25, 3) := by decide +kernel
theorem dX0_init_28 : decode cX0_init 28 = .ok (.aload_n 0, 1) := by decide +kernel
theorem dX0_init_29 : decode cX0_init 29 = .ok (.getfield 9, 3) := by decide +kernel
theorem dX0_init_32 : decode cX0_init 32 = .ok (.iload_n 1, 1) := by decide +kernel
theorem dX0_init_33 : decode cX0_init 33 = .ok (.iconst 0, 1) := by decide +kernel
theorem dX0_init_34 : decode cX0_init 34 = .ok (.iastore, 1) := by decide +kernel
theorem dX0_init_35 : decode cX0_init 35 = .ok (.aload_n 0, 1) := by decide +kernel
theorem dX0_init_36 : decode cX0_init 36 = .ok (.getfield 15, 3) := by decide +kernel
theorem dX0_init_39 : decode cX0_init 39 = .ok (.iload_n 1, 1) := by decide +kernel
theorem dX0_init_40 : decode cX0_init 40 = .ok (.sipush 9999, 3) := by decide +kernel
theorem dX0_init_43 : decode cX0_init 43 = .ok (.iastore, 1) := by decide +kernel
theorem dX0_init_44 : decode cX0_init 44 = .ok (.iinc 1 1, 3) := by decide +kernel
theorem dX0_init_47 : decode cX0_init 47 = .ok (.goto (-25), 3) := by decide +kernel
theorem dX0_init_50 : decode cX0_init 50 = .ok (.return_, 1) := by decide +kernel
set_option maxRecDepth 20000 in
theorem ggX0_size_J6_bitCount_0f7a4 : GoodIn wsX0_size wsJ6_bitCount_0f7a4 := goodIn_r _ [5, 6, 7, 8] (by decide +kernel) (by decide +kernel)
set_option maxRecDepth 20000 in
theorem gX0_size_J6_bitCount_0f7a4 : GoodIn wsX0_size (va_wsS RX0 22 yJ6_bitCount_0f7a4 wsJ6_bitCount_0f7a4) := goodIn_app (goodIn_of _ (by decide +kernel)) ggX0_size_J6_bitCount_0f7a4
theorem dX0_size_0 : decode cX0_size 0 = .ok (.aload_n 0, 1) := by decide +kernel
theorem dX0_size_1 : decode cX0_size 1 = .ok (.getfield 18, 3) := by decide +kernel
theorem dX0_size_4 : decode cX0_size 4 = .ok (.invokestatic 22, 3) := by decide +kernel
theorem dX0_size_7 : decode cX0_size 7 = .ok (.ireturn, 1) := by decide +kernel
set_option maxRecDepth 20000 in
theorem ggX0_isAt_X3_has : GoodIn wsX0_isAt wsX3_has := goodIn_r _ [4] (by decide +kernel) (by decide +kernel)
set_option maxRecDepth 20000 in
theorem gX0_isAt_X3_has_n28 : GoodIn wsX0_isAt (wsX3_has) := ggX0_isAt_X3_has
theorem dX0_isAt_0 : decode cX0_isAt 0 = .ok (.aload_n 0, 1) := by decide +kernel
theorem dX0_isAt_1 : decode cX0_isAt 1 = .ok (.getfield 18, 3) := by decide +kernel
theorem dX0_isAt_4 : decode cX0_isAt 4 = .ok (.iload_n 1, 1) := by decide +kernel
theorem dX0_isAt_5 : decode cX0_isAt 5 = .ok (.invokestatic 28, 3) := by decide +kernel
theorem dX0_isAt_8 : decode cX0_isAt 8 = .ok (.ireturn, 1) := by decide +kernel
theorem dX0_firstAt_0 : decode cX0_firstAt 0 = .ok (.aload_n 0, 1) := by decide +kernel
theorem dX0_firstAt_1 : decode cX0_firstAt 1 = .ok (.getfield 9, 3) := by decide +kernel
theorem dX0_firstAt_4 : decode cX0_firstAt 4 = .ok (.iload_n 1, 1) := by decide +kernel
theorem dX0_firstAt_5 : decode cX0_firstAt 5 = .ok (.iaload, 1) := by decide +kernel
theorem dX0_firstAt_6 : decode cX0_firstAt 6 = .ok (.ireturn, 1) := by decide +kernel
theorem dX0_put_0 : decode cX0_put 0 = .ok (.aload_n 0, 1) := by decide +kernel
theorem dX0_put_1 : decode cX0_put 1 = .ok (.dup, 1) := by decide +kernel
theorem dX0_put_2 : decode cX0_put 2 = .ok (.getfield 18, 3) := by decide +kernel
theorem dX0_put_5 : decode cX0_put 5 = .ok (.iconst 1, 1) := by decide +kernel
theorem dX0_put_6 : decode cX0_put 6 = .ok (.iload_n 1, 1) := by decide +kernel
theorem dX0_put_7 : decode cX0_put 7 = .ok (.ishl, 1) := by decide +kernel
theorem dX0_put_8 : decode cX0_put 8 = .ok (.ior, 1) := by decide +kernel
theorem dX0_put_9 : decode cX0_put 9 = .ok (.putfield 18, 3) := by decide +kernel
theorem dX0_put_12 : decode cX0_put 12 = .ok (.aload_n 0, 1) := by decide +kernel
theorem dX0_put_13 : decode cX0_put 13 = .ok (.getfield 9, 3) := by decide +kernel
theorem dX0_put_16 : decode cX0_put 16 = .ok (.iload_n 1, 1) := by decide +kernel
theorem dX0_put_17 : decode cX0_put 17 = .ok (.iload_n 2, 1) := by decide +kernel
theorem dX0_put_18 : decode cX0_put 18 = .ok (.iastore, 1) := by decide +kernel
theorem dX0_put_19 : decode cX0_put 19 = .ok (.aload_n 0, 1) := by decide +kernel
theorem dX0_put_20 : decode cX0_put 20 = .ok (.getfield 15, 3) := by decide +kernel
theorem dX0_put_23 : decode cX0_put 23 = .ok (.iload_n 1, 1) := by decide +kernel
theorem dX0_put_24 : decode cX0_put 24 = .ok (.iload_n 3, 1) := by decide +kernel
theorem dX0_put_25 : decode cX0_put 25 = .ok (.iastore, 1) := by decide +kernel
theorem dX0_put_26 : decode cX0_put 26 = .ok (.return_, 1) := by decide +kernel
theorem dX0_take_0 : decode cX0_take 0 = .ok (.aload_n 0, 1) := by decide +kernel
theorem dX0_take_1 : decode cX0_take 1 = .ok (.dup, 1) := by decide +kernel
theorem dX0_take_2 : decode cX0_take 2 = .ok (.getfield 18, 3) := by decide +kernel
theorem dX0_take_5 : decode cX0_take 5 = .ok (.iconst 1, 1) := by decide +kernel
theorem dX0_take_6 : decode cX0_take 6 = .ok (.iload_n 1, 1) := by decide +kernel
theorem dX0_take_7 : decode cX0_take 7 = .ok (.ishl, 1) := by decide +kernel
theorem dX0_take_8 : decode cX0_take 8 = .ok (.iconst (-1), 1) := by decide +kernel
theorem dX0_take_9 : decode cX0_take 9 = .ok (.ixor, 1) := by decide +kernel
theorem dX0_take_10 : decode cX0_take 10 = .ok (.iand, 1) := by decide +kernel
theorem dX0_take_11 : decode cX0_take 11 = .ok (.putfield 18, 3) := by decide +kernel
theorem dX0_take_14 : decode cX0_take 14 = .ok (.aload_n 0, 1) := by decide +kernel
theorem dX0_take_15 : decode cX0_take 15 = .ok (.getfield 9, 3) := by decide +kernel
theorem dX0_take_18 : decode cX0_take 18 = .ok (.iload_n 1, 1) := by decide +kernel
theorem dX0_take_19 : decode cX0_take 19 = .ok (.iconst 0, 1) := by decide +kernel
theorem dX0_take_20 : decode cX0_take 20 = .ok (.iastore, 1) := by decide +kernel
theorem dX0_take_21 : decode cX0_take 21 = .ok (.aload_n 0, 1) := by decide +kernel
theorem dX0_take_22 : decode cX0_take 22 = .ok (.getfield 15, 3) := by decide +kernel
theorem dX0_take_25 : decode cX0_take 25 = .ok (.iload_n 1, 1) := by decide +kernel
theorem dX0_take_26 : decode cX0_take 26 = .ok (.sipush 9999, 3) := by decide +kernel
theorem dX0_take_29 : decode cX0_take 29 = .ok (.iastore, 1) := by decide +kernel
theorem dX0_take_30 : decode cX0_take 30 = .ok (.return_, 1) := by decide +kernel
theorem dX0_copy_0 : decode cX0_copy 0 = .ok (.aload_n 0, 1) := by decide +kernel
theorem dX0_copy_1 : decode cX0_copy 1 = .ok (.aload_n 1, 1) := by decide +kernel
theorem dX0_copy_2 : decode cX0_copy 2 = .ok (.getfield 18, 3) := by decide +kernel
theorem dX0_copy_5 : decode cX0_copy 5 = .ok (.putfield 18, 3) := by decide +kernel
theorem dX0_copy_8 : decode cX0_copy 8 = .ok (.iconst 0, 1) := by decide +kernel
theorem dX0_copy_9 : decode cX0_copy 9 = .ok (.istore_n 2, 1) := by decide +kernel
theorem dX0_copy_10 : decode cX0_copy 10 = .ok (.iload_n 2, 1) := by decide +kernel
theorem dX0_copy_11 : decode cX0_copy 11 = .ok (.bipush 14, 2) := by decide +kernel
theorem dX0_copy_13 : decode cX0_copy 13 = .ok (.if_icmp .ge 33, 3) := by decide +kernel
theorem dX0_copy_16 : decode cX0_copy 16 = .ok (.aload_n 0, 1) := by decide +kernel
theorem dX0_copy_17 : decode cX0_copy 17 = .ok (.getfield 9, 3) := by decide +kernel
theorem dX0_copy_20 : decode cX0_copy 20 = .ok (.iload_n 2, 1) := by decide +kernel
theorem dX0_copy_21 : decode cX0_copy 21 = .ok (.aload_n 1, 1) := by decide +kernel
theorem dX0_copy_22 : decode cX0_copy 22 = .ok (.getfield 9, 3) := by decide +kernel
theorem dX0_copy_25 : decode cX0_copy 25 = .ok (.iload_n 2, 1) := by decide +kernel
theorem dX0_copy_26 : decode cX0_copy 26 = .ok (.iaload, 1) := by decide +kernel
theorem dX0_copy_27 : decode cX0_copy 27 = .ok (.iastore, 1) := by decide +kernel
theorem dX0_copy_28 : decode cX0_copy 28 = .ok (.aload_n 0, 1) := by decide +kernel
theorem dX0_copy_29 : decode cX0_copy 29 = .ok (.getfield 15, 3) := by decide +kernel
theorem dX0_copy_32 : decode cX0_copy 32 = .ok (.iload_n 2, 1) := by decide +kernel
theorem dX0_copy_33 : decode cX0_copy 33 = .ok (.aload_n 1, 1) := by decide +kernel
theorem dX0_copy_34 : decode cX0_copy 34 = .ok (.getfield 15, 3) := by decide +kernel
theorem dX0_copy_37 : decode cX0_copy 37 = .ok (.iload_n 2, 1) := by decide +kernel
theorem dX0_copy_38 : decode cX0_copy 38 = .ok (.iaload, 1) := by decide +kernel
theorem dX0_copy_39 : decode cX0_copy 39 = .ok (.iastore, 1) := by decide +kernel
theorem dX0_copy_40 : decode cX0_copy 40 = .ok (.iinc 2 1, 3) := by decide +kernel
theorem dX0_copy_43 : decode cX0_copy 43 = .ok (.goto (-33), 3) := by decide +kernel
theorem dX0_copy_46 : decode cX0_copy 46 = .ok (.return_, 1) := by decide +kernel
set_option maxRecDepth 20000 in
theorem ggX0_greatestFirst_X3_has : GoodIn wsX0_greatestFirst wsX3_has := goodIn_r _ [8] (by decide +kernel) (by decide +kernel)
set_option maxRecDepth 20000 in
theorem gX0_greatestFirst_X3_has_n28 : GoodIn wsX0_greatestFirst (wsX3_has) := ggX0_greatestFirst_X3_has
theorem dX0_greatestFirst_0 : decode cX0_greatestFirst 0 = .ok (.iconst 0, 1) := by decide +kernel
theorem dX0_greatestFirst_1 : decode cX0_greatestFirst 1 = .ok (.istore_n 2, 1) := by decide +kernel
theorem dX0_greatestFirst_2 : decode cX0_greatestFirst 2 = .ok (.iconst 0, 1) := by decide +kernel
theorem dX0_greatestFirst_3 : decode cX0_greatestFirst 3 = .ok (.istore_n 3, 1) := by decide +kernel
theorem dX0_greatestFirst_4 : decode cX0_greatestFirst 4 = .ok (.iload_n 3, 1) := by decide +kernel
theorem dX0_greatestFirst_5 : decode cX0_greatestFirst 5 = .ok (.bipush 14, 2) := by decide +kernel
theorem dX0_greatestFirst_7 : decode cX0_greatestFirst 7 = .ok (.if_icmp .ge 28, 3) := by decide +kernel
theorem dX0_greatestFirst_10 : decode cX0_greatestFirst 10 = .ok (.iload_n 1, 1) := by decide +kernel
theorem dX0_greatestFirst_11 : decode cX0_greatestFirst 11 = .ok (.iload_n 3, 1) := by decide +kernel
theorem dX0_greatestFirst_12 : decode cX0_greatestFirst 12 = .ok (.invokestatic 28, 3) := by decide +kernel
theorem dX0_greatestFirst_15 : decode cX0_greatestFirst 15 = .ok (.ifCond .eq 14, 3) := by decide +kernel
theorem dX0_greatestFirst_18 : decode cX0_greatestFirst 18 = .ok (.iload_n 2, 1) := by decide +kernel
theorem dX0_greatestFirst_19 : decode cX0_greatestFirst 19 = .ok (.aload_n 0, 1) := by decide +kernel
theorem dX0_greatestFirst_20 : decode cX0_greatestFirst 20 = .ok (.getfield 9, 3) := by decide +kernel
theorem dX0_greatestFirst_23 : decode cX0_greatestFirst 23 = .ok (.iload_n 3, 1) := by decide +kernel
theorem dX0_greatestFirst_24 : decode cX0_greatestFirst 24 = .ok (.iaload, 1) := by decide +kernel
theorem dX0_greatestFirst_25 : decode cX0_greatestFirst 25 = .ok (.invokestatic 32, 3) := by decide +kernel
theorem dX0_greatestFirst_28 : decode cX0_greatestFirst 28 = .ok (.istore_n 2, 1) := by decide +kernel
theorem dX0_greatestFirst_29 : decode cX0_greatestFirst 29 = .ok (.iinc 3 1, 3) := by decide +kernel
theorem dX0_greatestFirst_32 : decode cX0_greatestFirst 32 = .ok (.goto (-28), 3) := by decide +kernel
theorem dX0_greatestFirst_35 : decode cX0_greatestFirst 35 = .ok (.iload_n 2, 1) := by decide +kernel
theorem dX0_greatestFirst_36 : decode cX0_greatestFirst 36 = .ok (.ireturn, 1) := by decide +kernel
set_option maxRecDepth 20000 in
theorem ggX0_leastLast_X3_has : GoodIn wsX0_leastLast wsX3_has := goodIn_r _ [8] (by decide +kernel) (by decide +kernel)
set_option maxRecDepth 20000 in
theorem gX0_leastLast_X3_has_n28 : GoodIn wsX0_leastLast (wsX3_has) := ggX0_leastLast_X3_has
theorem dX0_leastLast_0 : decode cX0_leastLast 0 = .ok (.sipush 9999, 3) := by decide +kernel
theorem dX0_leastLast_3 : decode cX0_leastLast 3 = .ok (.istore_n 2, 1) := by decide +kernel
theorem dX0_leastLast_4 : decode cX0_leastLast 4 = .ok (.iconst 0, 1) := by decide +kernel
theorem dX0_leastLast_5 : decode cX0_leastLast 5 = .ok (.istore_n 3, 1) := by decide +kernel
theorem dX0_leastLast_6 : decode cX0_leastLast 6 = .ok (.iload_n 3, 1) := by decide +kernel
theorem dX0_leastLast_7 : decode cX0_leastLast 7 = .ok (.bipush 14, 2) := by decide +kernel
theorem dX0_leastLast_9 : decode cX0_leastLast 9 = .ok (.if_icmp .ge 28, 3) := by decide +kernel
theorem dX0_leastLast_12 : decode cX0_leastLast 12 = .ok (.iload_n 1, 1) := by decide +kernel
theorem dX0_leastLast_13 : decode cX0_leastLast 13 = .ok (.iload_n 3, 1) := by decide +kernel
theorem dX0_leastLast_14 : decode cX0_leastLast 14 = .ok (.invokestatic 28, 3) := by decide +kernel
theorem dX0_leastLast_17 : decode cX0_leastLast 17 = .ok (.ifCond .eq 14, 3) := by decide +kernel
theorem dX0_leastLast_20 : decode cX0_leastLast 20 = .ok (.iload_n 2, 1) := by decide +kernel
theorem dX0_leastLast_21 : decode cX0_leastLast 21 = .ok (.aload_n 0, 1) := by decide +kernel
theorem dX0_leastLast_22 : decode cX0_leastLast 22 = .ok (.getfield 15, 3) := by decide +kernel
theorem dX0_leastLast_25 : decode cX0_leastLast 25 = .ok (.iload_n 3, 1) := by decide +kernel
theorem dX0_leastLast_26 : decode cX0_leastLast 26 = .ok (.iaload, 1) := by decide +kernel
theorem dX0_leastLast_27 : decode cX0_leastLast 27 = .ok (.invokestatic 38, 3) := by decide +kernel
theorem dX0_leastLast_30 : decode cX0_leastLast 30 = .ok (.istore_n 2, 1) := by decide +kernel
theorem dX0_leastLast_31 : decode cX0_leastLast 31 = .ok (.iinc 3 1, 3) := by decide +kernel
theorem dX0_leastLast_34 : decode cX0_leastLast 34 = .ok (.goto (-28), 3) := by decide +kernel
theorem dX0_leastLast_37 : decode cX0_leastLast 37 = .ok (.iload_n 2, 1) := by decide +kernel
theorem dX0_leastLast_38 : decode cX0_leastLast 38 = .ok (.ireturn, 1) := by decide +kernel
theorem dX1_init_0 : decode cX1_init 0 = .ok (.aload_n 0, 1) := by decide +kernel
theorem dX1_init_1 : decode cX1_init 1 = .ok (.invokespecial 3, 3) := by decide +kernel
theorem dX1_init_4 : decode cX1_init 4 = .ok (.aload_n 0, 1) := by decide +kernel
theorem dX1_init_5 : decode cX1_init 5 = .ok (.bipush 56, 2) := by decide +kernel
theorem dX1_init_7 : decode cX1_init 7 = .ok (.newarray .int, 2) := by decide +kernel
theorem dX1_init_9 : decode cX1_init 9 = .ok (.putfield 9, 3) := by decide +kernel
theorem dX1_init_12 : decode cX1_init 12 = .ok (.return_, 1) := by decide +kernel
theorem dX1_put_0 : decode cX1_put 0 = .ok (.iload_n 1, 1) := by decide +kernel
theorem dX1_put_1 : decode cX1_put 1 = .ok (.iconst 4, 1) := by decide +kernel
theorem dX1_put_2 : decode cX1_put 2 = .ok (.imul, 1) := by decide +kernel
theorem dX1_put_3 : decode cX1_put 3 = .ok (.iload_n 2, 1) := by decide +kernel
theorem dX1_put_4 : decode cX1_put 4 = .ok (.iadd, 1) := by decide +kernel
theorem dX1_put_5 : decode cX1_put 5 = .ok (.istore 4, 2) := by decide +kernel
theorem dX1_put_7 : decode cX1_put 7 = .ok (.aload_n 0, 1) := by decide +kernel
theorem dX1_put_8 : decode cX1_put 8 = .ok (.getfield 9, 3) := by decide +kernel
theorem dX1_put_11 : decode cX1_put 11 = .ok (.iload 4, 2) := by decide +kernel
theorem dX1_put_13 : decode cX1_put 13 = .ok (.iaload, 1) := by decide +kernel
theorem dX1_put_14 : decode cX1_put 14 = .ok (.istore 5, 2) := by decide +kernel
theorem dX1_put_16 : decode cX1_put 16 = .ok (.aload_n 0, 1) := by decide +kernel
theorem dX1_put_17 : decode cX1_put 17 = .ok (.getfield 9, 3) := by decide +kernel
theorem dX1_put_20 : decode cX1_put 20 = .ok (.iload 4, 2) := by decide +kernel
theorem dX1_put_22 : decode cX1_put 22 = .ok (.iload_n 3, 1) := by decide +kernel
theorem dX1_put_23 : decode cX1_put 23 = .ok (.iastore, 1) := by decide +kernel
theorem dX1_put_24 : decode cX1_put 24 = .ok (.iload 5, 2) := by decide +kernel
theorem dX1_put_26 : decode cX1_put 26 = .ok (.ireturn, 1) := by decide +kernel
set_option maxRecDepth 20000 in
theorem ggX1_sum_X3_has : GoodIn wsX1_sum wsX3_has := goodIn_r _ [4] (by decide +kernel) (by decide +kernel)
set_option maxRecDepth 20000 in
theorem gX1_sum_X3_has_n15 : GoodIn wsX1_sum (wsX3_has) := ggX1_sum_X3_has
theorem dX1_sum_0 : decode cX1_sum 0 = .ok (.iconst 0, 1) := by decide +kernel
theorem dX1_sum_1 : decode cX1_sum 1 = .ok (.istore_n 3, 1) := by decide +kernel
theorem dX1_sum_2 : decode cX1_sum 2 = .ok (.iconst 0, 1) := by decide +kernel
theorem dX1_sum_3 : decode cX1_sum 3 = .ok (.istore 4, 2) := by decide +kernel
theorem dX1_sum_5 : decode cX1_sum 5 = .ok (.iload 4, 2) := by decide +kernel
theorem dX1_sum_7 : decode cX1_sum 7 = .ok (.bipush 14, 2) := by decide +kernel
theorem dX1_sum_9 : decode cX1_sum 9 = .ok (.if_icmp .ge 32, 3) := by decide +kernel
theorem dX1_sum_12 : decode cX1_sum 12 = .ok (.iload_n 1, 1) := by decide +kernel
theorem dX1_sum_13 : decode cX1_sum 13 = .ok (.iload 4, 2) := by decide +kernel
theorem dX1_sum_15 : decode cX1_sum 15 = .ok (.invokestatic 15, 3) := by decide +kernel
theorem dX1_sum_18 : decode cX1_sum 18 = .ok (.ifCond .eq 17, 3) := by decide +kernel
theorem dX1_sum_21 : decode cX1_sum 21 = .ok (.iload_n 3, 1) := by decide +kernel
theorem dX1_sum_22 : decode cX1_sum 22 = .ok (.aload_n 0, 1) := by decide +kernel
theorem dX1_sum_23 : decode cX1_sum 23 = .ok (.getfield 9, 3) := by decide +kernel
theorem dX1_sum_26 : decode cX1_sum 26 = .ok (.iload 4, 2) := by decide +kernel
theorem dX1_sum_28 : decode cX1_sum 28 = .ok (.iconst 4, 1) := by decide +kernel
theorem dX1_sum_29 : decode cX1_sum 29 = .ok (.imul, 1) := by decide +kernel
theorem dX1_sum_30 : decode cX1_sum 30 = .ok (.iload_n 2, 1) := by decide +kernel
theorem dX1_sum_31 : decode cX1_sum 31 = .ok (.iadd, 1) := by decide +kernel
theorem dX1_sum_32 : decode cX1_sum 32 = .ok (.iaload, 1) := by decide +kernel
theorem dX1_sum_33 : decode cX1_sum 33 = .ok (.iadd, 1) := by decide +kernel
theorem dX1_sum_34 : decode cX1_sum 34 = .ok (.istore_n 3, 1) := by decide +kernel
theorem dX1_sum_35 : decode cX1_sum 35 = .ok (.iinc 4 1, 3) := by decide +kernel
theorem dX1_sum_38 : decode cX1_sum 38 = .ok (.goto (-33), 3) := by decide +kernel
theorem dX1_sum_41 : decode cX1_sum 41 = .ok (.iload_n 3, 1) := by decide +kernel
theorem dX1_sum_42 : decode cX1_sum 42 = .ok (.ireturn, 1) := by decide +kernel
theorem dX1_all_0 : decode cX1_all 0 = .ok (.iconst 0, 1) := by decide +kernel
theorem dX1_all_1 : decode cX1_all 1 = .ok (.istore_n 1, 1) := by decide +kernel
theorem dX1_all_2 : decode cX1_all 2 = .ok (.iconst 0, 1) := by decide +kernel
theorem dX1_all_3 : decode cX1_all 3 = .ok (.istore_n 2, 1) := by decide +kernel
theorem dX1_all_4 : decode cX1_all 4 = .ok (.iload_n 2, 1) := by decide +kernel
theorem dX1_all_5 : decode cX1_all 5 = .ok (.aload_n 0, 1) := by decide +kernel
theorem dX1_all_6 : decode cX1_all 6 = .ok (.getfield 9, 3) := by decide +kernel
theorem dX1_all_9 : decode cX1_all 9 = .ok (.arraylength, 1) := by decide +kernel
theorem dX1_all_10 : decode cX1_all 10 = .ok (.if_icmp .ge 18, 3) := by decide +kernel
theorem dX1_all_13 : decode cX1_all 13 = .ok (.iload_n 1, 1) := by decide +kernel
theorem dX1_all_14 : decode cX1_all 14 = .ok (.aload_n 0, 1) := by decide +kernel
theorem dX1_all_15 : decode cX1_all 15 = .ok (.getfield 9, 3) := by decide +kernel
theorem dX1_all_18 : decode cX1_all 18 = .ok (.iload_n 2, 1) := by decide +kernel
theorem dX1_all_19 : decode cX1_all 19 = .ok (.iaload, 1) := by decide +kernel
theorem dX1_all_20 : decode cX1_all 20 = .ok (.iadd, 1) := by decide +kernel
theorem dX1_all_21 : decode cX1_all 21 = .ok (.istore_n 1, 1) := by decide +kernel
theorem dX1_all_22 : decode cX1_all 22 = .ok (.iinc 2 1, 3) := by decide +kernel
theorem dX1_all_25 : decode cX1_all 25 = .ok (.goto (-21), 3) := by decide +kernel
theorem dX1_all_28 : decode cX1_all 28 = .ok (.iload_n 1, 1) := by decide +kernel
theorem dX1_all_29 : decode cX1_all 29 = .ok (.ireturn, 1) := by decide +kernel
theorem dX2_init_0 : decode cX2_init 0 = .ok (.aload_n 0, 1) := by decide +kernel
theorem dX2_init_1 : decode cX2_init 1 = .ok (.invokespecial 3, 3) := by decide +kernel
theorem dX2_init_4 : decode cX2_init 4 = .ok (.aload_n 0, 1) := by decide +kernel
theorem dX2_init_5 : decode cX2_init 5 = .ok (.bipush 14, 2) := by decide +kernel
theorem dX2_init_7 : decode cX2_init 7 = .ok (.newarray .int, 2) := by decide +kernel
theorem dX2_init_9 : decode cX2_init 9 = .ok (.putfield 9, 3) := by decide +kernel
theorem dX2_init_12 : decode cX2_init 12 = .ok (.aload_n 0, 1) := by decide +kernel
theorem dX2_init_13 : decode cX2_init 13 = .ok (.bipush 14, 2) := by decide +kernel
theorem dX2_init_15 : decode cX2_init 15 = .ok (.newarray .int, 2) := by decide +kernel
theorem dX2_init_17 : decode cX2_init 17 = .ok (.putfield 15, 3) := by decide +kernel
theorem dX2_init_20 : decode cX2_init 20 = .ok (.aload_n 0, 1) := by decide +kernel
theorem dX2_init_21 : decode cX2_init 21 = .ok (.bipush 14, 2) := by decide +kernel
theorem dX2_init_23 : decode cX2_init 23 = .ok (.newarray .int, 2) := by decide +kernel
theorem dX2_init_25 : decode cX2_init 25 = .ok (.putfield 18, 3) := by decide +kernel
theorem dX2_init_28 : decode cX2_init 28 = .ok (.aload_n 0, 1) := by decide +kernel
theorem dX2_init_29 : decode cX2_init 29 = .ok (.bipush 14, 2) := by decide +kernel
theorem dX2_init_31 : decode cX2_init 31 = .ok (.newarray .int, 2) := by decide +kernel
theorem dX2_init_33 : decode cX2_init 33 = .ok (.putfield 21, 3) := by decide +kernel
theorem dX2_init_36 : decode cX2_init 36 = .ok (.aload_n 0, 1) := by decide +kernel
theorem dX2_init_37 : decode cX2_init 37 = .ok (.bipush 14, 2) := by decide +kernel
theorem dX2_init_39 : decode cX2_init 39 = .ok (.newarray .int, 2) := by decide +kernel
theorem dX2_init_41 : decode cX2_init 41 = .ok (.putfield 24, 3) := by decide +kernel
theorem dX2_init_44 : decode cX2_init 44 = .ok (.return_, 1) := by decide +kernel
theorem dX2_size_0 : decode cX2_size 0 = .ok (.aload_n 0, 1) := by decide +kernel
theorem dX2_size_1 : decode cX2_size 1 = .ok (.getfield 27, 3) := by decide +kernel
theorem dX2_size_4 : decode cX2_size 4 = .ok (.ireturn, 1) := by decide +kernel
theorem dX2_alike_0 : decode cX2_alike 0 = .ok (.aload_n 0, 1) := by decide +kernel
theorem dX2_alike_1 : decode cX2_alike 1 = .ok (.getfield 9, 3) := by decide +kernel
theorem dX2_alike_4 : decode cX2_alike 4 = .ok (.iload_n 1, 1) := by decide +kernel
theorem dX2_alike_5 : decode cX2_alike 5 = .ok (.iaload, 1) := by decide +kernel
theorem dX2_alike_6 : decode cX2_alike 6 = .ok (.ireturn, 1) := by decide +kernel
theorem dX2_below_0 : decode cX2_below 0 = .ok (.aload_n 0, 1) := by decide +kernel
theorem dX2_below_1 : decode cX2_below 1 = .ok (.getfield 15, 3) := by decide +kernel
theorem dX2_below_4 : decode cX2_below 4 = .ok (.iload_n 1, 1) := by decide +kernel
theorem dX2_below_5 : decode cX2_below 5 = .ok (.iaload, 1) := by decide +kernel
theorem dX2_below_6 : decode cX2_below 6 = .ok (.ireturn, 1) := by decide +kernel
theorem dX2_onTop_0 : decode cX2_onTop 0 = .ok (.aload_n 0, 1) := by decide +kernel
theorem dX2_onTop_1 : decode cX2_onTop 1 = .ok (.getfield 18, 3) := by decide +kernel
theorem dX2_onTop_4 : decode cX2_onTop 4 = .ok (.iload_n 1, 1) := by decide +kernel
theorem dX2_onTop_5 : decode cX2_onTop 5 = .ok (.iaload, 1) := by decide +kernel
theorem dX2_onTop_6 : decode cX2_onTop 6 = .ok (.ireturn, 1) := by decide +kernel
theorem dX2_placed_0 : decode cX2_placed 0 = .ok (.aload_n 0, 1) := by decide +kernel
theorem dX2_placed_1 : decode cX2_placed 1 = .ok (.getfield 21, 3) := by decide +kernel
theorem dX2_placed_4 : decode cX2_placed 4 = .ok (.iload_n 1, 1) := by decide +kernel
theorem dX2_placed_5 : decode cX2_placed 5 = .ok (.iaload, 1) := by decide +kernel
theorem dX2_placed_6 : decode cX2_placed 6 = .ok (.ireturn, 1) := by decide +kernel
theorem dX2_phase_0 : decode cX2_phase 0 = .ok (.aload_n 0, 1) := by decide +kernel
theorem dX2_phase_1 : decode cX2_phase 1 = .ok (.getfield 24, 3) := by decide +kernel
theorem dX2_phase_4 : decode cX2_phase 4 = .ok (.iload_n 1, 1) := by decide +kernel
theorem dX2_phase_5 : decode cX2_phase 5 = .ok (.iaload, 1) := by decide +kernel
theorem dX2_phase_6 : decode cX2_phase 6 = .ok (.ireturn, 1) := by decide +kernel
set_option maxRecDepth 20000 in
theorem ggX2_isLater_X3_has : GoodIn wsX2_isLater wsX3_has := goodIn_r _ [4] (by decide +kernel) (by decide +kernel)
set_option maxRecDepth 20000 in
theorem gX2_isLater_X3_has_n31 : GoodIn wsX2_isLater (wsX3_has) := ggX2_isLater_X3_has
theorem dX2_isLater_0 : decode cX2_isLater 0 = .ok (.aload_n 0, 1) := by decide +kernel
theorem dX2_isLater_1 : decode cX2_isLater 1 = .ok (.getfield 15, 3) := by decide +kernel
theorem dX2_isLater_4 : decode cX2_isLater 4 = .ok (.iload_n 1, 1) := by decide +kernel
theorem dX2_isLater_5 : decode cX2_isLater 5 = .ok (.iaload, 1) := by decide +kernel
theorem dX2_isLater_6 : decode cX2_isLater 6 = .ok (.iload_n 2, 1) := by decide +kernel
theorem dX2_isLater_7 : decode cX2_isLater 7 = .ok (.invokestatic 31, 3) := by decide +kernel
theorem dX2_isLater_10 : decode cX2_isLater 10 = .ok (.ireturn, 1) := by decide +kernel
set_option maxRecDepth 20000 in
theorem ggX2_refusesAbove_X3_has : GoodIn wsX2_refusesAbove wsX3_has := goodIn_r _ [4] (by decide +kernel) (by decide +kernel)
set_option maxRecDepth 20000 in
theorem gX2_refusesAbove_X3_has_n31 : GoodIn wsX2_refusesAbove (wsX3_has) := ggX2_refusesAbove_X3_has
set_option maxRecDepth 20000 in
theorem ggX2_refusesAbove_X2_isLater : GoodIn wsX2_refusesAbove wsX2_isLater := goodIn_r _ [9, 10, 2, 3, 4, 11, 12, 13, 14, 15, 16] (by decide +kernel) (by decide +kernel)
set_option maxRecDepth 20000 in
theorem gX2_refusesAbove_X2_isLater : GoodIn wsX2_refusesAbove (wsV RX2 35 RX2 yX2_isLater wsX2_isLater) := goodIn_app (goodIn_of _ (by decide +kernel)) ggX2_refusesAbove_X2_isLater
theorem dX2_refusesAbove_0 : decode cX2_refusesAbove 0 = .ok (.aload_n 0, 1) := by decide +kernel
theorem dX2_refusesAbove_1 : decode cX2_refusesAbove 1 = .ok (.getfield 9, 3) := by decide +kernel
theorem dX2_refusesAbove_4 : decode cX2_refusesAbove 4 = .ok (.iload_n 1, 1) := by decide +kernel
theorem dX2_refusesAbove_5 : decode cX2_refusesAbove 5 = .ok (.iaload, 1) := by decide +kernel
theorem dX2_refusesAbove_6 : decode cX2_refusesAbove 6 = .ok (.iload_n 2, 1) := by decide +kernel
theorem dX2_refusesAbove_7 : decode cX2_refusesAbove 7 = .ok (.invokestatic 31, 3) := by decide +kernel
theorem dX2_refusesAbove_10 : decode cX2_refusesAbove 10 = .ok (.ifCond .ne 12, 3) := by decide +kernel
theorem dX2_refusesAbove_13 : decode cX2_refusesAbove 13 = .ok (.aload_n 0, 1) := by decide +kernel
theorem dX2_refusesAbove_14 : decode cX2_refusesAbove 14 = .ok (.iload_n 2, 1) := by decide +kernel
theorem dX2_refusesAbove_15 : decode cX2_refusesAbove 15 = .ok (.iload_n 1, 1) := by decide +kernel
theorem dX2_refusesAbove_16 : decode cX2_refusesAbove 16 = .ok (.invokevirtual 35, 3) := by decide +kernel
theorem dX2_refusesAbove_19 : decode cX2_refusesAbove 19 = .ok (.ifCond .eq 7, 3) := by decide +kernel
theorem dX2_refusesAbove_22 : decode cX2_refusesAbove 22 = .ok (.iconst 1, 1) := by decide +kernel
theorem dX2_refusesAbove_23 : decode cX2_refusesAbove 23 = .ok (.goto 4, 3) := by decide +kernel
theorem dX2_refusesAbove_26 : decode cX2_refusesAbove 26 = .ok (.iconst 0, 1) := by decide +kernel
theorem dX2_refusesAbove_27 : decode cX2_refusesAbove 27 = .ok (.ireturn, 1) := by decide +kernel
set_option maxRecDepth 20000 in
theorem ggX2_addLayer_X2_arrange : GoodIn wsX2_addLayer wsX2_arrange := goodIn_r _ [7, 1, 8, 9, 10, 11, 12, 13, 6, 14, 15, 16, 17, 18, 19, 20, 21, 22, 23, 24, 25, 26, 27, 28, 29, 30, 31] (by decide +kernel) (by decide +kernel)
set_option maxRecDepth 20000 in
theorem gX2_addLayer_X2_arrange : GoodIn wsX2_addLayer (wsV RX2 38 RX2 yX2_arrange wsX2_arrange) := goodIn_app (goodIn_of _ (by decide +kernel)) ggX2_addLayer_X2_arrange
theorem dX2_addLayer_0 : decode cX2_addLayer 0 = .ok (.aload_n 0, 1) := by decide +kernel
theorem dX2_addLayer_1 : decode cX2_addLayer 1 = .ok (.getfield 27, 3) := by decide +kernel
theorem dX2_addLayer_4 : decode cX2_addLayer 4 = .ok (.istore_n 1, 1) := by decide +kernel
theorem dX2_addLayer_5 : decode cX2_addLayer 5 = .ok (.aload_n 0, 1) := by decide +kernel
theorem dX2_addLayer_6 : decode cX2_addLayer 6 = .ok (.getfield 9, 3) := by decide +kernel
theorem dX2_addLayer_9 : decode cX2_addLayer 9 = .ok (.iload_n 1, 1) := by decide +kernel
theorem dX2_addLayer_10 : decode cX2_addLayer 10 = .ok (.iconst 1, 1) := by decide +kernel
theorem dX2_addLayer_11 : decode cX2_addLayer 11 = .ok (.iload_n 1, 1) := by decide +kernel
theorem dX2_addLayer_12 : decode cX2_addLayer 12 = .ok (.ishl, 1) := by decide +kernel
theorem dX2_addLayer_13 : decode cX2_addLayer 13 = .ok (.iastore, 1) := by decide +kernel
theorem dX2_addLayer_14 : decode cX2_addLayer 14 = .ok (.aload_n 0, 1) := by decide +kernel
theorem dX2_addLayer_15 : decode cX2_addLayer 15 = .ok (.iload_n 1, 1) := by decide +kernel
theorem dX2_addLayer_16 : decode cX2_addLayer 16 = .ok (.iconst 1, 1) := by decide +kernel
theorem dX2_addLayer_17 : decode cX2_addLayer 17 = .ok (.iadd, 1) := by decide +kernel
theorem dX2_addLayer_18 : decode cX2_addLayer 18 = .ok (.putfield 27, 3) := by decide +kernel
theorem dX2_addLayer_21 : decode cX2_addLayer 21 = .ok (.aload_n 0, 1) := by decide +kernel
theorem dX2_addLayer_22 : decode cX2_addLayer 22 = .ok (.invokevirtual 38, 3) := by decide +kernel
theorem dX2_addLayer_25 : decode cX2_addLayer 25 = .ok (.iload_n 1, 1) := by decide +kernel
theorem dX2_addLayer_26 : decode cX2_addLayer 26 = .ok (.ireturn, 1) := by decide +kernel
set_option maxRecDepth 20000 in
theorem ggX2_putAbove_X2_link : GoodIn wsX2_putAbove wsX2_link := goodIn_r _ [8, 9, 3, 2, 10, 11, 12, 31, 32, 33, 34, 35, 36] (by decide +kernel) (by decide +kernel)
set_option maxRecDepth 20000 in
theorem gX2_putAbove_X2_link : GoodIn wsX2_putAbove (wsV RX2 41 RX2 yX2_link wsX2_link) := goodIn_app (goodIn_of _ (by decide +kernel)) ggX2_putAbove_X2_link
set_option maxRecDepth 20000 in
theorem ggX2_putAbove_X2_arrange : GoodIn wsX2_putAbove wsX2_arrange := goodIn_r _ [16, 9, 17, 18, 3, 19, 20, 21, 7, 22, 10, 11, 12, 23, 24, 25, 26, 27, 28, 29, 30, 31, 32, 33, 34, 35, 36] (by decide +kernel) (by decide +kernel)
set_option maxRecDepth 20000 in
theorem gX2_putAbove_X2_arrange : GoodIn wsX2_putAbove (wsV RX2 38 RX2 yX2_arrange wsX2_arrange) := goodIn_app (goodIn_of _ (by decide +kernel)) ggX2_putAbove_X2_arrange
theorem dX2_putAbove_0 : decode cX2_putAbove 0 = .ok (.aload_n 0, 1) := by decide +kernel
theorem dX2_putAbove_1 : decode cX2_putAbove 1 = .ok (.aload_n 0, 1) := by decide +kernel
theorem dX2_putAbove_2 : decode cX2_putAbove 2 = .ok (.getfield 9, 3) := by decide +kernel
theorem dX2_putAbove_5 : decode cX2_putAbove 5 = .ok (.iload_n 1, 1) := by decide +kernel
theorem dX2_putAbove_6 : decode cX2_putAbove 6 = .ok (.iaload, 1) := by decide +kernel
theorem dX2_putAbove_7 : decode cX2_putAbove 7 = .ok (.aload_n 0, 1) := by decide +kernel
theorem dX2_putAbove_8 : decode cX2_putAbove 8 = .ok (.getfield 18, 3) := by decide +kernel
theorem dX2_putAbove_11 : decode cX2_putAbove 11 = .ok (.iload_n 1, 1) := by decide +kernel
theorem dX2_putAbove_12 : decode cX2_putAbove 12 = .ok (.iaload, 1) := by decide +kernel
theorem dX2_putAbove_13 : decode cX2_putAbove 13 = .ok (.ior, 1) := by decide +kernel
theorem dX2_putAbove_14 : decode cX2_putAbove 14 = .ok (.aload_n 0, 1) := by decide +kernel
theorem dX2_putAbove_15 : decode cX2_putAbove 15 = .ok (.getfield 9, 3) := by decide +kernel
theorem dX2_putAbove_18 : decode cX2_putAbove 18 = .ok (.iload_n 2, 1) := by decide +kernel
theorem dX2_putAbove_19 : decode cX2_putAbove 19 = .ok (.iaload, 1) := by decide +kernel
theorem dX2_putAbove_20 : decode cX2_putAbove 20 = .ok (.aload_n 0, 1) := by decide +kernel
theorem dX2_putAbove_21 : decode cX2_putAbove 21 = .ok (.getfield 15, 3) := by decide +kernel
theorem dX2_putAbove_24 : decode cX2_putAbove 24 = .ok (.iload_n 2, 1) := by decide +kernel
theorem dX2_putAbove_25 : decode cX2_putAbove 25 = .ok (.iaload, 1) := by decide +kernel
theorem dX2_putAbove_26 : decode cX2_putAbove 26 = .ok (.ior, 1) := by decide +kernel
theorem dX2_putAbove_27 : decode cX2_putAbove 27 = .ok (.invokevirtual 41, 3) := by decide +kernel
theorem dX2_putAbove_30 : decode cX2_putAbove 30 = .ok (.aload_n 0, 1) := by decide +kernel
theorem dX2_putAbove_31 : decode cX2_putAbove 31 = .ok (.invokevirtual 38, 3) := by decide +kernel
theorem dX2_putAbove_34 : decode cX2_putAbove 34 = .ok (.return_, 1) := by decide +kernel
set_option maxRecDepth 20000 in
theorem ggX2_join_X3_has : GoodIn wsX2_join wsX3_has := goodIn_r _ [7] (by decide +kernel) (by decide +kernel)
set_option maxRecDepth 20000 in
theorem gX2_join_X3_has_n31 : GoodIn wsX2_join (wsX3_has) := ggX2_join_X3_has
set_option maxRecDepth 20000 in
theorem ggX2_join_X2_link : GoodIn wsX2_join wsX2_link := goodIn_r _ [12, 4, 2, 3, 5, 6, 7, 31, 32, 33, 34, 35, 36] (by decide +kernel) (by decide +kernel)
set_option maxRecDepth 20000 in
theorem gX2_join_X2_link : GoodIn wsX2_join (wsV RX2 41 RX2 yX2_link wsX2_link) := goodIn_app (goodIn_of _ (by decide +kernel)) ggX2_join_X2_link
set_option maxRecDepth 20000 in
theorem ggX2_join_X2_arrange : GoodIn wsX2_join wsX2_arrange := goodIn_r _ [16, 4, 17, 18, 2, 19, 20, 21, 11, 22, 5, 6, 7, 23, 24, 25, 26, 27, 28, 29, 30, 31, 32, 33, 34, 35, 36] (by decide +kernel) (by decide +kernel)
set_option maxRecDepth 20000 in
theorem gX2_join_X2_arrange : GoodIn wsX2_join (wsV RX2 38 RX2 yX2_arrange wsX2_arrange) := goodIn_app (goodIn_of _ (by decide +kernel)) ggX2_join_X2_arrange
theorem dX2_join_0 : decode cX2_join 0 = .ok (.aload_n 0, 1) := by decide +kernel
theorem dX2_join_1 : decode cX2_join 1 = .ok (.getfield 9, 3) := by decide +kernel
theorem dX2_join_4 : decode cX2_join 4 = .ok (.iload_n 1, 1) := by decide +kernel
theorem dX2_join_5 : decode cX2_join 5 = .ok (.iaload, 1) := by decide +kernel
theorem dX2_join_6 : decode cX2_join 6 = .ok (.aload_n 0, 1) := by decide +kernel
theorem dX2_join_7 : decode cX2_join 7 = .ok (.getfield 9, 3) := by decide +kernel
theorem dX2_join_10 : decode cX2_join 10 = .ok (.iload_n 2, 1) := by decide +kernel
theorem dX2_join_11 : decode cX2_join 11 = .ok (.iaload, 1) := by decide +kernel
theorem dX2_join_12 : decode cX2_join 12 = .ok (.ior, 1) := by decide +kernel
theorem dX2_join_13 : decode cX2_join 13 = .ok (.istore_n 3, 1) := by decide +kernel
theorem dX2_join_14 : decode cX2_join 14 = .ok (.aload_n 0, 1) := by decide +kernel
theorem dX2_join_15 : decode cX2_join 15 = .ok (.getfield 15, 3) := by decide +kernel
theorem dX2_join_18 : decode cX2_join 18 = .ok (.iload_n 1, 1) := by decide +kernel
theorem dX2_join_19 : decode cX2_join 19 = .ok (.iaload, 1) := by decide +kernel
theorem dX2_join_20 : decode cX2_join 20 = .ok (.aload_n 0, 1) := by decide +kernel
theorem dX2_join_21 : decode cX2_join 21 = .ok (.getfield 15, 3) := by decide +kernel
theorem dX2_join_24 : decode cX2_join 24 = .ok (.iload_n 2, 1) := by decide +kernel
theorem dX2_join_25 : decode cX2_join 25 = .ok (.iaload, 1) := by decide +kernel
theorem dX2_join_26 : decode cX2_join 26 = .ok (.ior, 1) := by decide +kernel
theorem dX2_join_27 : decode cX2_join 27 = .ok (.istore 4, 2) := by decide +kernel
theorem dX2_join_29 : decode cX2_join 29 = .ok (.aload_n 0, 1) := by decide +kernel
theorem dX2_join_30 : decode cX2_join 30 = .ok (.getfield 18, 3) := by decide +kernel
theorem dX2_join_33 : decode cX2_join 33 = .ok (.iload_n 1, 1) := by decide +kernel
theorem dX2_join_34 : decode cX2_join 34 = .ok (.iaload, 1) := by decide +kernel
theorem dX2_join_35 : decode cX2_join 35 = .ok (.aload_n 0, 1) := by decide +kernel
theorem dX2_join_36 : decode cX2_join 36 = .ok (.getfield 18, 3) := by decide +kernel
theorem dX2_join_39 : decode cX2_join 39 = .ok (.iload_n 2, 1) := by decide +kernel
theorem dX2_join_40 : decode cX2_join 40 = .ok (.iaload, 1) := by decide +kernel
theorem dX2_join_41 : decode cX2_join 41 = .ok (.ior, 1) := by decide +kernel
theorem dX2_join_42 : decode cX2_join 42 = .ok (.istore 5, 2) := by decide +kernel
theorem dX2_join_44 : decode cX2_join 44 = .ok (.iconst 0, 1) := by decide +kernel
theorem dX2_join_45 : decode cX2_join 45 = .ok (.istore 6, 2) := by decide +kernel
theorem dX2_join_47 : decode cX2_join 47 = .ok (.iload 6, 2) := by decide +kernel
theorem dX2_join_49 : decode cX2_join 49 = .ok (.aload_n 0, 1) := by decide +kernel
theorem dX2_join_50 : decode cX2_join 50 = .ok (.getfield 27, 3) := by decide +kernel
theorem dX2_join_53 : decode cX2_join 53 = .ok (.if_icmp .ge 26, 3) := by decide +kernel
theorem dX2_join_56 : decode cX2_join 56 = .ok (.iload_n 3, 1) := by decide +kernel
theorem dX2_join_57 : decode cX2_join 57 = .ok (.iload 6, 2) := by decide +kernel
theorem dX2_join_59 : decode cX2_join 59 = .ok (.invokestatic 31, 3) := by decide +kernel
theorem dX2_join_62 : decode cX2_join 62 = .ok (.ifCond .eq 11, 3) := by decide +kernel
theorem dX2_join_65 : decode cX2_join 65 = .ok (.aload_n 0, 1) := by decide +kernel
theorem dX2_join_66 : decode cX2_join 66 = .ok (.getfield 9, 3) := by decide +kernel
theorem dX2_join_69 : decode cX2_join 69 = .ok (.iload 6, 2) := by decide +kernel
theorem dX2_join_71 : decode cX2_join 71 = .ok (.iload_n 3, 1) := by decide +kernel
theorem dX2_join_72 : decode cX2_join 72 = .ok (.iastore, 1) := by decide +kernel
theorem dX2_join_73 : decode cX2_join 73 = .ok (.iinc 6 1, 3) := by decide +kernel
theorem dX2_join_76 : decode cX2_join 76 = .ok (.goto (-29), 3) := by decide +kernel
theorem dX2_join_79 : decode cX2_join 79 = .ok (.aload_n 0, 1) := by decide +kernel
theorem dX2_join_80 : decode cX2_join 80 = .ok (.iload_n 3, 1) := by decide +kernel
theorem dX2_join_81 : decode cX2_join 81 = .ok (.iload 5, 2) := by decide +kernel
theorem dX2_join_83 : decode cX2_join 83 = .ok (.ior, 1) := by decide +kernel
theorem dX2_join_84 : decode cX2_join 84 = .ok (.iload 4, 2) := by decide +kernel
theorem dX2_join_86 : decode cX2_join 86 = .ok (.invokevirtual 41, 3) := by decide +kernel
theorem dX2_join_89 : decode cX2_join 89 = .ok (.aload_n 0, 1) := by decide +kernel
theorem dX2_join_90 : decode cX2_join 90 = .ok (.iload 5, 2) := by decide +kernel
theorem dX2_join_92 : decode cX2_join 92 = .ok (.iload_n 3, 1) := by decide +kernel
theorem dX2_join_93 : decode cX2_join 93 = .ok (.invokevirtual 41, 3) := by decide +kernel
theorem dX2_join_96 : decode cX2_join 96 = .ok (.aload_n 0, 1) := by decide +kernel
theorem dX2_join_97 : decode cX2_join 97 = .ok (.invokevirtual 38, 3) := by decide +kernel
theorem dX2_join_100 : decode cX2_join 100 = .ok (.return_, 1) := by decide +kernel
set_option maxRecDepth 20000 in
theorem ggX2_link_X3_has : GoodIn wsX2_link wsX3_has := goodIn_r _ [6] (by decide +kernel) (by decide +kernel)
set_option maxRecDepth 20000 in
theorem gX2_link_X3_has_n31 : GoodIn wsX2_link (wsX3_has) := ggX2_link_X3_has
theorem dX2_link_0 : decode cX2_link 0 = .ok (.iconst 0, 1) := by decide +kernel
theorem dX2_link_1 : decode cX2_link 1 = .ok (.istore_n 3, 1) := by decide +kernel
theorem dX2_link_2 : decode cX2_link 2 = .ok (.iload_n 3, 1) := by decide +kernel
theorem dX2_link_3 : decode cX2_link 3 = .ok (.aload_n 0, 1) := by decide +kernel
theorem dX2_link_4 : decode cX2_link 4 = .ok (.getfield 27, 3) := by decide +kernel
theorem dX2_link_7 : decode cX2_link 7 = .ok (.if_icmp .ge 45, 3) := by decide +kernel
theorem dX2_link_10 : decode cX2_link 10 = .ok (.iload_n 1, 1) := by decide +kernel
theorem dX2_link_11 : decode cX2_link 11 = .ok (.iload_n 3, 1) := by decide +kernel
theorem dX2_link_12 : decode cX2_link 12 = .ok (.invokestatic 31, 3) := by decide +kernel
theorem dX2_link_15 : decode cX2_link 15 = .ok (.ifCond .eq 13, 3) := by decide +kernel
theorem dX2_link_18 : decode cX2_link 18 = .ok (.aload_n 0, 1) := by decide +kernel
theorem dX2_link_19 : decode cX2_link 19 = .ok (.getfield 15, 3) := by decide +kernel
theorem dX2_link_22 : decode cX2_link 22 = .ok (.iload_n 3, 1) := by decide +kernel
theorem dX2_link_23 : decode cX2_link 23 = .ok (.dup2, 1) := by decide +kernel
theorem dX2_link_24 : decode cX2_link 24 = .ok (.iaload, 1) := by decide +kernel
theorem dX2_link_25 : decode cX2_link 25 = .ok (.iload_n 2, 1) := by decide +kernel
theorem dX2_link_26 : decode cX2_link 26 = .ok (.ior, 1) := by decide +kernel
theorem dX2_link_27 : decode cX2_link 27 = .ok (.iastore, 1) := by decide +kernel
theorem dX2_link_28 : decode cX2_link 28 = .ok (.iload_n 2, 1) := by decide +kernel
theorem dX2_link_29 : decode cX2_link 29 = .ok (.iload_n 3, 1) := by decide +kernel
theorem dX2_link_30 : decode cX2_link 30 = .ok (.invokestatic 31, 3) := by decide +kernel
theorem dX2_link_33 : decode cX2_link 33 = .ok (.ifCond .eq 13, 3) := by decide +kernel
theorem dX2_link_36 : decode cX2_link 36 = .ok (.aload_n 0, 1) := by decide +kernel
theorem dX2_link_37 : decode cX2_link 37 = .ok (.getfield 18, 3) := by decide +kernel
theorem dX2_link_40 : decode cX2_link 40 = .ok (.iload_n 3, 1) := by decide +kernel
theorem dX2_link_41 : decode cX2_link 41 = .ok (.dup2, 1) := by decide +kernel
theorem dX2_link_42 : decode cX2_link 42 = .ok (.iaload, 1) := by decide +kernel
theorem dX2_link_43 : decode cX2_link 43 = .ok (.iload_n 1, 1) := by decide +kernel
theorem dX2_link_44 : decode cX2_link 44 = .ok (.ior, 1) := by decide +kernel
theorem dX2_link_45 : decode cX2_link 45 = .ok (.iastore, 1) := by decide +kernel
theorem dX2_link_46 : decode cX2_link 46 = .ok (.iinc 3 1, 3) := by decide +kernel
theorem dX2_link_49 : decode cX2_link 49 = .ok (.goto (-47), 3) := by decide +kernel
theorem dX2_link_52 : decode cX2_link 52 = .ok (.return_, 1) := by decide +kernel
set_option maxRecDepth 20000 in
theorem ggX2_arrange_X2_lowestFree : GoodIn wsX2_arrange wsX2_lowestFree := goodIn_r _ [9, 1, 4, 10, 11, 12, 21, 22, 23, 24, 25, 26] (by decide +kernel) (by decide +kernel)
set_option maxRecDepth 20000 in
theorem gX2_arrange_X2_lowestFree : GoodIn wsX2_arrange (wsV RX2 45 RX2 yX2_lowestFree wsX2_lowestFree) := goodIn_app (goodIn_of _ (by decide +kernel)) ggX2_arrange_X2_lowestFree
set_option maxRecDepth 20000 in
theorem ggX2_arrange_X2_phaseOver : GoodIn wsX2_arrange wsX2_phaseOver := goodIn_r _ [16, 1, 3, 17, 18, 19, 20, 10, 11, 12, 21, 22, 23, 24, 25, 26] (by decide +kernel) (by decide +kernel)
set_option maxRecDepth 20000 in
theorem gX2_arrange_X2_phaseOver : GoodIn wsX2_arrange (wsV RX2 49 RX2 yX2_phaseOver wsX2_phaseOver) := goodIn_app (goodIn_of _ (by decide +kernel)) ggX2_arrange_X2_phaseOver
theorem dX2_arrange_0 : decode cX2_arrange 0 = .ok (.iconst 1, 1) := by decide +kernel
theorem dX2_arrange_1 : decode cX2_arrange 1 = .ok (.aload_n 0, 1) := by decide +kernel
theorem dX2_arrange_2 : decode cX2_arrange 2 = .ok (.getfield 27, 3) := by decide +kernel
theorem dX2_arrange_5 : decode cX2_arrange 5 = .ok (.ishl, 1) := by decide +kernel
theorem dX2_arrange_6 : decode cX2_arrange 6 = .ok (.iconst 1, 1) := by decide +kernel
theorem dX2_arrange_7 : decode cX2_arrange 7 = .ok (.isub, 1) := by decide +kernel
theorem dX2_arrange_8 : decode cX2_arrange 8 = .ok (.istore_n 1, 1) := by decide +kernel
theorem dX2_arrange_9 : decode cX2_arrange 9 = .ok (.iconst 0, 1) := by decide +kernel
theorem dX2_arrange_10 : decode cX2_arrange 10 = .ok (.istore_n 2, 1) := by decide +kernel
theorem dX2_arrange_11 : decode cX2_arrange 11 = .ok (.iload_n 2, 1) := by decide +kernel
theorem dX2_arrange_12 : decode cX2_arrange 12 = .ok (.aload_n 0, 1) := by decide +kernel
theorem dX2_arrange_13 : decode cX2_arrange 13 = .ok (.getfield 27, 3) := by decide +kernel
theorem dX2_arrange_16 : decode cX2_arrange 16 = .ok (.if_icmp .ge 46, 3) := by decide +kernel
theorem dX2_arrange_19 : decode cX2_arrange 19 = .ok (.aload_n 0, 1) := by decide +kernel
theorem dX2_arrange_20 : decode cX2_arrange 20 = .ok (.iload_n 1, 1) := by decide +kernel
theorem dX2_arrange_21 : decode cX2_arrange 21 = .ok (.invokevirtual 45, 3) := by decide +kernel
theorem dX2_arrange_24 : decode cX2_arrange 24 = .ok (.istore_n 3, 1) := by decide +kernel
theorem dX2_arrange_25 : decode cX2_arrange 25 = .ok (.aload_n 0, 1) := by decide +kernel
theorem dX2_arrange_26 : decode cX2_arrange 26 = .ok (.getfield 21, 3) := by decide +kernel
theorem dX2_arrange_29 : decode cX2_arrange 29 = .ok (.iload_n 2, 1) := by decide +kernel
theorem dX2_arrange_30 : decode cX2_arrange 30 = .ok (.iload_n 3, 1) := by decide +kernel
theorem dX2_arrange_31 : decode cX2_arrange 31 = .ok (.iastore, 1) := by decide +kernel
theorem dX2_arrange_32 : decode cX2_arrange 32 = .ok (.aload_n 0, 1) := by decide +kernel
theorem dX2_arrange_33 : decode cX2_arrange 33 = .ok (.getfield 24, 3) := by decide +kernel
theorem dX2_arrange_36 : decode cX2_arrange 36 = .ok (.iload_n 3, 1) := by decide +kernel
theorem dX2_arrange_37 : decode cX2_arrange 37 = .ok (.aload_n 0, 1) := by decide +kernel
theorem dX2_arrange_38 : decode cX2_arrange 38 = .ok (.aload_n 0, 1) := by decide +kernel
theorem dX2_arrange_39 : decode cX2_arrange 39 = .ok (.getfield 15, 3) := by decide +kernel
theorem dX2_arrange_42 : decode cX2_arrange 42 = .ok (.iload_n 3, 1) := by decide +kernel
theorem dX2_arrange_43 : decode cX2_arrange 43 = .ok (.iaload, 1) := by decide +kernel
theorem dX2_arrange_44 : decode cX2_arrange 44 = .ok (.invokevirtual 49, 3) := by decide +kernel
theorem dX2_arrange_47 : decode cX2_arrange 47 = .ok (.iastore, 1) := by decide +kernel
theorem dX2_arrange_48 : decode cX2_arrange 48 = .ok (.iload_n 1, 1) := by decide +kernel
theorem dX2_arrange_49 : decode cX2_arrange 49 = .ok (.iconst 1, 1) := by decide +kernel
theorem dX2_arrange_50 : decode cX2_arrange 50 = .ok (.iload_n 3, 1) := by decide +kernel
theorem dX2_arrange_51 : decode cX2_arrange 51 = .ok (.ishl, 1) := by decide +kernel
theorem dX2_arrange_52 : decode cX2_arrange 52 = .ok (.iconst (-1), 1) := by decide +kernel
theorem dX2_arrange_53 : decode cX2_arrange 53 = .ok (.ixor, 1) := by decide +kernel
theorem dX2_arrange_54 : decode cX2_arrange 54 = .ok (.iand, 1) := by decide +kernel
theorem dX2_arrange_55 : decode cX2_arrange 55 = .ok (.istore_n 1, 1) := by decide +kernel
theorem dX2_arrange_56 : decode cX2_arrange 56 = .ok (.iinc 2 1, 3) := by decide +kernel
theorem dX2_arrange_59 : decode cX2_arrange 59 = .ok (.goto (-48), 3) := by decide +kernel
theorem dX2_arrange_62 : decode cX2_arrange 62 = .ok (.return_, 1) := by decide +kernel
set_option maxRecDepth 20000 in
theorem ggX2_lowestFree_X3_has : GoodIn wsX2_lowestFree wsX3_has := goodIn_r _ [5] (by decide +kernel) (by decide +kernel)
set_option maxRecDepth 20000 in
theorem gX2_lowestFree_X3_has_n31 : GoodIn wsX2_lowestFree (wsX3_has) := ggX2_lowestFree_X3_has
theorem dX2_lowestFree_0 : decode cX2_lowestFree 0 = .ok (.iconst 0, 1) := by decide +kernel
theorem dX2_lowestFree_1 : decode cX2_lowestFree 1 = .ok (.istore_n 2, 1) := by decide +kernel
theorem dX2_lowestFree_2 : decode cX2_lowestFree 2 = .ok (.iload_n 2, 1) := by decide +kernel
theorem dX2_lowestFree_3 : decode cX2_lowestFree 3 = .ok (.aload_n 0, 1) := by decide +kernel
theorem dX2_lowestFree_4 : decode cX2_lowestFree 4 = .ok (.getfield 27, 3) := by decide +kernel
theorem dX2_lowestFree_7 : decode cX2_lowestFree 7 = .ok (.iconst 1, 1) := by decide +kernel
theorem dX2_lowestFree_8 : decode cX2_lowestFree 8 = .ok (.isub, 1) := by decide +kernel
theorem dX2_lowestFree_9 : decode cX2_lowestFree 9 = .ok (.if_icmp .ge 28, 3) := by decide +kernel
theorem dX2_lowestFree_12 : decode cX2_lowestFree 12 = .ok (.iload_n 1, 1) := by decide +kernel
theorem dX2_lowestFree_13 : decode cX2_lowestFree 13 = .ok (.iload_n 2, 1) := by decide +kernel
theorem dX2_lowestFree_14 : decode cX2_lowestFree 14 = .ok (.invokestatic 31, 3) := by decide +kernel
theorem dX2_lowestFree_17 : decode cX2_lowestFree 17 = .ok (.ifCond .eq 14, 3) := by decide +kernel
theorem dX2_lowestFree_20 : decode cX2_lowestFree 20 = .ok (.aload_n 0, 1) := by decide +kernel
theorem dX2_lowestFree_21 : decode cX2_lowestFree 21 = .ok (.getfield 15, 3) := by decide +kernel
theorem dX2_lowestFree_24 : decode cX2_lowestFree 24 = .ok (.iload_n 2, 1) := by decide +kernel
theorem dX2_lowestFree_25 : decode cX2_lowestFree 25 = .ok (.iaload, 1) := by decide +kernel
theorem dX2_lowestFree_26 : decode cX2_lowestFree 26 = .ok (.iload_n 1, 1) := by decide +kernel
theorem dX2_lowestFree_27 : decode cX2_lowestFree 27 = .ok (.iand, 1) := by decide +kernel
theorem dX2_lowestFree_28 : decode cX2_lowestFree 28 = .ok (.ifCond .eq 9, 3) := by decide +kernel
theorem dX2_lowestFree_31 : decode cX2_lowestFree 31 = .ok (.iinc 2 1, 3) := by decide +kernel
theorem dX2_lowestFree_34 : decode cX2_lowestFree 34 = .ok (.goto (-32), 3) := by decide +kernel
theorem dX2_lowestFree_37 : decode cX2_lowestFree 37 = .ok (.iload_n 2, 1) := by decide +kernel
theorem dX2_lowestFree_38 : decode cX2_lowestFree 38 = .ok (.ireturn, 1) := by decide +kernel
set_option maxRecDepth 20000 in
theorem ggX2_phaseOver_X3_has : GoodIn wsX2_phaseOver wsX3_has := goodIn_r _ [9] (by decide +kernel) (by decide +kernel)
set_option maxRecDepth 20000 in
theorem gX2_phaseOver_X3_has_n31 : GoodIn wsX2_phaseOver (wsX3_has) := ggX2_phaseOver_X3_has
theorem dX2_phaseOver_0 : decode cX2_phaseOver 0 = .ok (.iconst 0, 1) := by decide +kernel
theorem dX2_phaseOver_1 : decode cX2_phaseOver 1 = .ok (.istore_n 2, 1) := by decide +kernel
theorem dX2_phaseOver_2 : decode cX2_phaseOver 2 = .ok (.iconst 0, 1) := by decide +kernel
theorem dX2_phaseOver_3 : decode cX2_phaseOver 3 = .ok (.istore_n 3, 1) := by decide +kernel
theorem dX2_phaseOver_4 : decode cX2_phaseOver 4 = .ok (.iload_n 3, 1) := by decide +kernel
theorem dX2_phaseOver_5 : decode cX2_phaseOver 5 = .ok (.aload_n 0, 1) := by decide +kernel
theorem dX2_phaseOver_6 : decode cX2_phaseOver 6 = .ok (.getfield 27, 3) := by decide +kernel
theorem dX2_phaseOver_9 : decode cX2_phaseOver 9 = .ok (.if_icmp .ge 30, 3) := by decide +kernel
theorem dX2_phaseOver_12 : decode cX2_phaseOver 12 = .ok (.iload_n 1, 1) := by decide +kernel
theorem dX2_phaseOver_13 : decode cX2_phaseOver 13 = .ok (.iload_n 3, 1) := by decide +kernel
theorem dX2_phaseOver_14 : decode cX2_phaseOver 14 = .ok (.invokestatic 31, 3) := by decide +kernel
theorem dX2_phaseOver_17 : decode cX2_phaseOver 17 = .ok (.ifCond .eq 16, 3) := by decide +kernel
theorem dX2_phaseOver_20 : decode cX2_phaseOver 20 = .ok (.iload_n 2, 1) := by decide +kernel
theorem dX2_phaseOver_21 : decode cX2_phaseOver 21 = .ok (.aload_n 0, 1) := by decide +kernel
theorem dX2_phaseOver_22 : decode cX2_phaseOver 22 = .ok (.getfield 24, 3) := by decide +kernel
theorem dX2_phaseOver_25 : decode cX2_phaseOver 25 = .ok (.iload_n 3, 1) := by decide +kernel
theorem dX2_phaseOver_26 : decode cX2_phaseOver 26 = .ok (.iaload, 1) := by decide +kernel
theorem dX2_phaseOver_27 : decode cX2_phaseOver 27 = .ok (.iconst 1, 1) := by decide +kernel
theorem dX2_phaseOver_28 : decode cX2_phaseOver 28 = .ok (.iadd, 1) := by decide +kernel
theorem dX2_phaseOver_29 : decode cX2_phaseOver 29 = .ok (.invokestatic 52, 3) := by decide +kernel
theorem dX2_phaseOver_32 : decode cX2_phaseOver 32 = .ok (.istore_n 2, 1) := by decide +kernel
theorem dX2_phaseOver_33 : decode cX2_phaseOver 33 = .ok (.iinc 3 1, 3) := by decide +kernel
theorem dX2_phaseOver_36 : decode cX2_phaseOver 36 = .ok (.goto (-32), 3) := by decide +kernel
theorem dX2_phaseOver_39 : decode cX2_phaseOver 39 = .ok (.iload_n 2, 1) := by decide +kernel
theorem dX2_phaseOver_40 : decode cX2_phaseOver 40 = .ok (.ireturn, 1) := by decide +kernel
theorem dX2_phases_0 : decode cX2_phases 0 = .ok (.iconst 0, 1) := by decide +kernel
theorem dX2_phases_1 : decode cX2_phases 1 = .ok (.istore_n 1, 1) := by decide +kernel
theorem dX2_phases_2 : decode cX2_phases 2 = .ok (.iconst 0, 1) := by decide +kernel
theorem dX2_phases_3 : decode cX2_phases 3 = .ok (.istore_n 2, 1) := by decide +kernel
theorem dX2_phases_4 : decode cX2_phases 4 = .ok (.iload_n 2, 1) := by decide +kernel
theorem dX2_phases_5 : decode cX2_phases 5 = .ok (.aload_n 0, 1) := by decide +kernel
theorem dX2_phases_6 : decode cX2_phases 6 = .ok (.getfield 27, 3) := by decide +kernel
theorem dX2_phases_9 : decode cX2_phases 9 = .ok (.if_icmp .ge 22, 3) := by decide +kernel
theorem dX2_phases_12 : decode cX2_phases 12 = .ok (.iload_n 1, 1) := by decide +kernel
theorem dX2_phases_13 : decode cX2_phases 13 = .ok (.aload_n 0, 1) := by decide +kernel
theorem dX2_phases_14 : decode cX2_phases 14 = .ok (.getfield 24, 3) := by decide +kernel
theorem dX2_phases_17 : decode cX2_phases 17 = .ok (.iload_n 2, 1) := by decide +kernel
theorem dX2_phases_18 : decode cX2_phases 18 = .ok (.iaload, 1) := by decide +kernel
theorem dX2_phases_19 : decode cX2_phases 19 = .ok (.iconst 1, 1) := by decide +kernel
theorem dX2_phases_20 : decode cX2_phases 20 = .ok (.iadd, 1) := by decide +kernel
theorem dX2_phases_21 : decode cX2_phases 21 = .ok (.invokestatic 52, 3) := by decide +kernel
theorem dX2_phases_24 : decode cX2_phases 24 = .ok (.istore_n 1, 1) := by decide +kernel
theorem dX2_phases_25 : decode cX2_phases 25 = .ok (.iinc 2 1, 3) := by decide +kernel
theorem dX2_phases_28 : decode cX2_phases 28 = .ok (.goto (-24), 3) := by decide +kernel
theorem dX2_phases_31 : decode cX2_phases 31 = .ok (.iload_n 1, 1) := by decide +kernel
theorem dX2_phases_32 : decode cX2_phases 32 = .ok (.ireturn, 1) := by decide +kernel
set_option maxRecDepth 20000 in
theorem ggX2_pairs_J6_bitCount_0f7a4 : GoodIn wsX2_pairs wsJ6_bitCount_0f7a4 := goodIn_r _ [6, 7, 8, 9] (by decide +kernel) (by decide +kernel)
set_option maxRecDepth 20000 in
theorem gX2_pairs_J6_bitCount_0f7a4 : GoodIn wsX2_pairs (va_wsS RX2 58 yJ6_bitCount_0f7a4 wsJ6_bitCount_0f7a4) := goodIn_app (goodIn_of _ (by decide +kernel)) ggX2_pairs_J6_bitCount_0f7a4
theorem dX2_pairs_0 : decode cX2_pairs 0 = .ok (.iconst 0, 1) := by decide +kernel
theorem dX2_pairs_1 : decode cX2_pairs 1 = .ok (.istore_n 1, 1) := by decide +kernel
theorem dX2_pairs_2 : decode cX2_pairs 2 = .ok (.iconst 0, 1) := by decide +kernel
theorem dX2_pairs_3 : decode cX2_pairs 3 = .ok (.istore_n 2, 1) := by decide +kernel
theorem dX2_pairs_4 : decode cX2_pairs 4 = .ok (.iload_n 2, 1) := by decide +kernel
theorem dX2_pairs_5 : decode cX2_pairs 5 = .ok (.aload_n 0, 1) := by decide +kernel
theorem dX2_pairs_6 : decode cX2_pairs 6 = .ok (.getfield 27, 3) := by decide +kernel
theorem dX2_pairs_9 : decode cX2_pairs 9 = .ok (.if_icmp .ge 21, 3) := by decide +kernel
theorem dX2_pairs_12 : decode cX2_pairs 12 = .ok (.iload_n 1, 1) := by decide +kernel
theorem dX2_pairs_13 : decode cX2_pairs 13 = .ok (.aload_n 0, 1) := by decide +kernel
theorem dX2_pairs_14 : decode cX2_pairs 14 = .ok (.getfield 15, 3) := by decide +kernel
theorem dX2_pairs_17 : decode cX2_pairs 17 = .ok (.iload_n 2, 1) := by decide +kernel
theorem dX2_pairs_18 : decode cX2_pairs 18 = .ok (.iaload, 1) := by decide +kernel
theorem dX2_pairs_19 : decode cX2_pairs 19 = .ok (.invokestatic 58, 3) := by decide +kernel
theorem dX2_pairs_22 : decode cX2_pairs 22 = .ok (.iadd, 1) := by decide +kernel
theorem dX2_pairs_23 : decode cX2_pairs 23 = .ok (.istore_n 1, 1) := by decide +kernel
theorem dX2_pairs_24 : decode cX2_pairs 24 = .ok (.iinc 2 1, 3) := by decide +kernel
theorem dX2_pairs_27 : decode cX2_pairs 27 = .ok (.goto (-23), 3) := by decide +kernel
theorem dX2_pairs_30 : decode cX2_pairs 30 = .ok (.iload_n 1, 1) := by decide +kernel
theorem dX2_pairs_31 : decode cX2_pairs 31 = .ok (.ireturn, 1) := by decide +kernel
theorem dX2_sorts_0 : decode cX2_sorts 0 = .ok (.iconst 0, 1) := by decide +kernel
theorem dX2_sorts_1 : decode cX2_sorts 1 = .ok (.istore_n 1, 1) := by decide +kernel
theorem dX2_sorts_2 : decode cX2_sorts 2 = .ok (.iconst 0, 1) := by decide +kernel
theorem dX2_sorts_3 : decode cX2_sorts 3 = .ok (.istore_n 2, 1) := by decide +kernel
theorem dX2_sorts_4 : decode cX2_sorts 4 = .ok (.iload_n 2, 1) := by decide +kernel
theorem dX2_sorts_5 : decode cX2_sorts 5 = .ok (.aload_n 0, 1) := by decide +kernel
theorem dX2_sorts_6 : decode cX2_sorts 6 = .ok (.getfield 27, 3) := by decide +kernel
theorem dX2_sorts_9 : decode cX2_sorts 9 = .ok (.if_icmp .ge 27, 3) := by decide +kernel
theorem dX2_sorts_12 : decode cX2_sorts 12 = .ok (.aload_n 0, 1) := by decide +kernel
theorem dX2_sorts_13 : decode cX2_sorts 13 = .ok (.getfield 9, 3) := by decide +kernel
theorem dX2_sorts_16 : decode cX2_sorts 16 = .ok (.iload_n 2, 1) := by decide +kernel
theorem dX2_sorts_17 : decode cX2_sorts 17 = .ok (.iaload, 1) := by decide +kernel
theorem dX2_sorts_18 : decode cX2_sorts 18 = .ok (.iconst 1, 1) := by decide +kernel
theorem dX2_sorts_19 : decode cX2_sorts 19 = .ok (.iload_n 2, 1) := by decide +kernel
theorem dX2_sorts_20 : decode cX2_sorts 20 = .ok (.ishl, 1) := by decide +kernel
theorem dX2_sorts_21 : decode cX2_sorts 21 = .ok (.iconst 1, 1) := by decide +kernel
theorem dX2_sorts_22 : decode cX2_sorts 22 = .ok (.isub, 1) := by decide +kernel
theorem dX2_sorts_23 : decode cX2_sorts 23 = .ok (.iand, 1) := by decide +kernel
theorem dX2_sorts_24 : decode cX2_sorts 24 = .ok (.ifCond .ne 6, 3) := by decide +kernel
theorem dX2_sorts_27 : decode cX2_sorts 27 = .ok (.iinc 1 1, 3) := by decide +kernel
theorem dX2_sorts_30 : decode cX2_sorts 30 = .ok (.iinc 2 1, 3) := by decide +kernel
theorem dX2_sorts_33 : decode cX2_sorts 33 = .ok (.goto (-29), 3) := by decide +kernel
theorem dX2_sorts_36 : decode cX2_sorts 36 = .ok (.iload_n 1, 1) := by decide +kernel
theorem dX2_sorts_37 : decode cX2_sorts 37 = .ok (.ireturn, 1) := by decide +kernel

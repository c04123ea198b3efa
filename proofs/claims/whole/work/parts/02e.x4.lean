theorem dX4_init_0 : decode cX4_init 0 = .ok (.aload_n 0, 1) := by decide +kernel
theorem dX4_init_1 : decode cX4_init 1 = .ok (.invokespecial 1, 3) := by decide +kernel
theorem dX4_init_4 : decode cX4_init 4 = .ok (.aload_n 0, 1) := by decide +kernel
theorem dX4_init_5 : decode cX4_init 5 = .ok (.bipush 14, 2) := by decide +kernel
theorem dX4_init_7 : decode cX4_init 7 = .ok (.newarray .int, 2) := by decide +kernel
theorem dX4_init_9 : decode cX4_init 9 = .ok (.putfield 9, 3) := by decide +kernel
theorem dX4_init_12 : decode cX4_init 12 = .ok (.aload_n 0, 1) := by decide +kernel
theorem dX4_init_13 : decode cX4_init 13 = .ok (.bipush 14, 2) := by decide +kernel
theorem dX4_init_15 : decode cX4_init 15 = .ok (.newarray .int, 2) := by decide +kernel
theorem dX4_init_17 : decode cX4_init 17 = .ok (.putfield 13, 3) := by decide +kernel
theorem dX4_init_20 : decode cX4_init 20 = .ok (.aload_n 0, 1) := by decide +kernel
theorem dX4_init_21 : decode cX4_init 21 = .ok (.bipush 56, 2) := by decide +kernel
theorem dX4_init_23 : decode cX4_init 23 = .ok (.newarray .int, 2) := by decide +kernel
theorem dX4_init_25 : decode cX4_init 25 = .ok (.putfield 16, 3) := by decide +kernel
theorem dX4_init_28 : decode cX4_init 28 = .ok (.aload_n 0, 1) := by decide +kernel
theorem dX4_init_29 : decode cX4_init 29 = .ok (.bipush 14, 2) := by decide +kernel
theorem dX4_init_31 : decode cX4_init 31 = .ok (.newarray .int, 2) := by decide +kernel
theorem dX4_init_33 : decode cX4_init 33 = .ok (.putfield 19, 3) := by decide +kernel
theorem dX4_init_36 : decode cX4_init 36 = .ok (.aload_n 0, 1) := by decide +kernel
theorem dX4_init_37 : decode cX4_init 37 = .ok (.bipush 14, 2) := by decide +kernel
theorem dX4_init_39 : decode cX4_init 39 = .ok (.newarray .int, 2) := by decide +kernel
theorem dX4_init_41 : decode cX4_init 41 = .ok (.putfield 22, 3) := by decide +kernel
theorem dX4_init_44 : decode cX4_init 44 = .ok (.return_, 1) := by decide +kernel
theorem dX4_thrown_0 : decode cX4_thrown 0 = .ok (.aload_n 0, 1) := by decide +kernel
theorem dX4_thrown_1 : decode cX4_thrown 1 = .ok (.getfield 25, 3) := by decide +kernel
theorem dX4_thrown_4 : decode cX4_thrown 4 = .ok (.ireturn, 1) := by decide +kernel
theorem dX4_fail_0 : decode cX4_fail 0 = .ok (.aload_n 0, 1) := by decide +kernel
theorem dX4_fail_1 : decode cX4_fail 1 = .ok (.iload_n 1, 1) := by decide +kernel
theorem dX4_fail_2 : decode cX4_fail 2 = .ok (.putfield 25, 3) := by decide +kernel
theorem dX4_fail_5 : decode cX4_fail 5 = .ok (.iconst 0, 1) := by decide +kernel
theorem dX4_fail_6 : decode cX4_fail 6 = .ok (.ireturn, 1) := by decide +kernel
theorem dX4_isIn_0 : decode cX4_isIn 0 = .ok (.iload_n 0, 1) := by decide +kernel
theorem dX4_isIn_1 : decode cX4_isIn 1 = .ok (.iload_n 1, 1) := by decide +kernel
theorem dX4_isIn_2 : decode cX4_isIn 2 = .ok (.if_icmp .lt 12, 3) := by decide +kernel
theorem dX4_isIn_5 : decode cX4_isIn 5 = .ok (.iload_n 0, 1) := by decide +kernel
theorem dX4_isIn_6 : decode cX4_isIn 6 = .ok (.iload_n 2, 1) := by decide +kernel
theorem dX4_isIn_7 : decode cX4_isIn 7 = .ok (.if_icmp .gt 7, 3) := by decide +kernel
theorem dX4_isIn_10 : decode cX4_isIn 10 = .ok (.iconst 1, 1) := by decide +kernel
theorem dX4_isIn_11 : decode cX4_isIn 11 = .ok (.goto 4, 3) := by decide +kernel
theorem dX4_isIn_14 : decode cX4_isIn 14 = .ok (.iconst 0, 1) := by decide +kernel
theorem dX4_isIn_15 : decode cX4_isIn 15 = .ok (.ireturn, 1) := by decide +kernel
set_option maxRecDepth 20000 in
theorem ggX4_isLayer_X4_isIn : GoodIn wsX4_isLayer wsX4_isIn := goodIn_r _ [5] (by decide +kernel) (by decide +kernel)
set_option maxRecDepth 20000 in
theorem gX4_isLayer_X4_isIn : GoodIn wsX4_isLayer (va_wsS RX4 32 yX4_isIn wsX4_isIn) := goodIn_app (goodIn_of _ (by decide +kernel)) ggX4_isLayer_X4_isIn
theorem dX4_isLayer_0 : decode cX4_isLayer 0 = .ok (.iload_n 1, 1) := by decide +kernel
theorem dX4_isLayer_1 : decode cX4_isLayer 1 = .ok (.iconst 0, 1) := by decide +kernel
theorem dX4_isLayer_2 : decode cX4_isLayer 2 = .ok (.aload_n 0, 1) := by decide +kernel
theorem dX4_isLayer_3 : decode cX4_isLayer 3 = .ok (.getfield 29, 3) := by decide +kernel
theorem dX4_isLayer_6 : decode cX4_isLayer 6 = .ok (.iconst 1, 1) := by decide +kernel
theorem dX4_isLayer_7 : decode cX4_isLayer 7 = .ok (.isub, 1) := by decide +kernel
theorem dX4_isLayer_8 : decode cX4_isLayer 8 = .ok (.invokestatic 32, 3) := by decide +kernel
theorem dX4_isLayer_11 : decode cX4_isLayer 11 = .ok (.ireturn, 1) := by decide +kernel
theorem dX4_has_0 : decode cX4_has 0 = .ok (.iload_n 0, 1) := by decide +kernel
theorem dX4_has_1 : decode cX4_has 1 = .ok (.iload_n 1, 1) := by decide +kernel
theorem dX4_has_2 : decode cX4_has 2 = .ok (.ishr, 1) := by decide +kernel
theorem dX4_has_3 : decode cX4_has 3 = .ok (.iconst 1, 1) := by decide +kernel
theorem dX4_has_4 : decode cX4_has 4 = .ok (.iand, 1) := by decide +kernel
theorem dX4_has_5 : decode cX4_has 5 = .ok (.iconst 1, 1) := by decide +kernel
theorem dX4_has_6 : decode cX4_has 6 = .ok (.if_icmp .ne 7, 3) := by decide +kernel
theorem dX4_has_9 : decode cX4_has 9 = .ok (.iconst 1, 1) := by decide +kernel
theorem dX4_has_10 : decode cX4_has 10 = .ok (.goto 4, 3) := by decide +kernel
theorem dX4_has_13 : decode cX4_has 13 = .ok (.iconst 0, 1) := by decide +kernel
theorem dX4_has_14 : decode cX4_has 14 = .ok (.ireturn, 1) := by decide +kernel
theorem dX4_size_0 : decode cX4_size 0 = .ok (.iconst 0, 1) := by decide +kernel
theorem dX4_size_1 : decode cX4_size 1 = .ok (.istore_n 1, 1) := by decide +kernel
theorem dX4_size_2 : decode cX4_size 2 = .ok (.iconst 0, 1) := by decide +kernel
theorem dX4_size_3 : decode cX4_size 3 = .ok (.istore_n 2, 1) := by decide +kernel
theorem dX4_size_4 : decode cX4_size 4 = .ok (.iload_n 2, 1) := by decide +kernel
theorem dX4_size_5 : decode cX4_size 5 = .ok (.bipush 14, 2) := by decide +kernel
theorem dX4_size_7 : decode cX4_size 7 = .ok (.if_icmp .ge 17, 3) := by decide +kernel
theorem dX4_size_10 : decode cX4_size 10 = .ok (.iload_n 1, 1) := by decide +kernel
theorem dX4_size_11 : decode cX4_size 11 = .ok (.iload_n 0, 1) := by decide +kernel
theorem dX4_size_12 : decode cX4_size 12 = .ok (.iload_n 2, 1) := by decide +kernel
theorem dX4_size_13 : decode cX4_size 13 = .ok (.ishr, 1) := by decide +kernel
theorem dX4_size_14 : decode cX4_size 14 = .ok (.iconst 1, 1) := by decide +kernel
theorem dX4_size_15 : decode cX4_size 15 = .ok (.iand, 1) := by decide +kernel
theorem dX4_size_16 : decode cX4_size 16 = .ok (.iadd, 1) := by decide +kernel
theorem dX4_size_17 : decode cX4_size 17 = .ok (.istore_n 1, 1) := by decide +kernel
theorem dX4_size_18 : decode cX4_size 18 = .ok (.iinc 2 1, 3) := by decide +kernel
theorem dX4_size_21 : decode cX4_size 21 = .ok (.goto (-17), 3) := by decide +kernel
theorem dX4_size_24 : decode cX4_size 24 = .ok (.iload_n 1, 1) := by decide +kernel
theorem dX4_size_25 : decode cX4_size 25 = .ok (.ireturn, 1) := by decide +kernel
set_option maxRecDepth 20000 in
theorem ggX4_find_X4_fail : GoodIn wsX4_find wsX4_fail := goodIn_r _ [9, 1, 10, 11, 12, 13, 14, 15, 16] (by decide +kernel) (by decide +kernel)
set_option maxRecDepth 20000 in
theorem gX4_find_X4_fail : GoodIn wsX4_find (wsV RX4 36 RX4 yX4_fail wsX4_fail) := goodIn_app (goodIn_of _ (by decide +kernel)) ggX4_find_X4_fail
theorem dX4_find_0 : decode cX4_find 0 = .ok (.aload_n 0, 1) := by decide +kernel
theorem dX4_find_1 : decode cX4_find 1 = .ok (.iconst 0, 1) := by decide +kernel
theorem dX4_find_2 : decode cX4_find 2 = .ok (.putfield 25, 3) := by decide +kernel
theorem dX4_find_5 : decode cX4_find 5 = .ok (.aload_n 0, 1) := by decide +kernel
theorem dX4_find_6 : decode cX4_find 6 = .ok (.getfield 29, 3) := by decide +kernel
theorem dX4_find_9 : decode cX4_find 9 = .ok (.bipush 14, 2) := by decide +kernel
theorem dX4_find_11 : decode cX4_find 11 = .ok (.if_icmp .ne 9, 3) := by decide +kernel
theorem dX4_find_14 : decode cX4_find 14 = .ok (.aload_n 0, 1) := by decide +kernel
theorem dX4_find_15 : decode cX4_find 15 = .ok (.iconst 1, 1) := by decide +kernel
theorem dX4_find_16 : decode cX4_find 16 = .ok (.invokevirtual 36, 3) := by decide +kernel
theorem dX4_find_19 : decode cX4_find 19 = .ok (.ireturn, 1) := by decide +kernel
theorem dX4_find_20 : decode cX4_find 20 = .ok (.aload_n 0, 1) := by decide +kernel
theorem dX4_find_21 : decode cX4_find 21 = .ok (.getfield 9, 3) := by decide +kernel
theorem dX4_find_24 : decode cX4_find 24 = .ok (.aload_n 0, 1) := by decide +kernel
theorem dX4_find_25 : decode cX4_find 25 = .ok (.getfield 29, 3) := by decide +kernel
theorem dX4_find_28 : decode cX4_find 28 = .ok (.iconst 1, 1) := by decide +kernel
theorem dX4_find_29 : decode cX4_find 29 = .ok (.aload_n 0, 1) := by decide +kernel
theorem dX4_find_30 : decode cX4_find 30 = .ok (.getfield 29, 3) := by decide +kernel
theorem dX4_find_33 : decode cX4_find 33 = .ok (.ishl, 1) := by decide +kernel
theorem dX4_find_34 : decode cX4_find 34 = .ok (.iastore, 1) := by decide +kernel
theorem dX4_find_35 : decode cX4_find 35 = .ok (.aload_n 0, 1) := by decide +kernel
theorem dX4_find_36 : decode cX4_find 36 = .ok (.getfield 19, 3) := by decide +kernel
theorem dX4_find_39 : decode cX4_find 39 = .ok (.aload_n 0, 1) := by decide +kernel
theorem dX4_find_40 : decode cX4_find 40 = .ok (.getfield 29, 3) := by decide +kernel
theorem dX4_find_43 : decode cX4_find 43 = .ok (.iconst (-1), 1) := by decide +kernel
theorem dX4_find_44 : decode cX4_find 44 = .ok (.iastore, 1) := by decide +kernel
theorem dX4_find_45 : decode cX4_find 45 = .ok (.aload_n 0, 1) := by decide +kernel
theorem dX4_find_46 : decode cX4_find 46 = .ok (.dup, 1) := by decide +kernel
theorem dX4_find_47 : decode cX4_find 47 = .ok (.getfield 29, 3) := by decide +kernel
theorem dX4_find_50 : decode cX4_find 50 = .ok (.iconst 1, 1) := by decide +kernel
theorem dX4_find_51 : decode cX4_find 51 = .ok (.iadd, 1) := by decide +kernel
theorem dX4_find_52 : decode cX4_find 52 = .ok (.putfield 29, 3) := by decide +kernel
theorem dX4_find_55 : decode cX4_find 55 = .ok (.aload_n 0, 1) := by decide +kernel
theorem dX4_find_56 : decode cX4_find 56 = .ok (.getfield 29, 3) := by decide +kernel
theorem dX4_find_59 : decode cX4_find 59 = .ok (.iconst 1, 1) := by decide +kernel
theorem dX4_find_60 : decode cX4_find 60 = .ok (.isub, 1) := by decide +kernel
theorem dX4_find_61 : decode cX4_find 61 = .ok (.ireturn, 1) := by decide +kernel
theorem dX4_andAbove_0 : decode cX4_andAbove 0 = .ok (.iload_n 1, 1) := by decide +kernel
theorem dX4_andAbove_1 : decode cX4_andAbove 1 = .ok (.istore_n 2, 1) := by decide +kernel
theorem dX4_andAbove_2 : decode cX4_andAbove 2 = .ok (.iconst 0, 1) := by decide +kernel
theorem dX4_andAbove_3 : decode cX4_andAbove 3 = .ok (.istore_n 3, 1) := by decide +kernel
theorem dX4_andAbove_4 : decode cX4_andAbove 4 = .ok (.iload_n 3, 1) := by decide +kernel
theorem dX4_andAbove_5 : decode cX4_andAbove 5 = .ok (.aload_n 0, 1) := by decide +kernel
theorem dX4_andAbove_6 : decode cX4_andAbove 6 = .ok (.getfield 29, 3) := by decide +kernel
theorem dX4_andAbove_9 : decode cX4_andAbove 9 = .ok (.if_icmp .ge 26, 3) := by decide +kernel
theorem dX4_andAbove_12 : decode cX4_andAbove 12 = .ok (.aload_n 0, 1) := by decide +kernel
theorem dX4_andAbove_13 : decode cX4_andAbove 13 = .ok (.getfield 13, 3) := by decide +kernel
theorem dX4_andAbove_16 : decode cX4_andAbove 16 = .ok (.iload_n 3, 1) := by decide +kernel
theorem dX4_andAbove_17 : decode cX4_andAbove 17 = .ok (.iaload, 1) := by decide +kernel
theorem dX4_andAbove_18 : decode cX4_andAbove 18 = .ok (.iload_n 1, 1) := by decide +kernel
theorem dX4_andAbove_19 : decode cX4_andAbove 19 = .ok (.iand, 1) := by decide +kernel
theorem dX4_andAbove_20 : decode cX4_andAbove 20 = .ok (.ifCond .eq 9, 3) := by decide +kernel
theorem dX4_andAbove_23 : decode cX4_andAbove 23 = .ok (.iload_n 2, 1) := by decide +kernel
theorem dX4_andAbove_24 : decode cX4_andAbove 24 = .ok (.iconst 1, 1) := by decide +kernel
theorem dX4_andAbove_25 : decode cX4_andAbove 25 = .ok (.iload_n 3, 1) := by decide +kernel
theorem dX4_andAbove_26 : decode cX4_andAbove 26 = .ok (.ishl, 1) := by decide +kernel
theorem dX4_andAbove_27 : decode cX4_andAbove 27 = .ok (.ior, 1) := by decide +kernel
theorem dX4_andAbove_28 : decode cX4_andAbove 28 = .ok (.istore_n 2, 1) := by decide +kernel
theorem dX4_andAbove_29 : decode cX4_andAbove 29 = .ok (.iinc 3 1, 3) := by decide +kernel
theorem dX4_andAbove_32 : decode cX4_andAbove 32 = .ok (.goto (-28), 3) := by decide +kernel
theorem dX4_andAbove_35 : decode cX4_andAbove 35 = .ok (.iload_n 2, 1) := by decide +kernel
theorem dX4_andAbove_36 : decode cX4_andAbove 36 = .ok (.ireturn, 1) := by decide +kernel
set_option maxRecDepth 20000 in
theorem ggX4_andBeneath_X4_has : GoodIn wsX4_andBeneath wsX4_has := goodIn_r _ [6] (by decide +kernel) (by decide +kernel)
set_option maxRecDepth 20000 in
theorem gX4_andBeneath_X4_has : GoodIn wsX4_andBeneath (va_wsS RX4 40 yX4_has wsX4_has) := goodIn_app (goodIn_of _ (by decide +kernel)) ggX4_andBeneath_X4_has
theorem dX4_andBeneath_0 : decode cX4_andBeneath 0 = .ok (.iload_n 1, 1) := by decide +kernel
theorem dX4_andBeneath_1 : decode cX4_andBeneath 1 = .ok (.istore_n 2, 1) := by decide +kernel
theorem dX4_andBeneath_2 : decode cX4_andBeneath 2 = .ok (.iconst 0, 1) := by decide +kernel
theorem dX4_andBeneath_3 : decode cX4_andBeneath 3 = .ok (.istore_n 3, 1) := by decide +kernel
theorem dX4_andBeneath_4 : decode cX4_andBeneath 4 = .ok (.iload_n 3, 1) := by decide +kernel
theorem dX4_andBeneath_5 : decode cX4_andBeneath 5 = .ok (.aload_n 0, 1) := by decide +kernel
theorem dX4_andBeneath_6 : decode cX4_andBeneath 6 = .ok (.getfield 29, 3) := by decide +kernel
theorem dX4_andBeneath_9 : decode cX4_andBeneath 9 = .ok (.if_icmp .ge 26, 3) := by decide +kernel
theorem dX4_andBeneath_12 : decode cX4_andBeneath 12 = .ok (.iload_n 1, 1) := by decide +kernel
theorem dX4_andBeneath_13 : decode cX4_andBeneath 13 = .ok (.iload_n 3, 1) := by decide +kernel
theorem dX4_andBeneath_14 : decode cX4_andBeneath 14 = .ok (.invokestatic 40, 3) := by decide +kernel
theorem dX4_andBeneath_17 : decode cX4_andBeneath 17 = .ok (.ifCond .eq 12, 3) := by decide +kernel
theorem dX4_andBeneath_20 : decode cX4_andBeneath 20 = .ok (.iload_n 2, 1) := by decide +kernel
theorem dX4_andBeneath_21 : decode cX4_andBeneath 21 = .ok (.aload_n 0, 1) := by decide +kernel
theorem dX4_andBeneath_22 : decode cX4_andBeneath 22 = .ok (.getfield 13, 3) := by decide +kernel
theorem dX4_andBeneath_25 : decode cX4_andBeneath 25 = .ok (.iload_n 3, 1) := by decide +kernel
theorem dX4_andBeneath_26 : decode cX4_andBeneath 26 = .ok (.iaload, 1) := by decide +kernel
theorem dX4_andBeneath_27 : decode cX4_andBeneath 27 = .ok (.ior, 1) := by decide +kernel
theorem dX4_andBeneath_28 : decode cX4_andBeneath 28 = .ok (.istore_n 2, 1) := by decide +kernel
theorem dX4_andBeneath_29 : decode cX4_andBeneath 29 = .ok (.iinc 3 1, 3) := by decide +kernel
theorem dX4_andBeneath_32 : decode cX4_andBeneath 32 = .ok (.goto (-28), 3) := by decide +kernel
theorem dX4_andBeneath_35 : decode cX4_andBeneath 35 = .ok (.iload_n 2, 1) := by decide +kernel
theorem dX4_andBeneath_36 : decode cX4_andBeneath 36 = .ok (.ireturn, 1) := by decide +kernel
set_option maxRecDepth 20000 in
theorem ggX4_isRefused_X4_has : GoodIn wsX4_isRefused wsX4_has := goodIn_r _ [6] (by decide +kernel) (by decide +kernel)
set_option maxRecDepth 20000 in
theorem gX4_isRefused_X4_has : GoodIn wsX4_isRefused (va_wsS RX4 40 yX4_has wsX4_has) := goodIn_app (goodIn_of _ (by decide +kernel)) ggX4_isRefused_X4_has
theorem dX4_isRefused_0 : decode cX4_isRefused 0 = .ok (.aload_n 0, 1) := by decide +kernel
theorem dX4_isRefused_1 : decode cX4_isRefused 1 = .ok (.getfield 9, 3) := by decide +kernel
theorem dX4_isRefused_4 : decode cX4_isRefused 4 = .ok (.iload_n 1, 1) := by decide +kernel
theorem dX4_isRefused_5 : decode cX4_isRefused 5 = .ok (.iaload, 1) := by decide +kernel
theorem dX4_isRefused_6 : decode cX4_isRefused 6 = .ok (.iload_n 2, 1) := by decide +kernel
theorem dX4_isRefused_7 : decode cX4_isRefused 7 = .ok (.invokestatic 40, 3) := by decide +kernel
theorem dX4_isRefused_10 : decode cX4_isRefused 10 = .ok (.ifCond .ne 16, 3) := by decide +kernel
theorem dX4_isRefused_13 : decode cX4_isRefused 13 = .ok (.aload_n 0, 1) := by decide +kernel
theorem dX4_isRefused_14 : decode cX4_isRefused 14 = .ok (.getfield 13, 3) := by decide +kernel
theorem dX4_isRefused_17 : decode cX4_isRefused 17 = .ok (.iload_n 2, 1) := by decide +kernel
theorem dX4_isRefused_18 : decode cX4_isRefused 18 = .ok (.iaload, 1) := by decide +kernel
theorem dX4_isRefused_19 : decode cX4_isRefused 19 = .ok (.iload_n 1, 1) := by decide +kernel
theorem dX4_isRefused_20 : decode cX4_isRefused 20 = .ok (.invokestatic 40, 3) := by decide +kernel
theorem dX4_isRefused_23 : decode cX4_isRefused 23 = .ok (.ifCond .eq 7, 3) := by decide +kernel
theorem dX4_isRefused_26 : decode cX4_isRefused 26 = .ok (.iconst 1, 1) := by decide +kernel
theorem dX4_isRefused_27 : decode cX4_isRefused 27 = .ok (.goto 4, 3) := by decide +kernel
theorem dX4_isRefused_30 : decode cX4_isRefused 30 = .ok (.iconst 0, 1) := by decide +kernel
theorem dX4_isRefused_31 : decode cX4_isRefused 31 = .ok (.ireturn, 1) := by decide +kernel
set_option maxRecDepth 20000 in
theorem ggX4_lay_X4_has : GoodIn wsX4_lay wsX4_has := goodIn_r _ [6] (by decide +kernel) (by decide +kernel)
set_option maxRecDepth 20000 in
theorem gX4_lay_X4_has : GoodIn wsX4_lay (va_wsS RX4 40 yX4_has wsX4_has) := goodIn_app (goodIn_of _ (by decide +kernel)) ggX4_lay_X4_has
theorem dX4_lay_0 : decode cX4_lay 0 = .ok (.iconst 0, 1) := by decide +kernel
theorem dX4_lay_1 : decode cX4_lay 1 = .ok (.istore_n 3, 1) := by decide +kernel
theorem dX4_lay_2 : decode cX4_lay 2 = .ok (.iload_n 3, 1) := by decide +kernel
theorem dX4_lay_3 : decode cX4_lay 3 = .ok (.aload_n 0, 1) := by decide +kernel
theorem dX4_lay_4 : decode cX4_lay 4 = .ok (.getfield 29, 3) := by decide +kernel
theorem dX4_lay_7 : decode cX4_lay 7 = .ok (.if_icmp .ge 27, 3) := by decide +kernel
theorem dX4_lay_10 : decode cX4_lay 10 = .ok (.iload_n 1, 1) := by decide +kernel
theorem dX4_lay_11 : decode cX4_lay 11 = .ok (.iload_n 3, 1) := by decide +kernel
theorem dX4_lay_12 : decode cX4_lay 12 = .ok (.invokestatic 40, 3) := by decide +kernel
theorem dX4_lay_15 : decode cX4_lay 15 = .ok (.ifCond .eq 13, 3) := by decide +kernel
theorem dX4_lay_18 : decode cX4_lay 18 = .ok (.aload_n 0, 1) := by decide +kernel
theorem dX4_lay_19 : decode cX4_lay 19 = .ok (.getfield 13, 3) := by decide +kernel
theorem dX4_lay_22 : decode cX4_lay 22 = .ok (.iload_n 3, 1) := by decide +kernel
theorem dX4_lay_23 : decode cX4_lay 23 = .ok (.dup2, 1) := by decide +kernel
theorem dX4_lay_24 : decode cX4_lay 24 = .ok (.iaload, 1) := by decide +kernel
theorem dX4_lay_25 : decode cX4_lay 25 = .ok (.iload_n 2, 1) := by decide +kernel
theorem dX4_lay_26 : decode cX4_lay 26 = .ok (.ior, 1) := by decide +kernel
theorem dX4_lay_27 : decode cX4_lay 27 = .ok (.iastore, 1) := by decide +kernel
theorem dX4_lay_28 : decode cX4_lay 28 = .ok (.iinc 3 1, 3) := by decide +kernel
theorem dX4_lay_31 : decode cX4_lay 31 = .ok (.goto (-29), 3) := by decide +kernel
theorem dX4_lay_34 : decode cX4_lay 34 = .ok (.return_, 1) := by decide +kernel
set_option maxRecDepth 20000 in
theorem ggX4_above_X4_isLayer : GoodIn wsX4_above wsX4_isLayer := goodIn_r _ [8, 9, 10, 11, 7, 12, 39, 40, 41, 42, 43, 44, 45] (by decide +kernel) (by decide +kernel)
set_option maxRecDepth 20000 in
theorem gX4_above_X4_isLayer : GoodIn wsX4_above (wsV RX4 44 RX4 yX4_isLayer wsX4_isLayer) := goodIn_app (goodIn_of _ (by decide +kernel)) ggX4_above_X4_isLayer
set_option maxRecDepth 20000 in
theorem ggX4_above_X4_fail : GoodIn wsX4_above wsX4_fail := goodIn_r _ [16, 1, 39, 40, 41, 42, 43, 44, 45] (by decide +kernel) (by decide +kernel)
set_option maxRecDepth 20000 in
theorem gX4_above_X4_fail : GoodIn wsX4_above (wsV RX4 36 RX4 yX4_fail wsX4_fail) := goodIn_app (goodIn_of _ (by decide +kernel)) ggX4_above_X4_fail
set_option maxRecDepth 20000 in
theorem ggX4_above_X4_isRefused : GoodIn wsX4_above wsX4_isRefused := goodIn_r _ [20, 2, 3, 21, 22, 7, 23, 39, 40, 41, 42, 43, 44, 45] (by decide +kernel) (by decide +kernel)
set_option maxRecDepth 20000 in
theorem gX4_above_X4_isRefused : GoodIn wsX4_above (wsV RX4 48 RX4 yX4_isRefused wsX4_isRefused) := goodIn_app (goodIn_of _ (by decide +kernel)) ggX4_above_X4_isRefused
set_option maxRecDepth 20000 in
theorem ggX4_above_X4_andAbove : GoodIn wsX4_above wsX4_andAbove := goodIn_r _ [27, 9, 3, 39, 40, 41, 42, 43, 44, 45] (by decide +kernel) (by decide +kernel)
set_option maxRecDepth 20000 in
theorem gX4_above_X4_andAbove : GoodIn wsX4_above (wsV RX4 51 RX4 yX4_andAbove wsX4_andAbove) := goodIn_app (goodIn_of _ (by decide +kernel)) ggX4_above_X4_andAbove
set_option maxRecDepth 20000 in
theorem ggX4_above_X4_andBeneath : GoodIn wsX4_above wsX4_andBeneath := goodIn_r _ [31, 9, 3, 21, 22, 7, 23, 39, 40, 41, 42, 43, 44, 45] (by decide +kernel) (by decide +kernel)
set_option maxRecDepth 20000 in
theorem gX4_above_X4_andBeneath : GoodIn wsX4_above (wsV RX4 54 RX4 yX4_andBeneath wsX4_andBeneath) := goodIn_app (goodIn_of _ (by decide +kernel)) ggX4_above_X4_andBeneath
set_option maxRecDepth 20000 in
theorem ggX4_above_X4_lay : GoodIn wsX4_above wsX4_lay := goodIn_r _ [35, 9, 3, 21, 22, 7, 23, 39, 40, 41, 42, 43, 44, 45] (by decide +kernel) (by decide +kernel)
set_option maxRecDepth 20000 in
theorem gX4_above_X4_lay : GoodIn wsX4_above (wsV RX4 57 RX4 yX4_lay wsX4_lay) := goodIn_app (goodIn_of _ (by decide +kernel)) ggX4_above_X4_lay
set_option maxRecDepth 20000 in
theorem ggX4_above_X4_size : GoodIn wsX4_above wsX4_size := goodIn_r _ [38] (by decide +kernel) (by decide +kernel)
set_option maxRecDepth 20000 in
theorem gX4_above_X4_size : GoodIn wsX4_above (va_wsS RX4 61 yX4_size wsX4_size) := goodIn_app (goodIn_of _ (by decide +kernel)) ggX4_above_X4_size
theorem dX4_above_0 : decode cX4_above 0 = .ok (.aload_n 0, 1) := by decide +kernel
theorem dX4_above_1 : decode cX4_above 1 = .ok (.iconst 0, 1) := by decide +kernel
theorem dX4_above_2 : decode cX4_above 2 = .ok (.putfield 25, 3) := by decide +kernel
theorem dX4_above_5 : decode cX4_above 5 = .ok (.aload_n 0, 1) := by decide +kernel
theorem dX4_above_6 : decode cX4_above 6 = .ok (.iload_n 1, 1) := by decide +kernel
theorem dX4_above_7 : decode cX4_above 7 = .ok (.invokevirtual 44, 3) := by decide +kernel
theorem dX4_above_10 : decode cX4_above 10 = .ok (.ifCond .eq 11, 3) := by decide +kernel
theorem dX4_above_13 : decode cX4_above 13 = .ok (.aload_n 0, 1) := by decide +kernel
theorem dX4_above_14 : decode cX4_above 14 = .ok (.iload_n 2, 1) := by decide +kernel
theorem dX4_above_15 : decode cX4_above 15 = .ok (.invokevirtual 44, 3) := by decide +kernel
theorem dX4_above_18 : decode cX4_above 18 = .ok (.ifCond .ne 9, 3) := by decide +kernel
theorem dX4_above_21 : decode cX4_above 21 = .ok (.aload_n 0, 1) := by decide +kernel
theorem dX4_above_22 : decode cX4_above 22 = .ok (.iconst 1, 1) := by decide +kernel
theorem dX4_above_23 : decode cX4_above 23 = .ok (.invokevirtual 36, 3) := by decide +kernel
theorem dX4_above_26 : decode cX4_above 26 = .ok (.ireturn, 1) := by decide +kernel
theorem dX4_above_27 : decode cX4_above 27 = .ok (.aload_n 0, 1) := by decide +kernel
theorem dX4_above_28 : decode cX4_above 28 = .ok (.iload_n 1, 1) := by decide +kernel
theorem dX4_above_29 : decode cX4_above 29 = .ok (.iload_n 2, 1) := by decide +kernel
theorem dX4_above_30 : decode cX4_above 30 = .ok (.invokevirtual 48, 3) := by decide +kernel
theorem dX4_above_33 : decode cX4_above 33 = .ok (.ifCond .eq 9, 3) := by decide +kernel
theorem dX4_above_36 : decode cX4_above 36 = .ok (.aload_n 0, 1) := by decide +kernel
theorem dX4_above_37 : decode cX4_above 37 = .ok (.iconst 2, 1) := by decide +kernel
theorem dX4_above_38 : decode cX4_above 38 = .ok (.invokevirtual 36, 3) := by decide +kernel
theorem dX4_above_41 : decode cX4_above 41 = .ok (.ireturn, 1) := by decide +kernel
theorem dX4_above_42 : decode cX4_above 42 = .ok (.aload_n 0, 1) := by decide +kernel
theorem dX4_above_43 : decode cX4_above 43 = .ok (.aload_n 0, 1) := by decide +kernel
theorem dX4_above_44 : decode cX4_above 44 = .ok (.aload_n 0, 1) := by decide +kernel
theorem dX4_above_45 : decode cX4_above 45 = .ok (.getfield 9, 3) := by decide +kernel
theorem dX4_above_48 : decode cX4_above 48 = .ok (.iload_n 1, 1) := by decide +kernel
theorem dX4_above_49 : decode cX4_above 49 = .ok (.iaload, 1) := by decide +kernel
theorem dX4_above_50 : decode cX4_above 50 = .ok (.invokevirtual 51, 3) := by decide +kernel
theorem dX4_above_53 : decode cX4_above 53 = .ok (.aload_n 0, 1) := by decide +kernel
theorem dX4_above_54 : decode cX4_above 54 = .ok (.aload_n 0, 1) := by decide +kernel
theorem dX4_above_55 : decode cX4_above 55 = .ok (.getfield 9, 3) := by decide +kernel
theorem dX4_above_58 : decode cX4_above 58 = .ok (.iload_n 2, 1) := by decide +kernel
theorem dX4_above_59 : decode cX4_above 59 = .ok (.iaload, 1) := by decide +kernel
theorem dX4_above_60 : decode cX4_above 60 = .ok (.invokevirtual 54, 3) := by decide +kernel
theorem dX4_above_63 : decode cX4_above 63 = .ok (.invokevirtual 57, 3) := by decide +kernel
theorem dX4_above_66 : decode cX4_above 66 = .ok (.aload_n 0, 1) := by decide +kernel
theorem dX4_above_67 : decode cX4_above 67 = .ok (.getfield 13, 3) := by decide +kernel
theorem dX4_above_70 : decode cX4_above 70 = .ok (.iload_n 1, 1) := by decide +kernel
theorem dX4_above_71 : decode cX4_above 71 = .ok (.iaload, 1) := by decide +kernel
theorem dX4_above_72 : decode cX4_above 72 = .ok (.invokestatic 61, 3) := by decide +kernel
theorem dX4_above_75 : decode cX4_above 75 = .ok (.ireturn, 1) := by decide +kernel
set_option maxRecDepth 20000 in
theorem ggX4_same_X4_isLayer : GoodIn wsX4_same wsX4_isLayer := goodIn_r _ [9, 4, 10, 11, 8, 12, 35, 36, 37, 38, 39, 40, 41] (by decide +kernel) (by decide +kernel)
set_option maxRecDepth 20000 in
theorem gX4_same_X4_isLayer : GoodIn wsX4_same (wsV RX4 44 RX4 yX4_isLayer wsX4_isLayer) := goodIn_app (goodIn_of _ (by decide +kernel)) ggX4_same_X4_isLayer
set_option maxRecDepth 20000 in
theorem ggX4_same_X4_fail : GoodIn wsX4_same wsX4_fail := goodIn_r _ [16, 1, 35, 36, 37, 38, 39, 40, 41] (by decide +kernel) (by decide +kernel)
set_option maxRecDepth 20000 in
theorem gX4_same_X4_fail : GoodIn wsX4_same (wsV RX4 36 RX4 yX4_fail wsX4_fail) := goodIn_app (goodIn_of _ (by decide +kernel)) ggX4_same_X4_fail
set_option maxRecDepth 20000 in
theorem ggX4_same_X4_has : GoodIn wsX4_same wsX4_has := goodIn_r _ [19] (by decide +kernel) (by decide +kernel)
set_option maxRecDepth 20000 in
theorem gX4_same_X4_has : GoodIn wsX4_same (va_wsS RX4 40 yX4_has wsX4_has) := goodIn_app (goodIn_of _ (by decide +kernel)) ggX4_same_X4_has
set_option maxRecDepth 20000 in
theorem ggX4_same_X4_andAbove : GoodIn wsX4_same wsX4_andAbove := goodIn_r _ [23, 4, 2, 35, 36, 37, 38, 39, 40, 41] (by decide +kernel) (by decide +kernel)
set_option maxRecDepth 20000 in
theorem gX4_same_X4_andAbove : GoodIn wsX4_same (wsV RX4 51 RX4 yX4_andAbove wsX4_andAbove) := goodIn_app (goodIn_of _ (by decide +kernel)) ggX4_same_X4_andAbove
set_option maxRecDepth 20000 in
theorem ggX4_same_X4_andBeneath : GoodIn wsX4_same wsX4_andBeneath := goodIn_r _ [27, 4, 2, 17, 18, 8, 19, 35, 36, 37, 38, 39, 40, 41] (by decide +kernel) (by decide +kernel)
set_option maxRecDepth 20000 in
theorem gX4_same_X4_andBeneath : GoodIn wsX4_same (wsV RX4 54 RX4 yX4_andBeneath wsX4_andBeneath) := goodIn_app (goodIn_of _ (by decide +kernel)) ggX4_same_X4_andBeneath
set_option maxRecDepth 20000 in
theorem ggX4_same_X4_lay : GoodIn wsX4_same wsX4_lay := goodIn_r _ [31, 4, 2, 17, 18, 8, 19, 35, 36, 37, 38, 39, 40, 41] (by decide +kernel) (by decide +kernel)
set_option maxRecDepth 20000 in
theorem gX4_same_X4_lay : GoodIn wsX4_same (wsV RX4 57 RX4 yX4_lay wsX4_lay) := goodIn_app (goodIn_of _ (by decide +kernel)) ggX4_same_X4_lay
set_option maxRecDepth 20000 in
theorem ggX4_same_X4_size : GoodIn wsX4_same wsX4_size := goodIn_r _ [34] (by decide +kernel) (by decide +kernel)
set_option maxRecDepth 20000 in
theorem gX4_same_X4_size : GoodIn wsX4_same (va_wsS RX4 61 yX4_size wsX4_size) := goodIn_app (goodIn_of _ (by decide +kernel)) ggX4_same_X4_size
theorem dX4_same_0 : decode cX4_same 0 = .ok (.aload_n 0, 1) := by decide +kernel
theorem dX4_same_1 : decode cX4_same 1 = .ok (.iconst 0, 1) := by decide +kernel
theorem dX4_same_2 : decode cX4_same 2 = .ok (.putfield 25, 3) := by decide +kernel
theorem dX4_same_5 : decode cX4_same 5 = .ok (.aload_n 0, 1) := by decide +kernel
theorem dX4_same_6 : decode cX4_same 6 = .ok (.iload_n 1, 1) := by decide +kernel
theorem dX4_same_7 : decode cX4_same 7 = .ok (.invokevirtual 44, 3) := by decide +kernel
theorem dX4_same_10 : decode cX4_same 10 = .ok (.ifCond .eq 11, 3) := by decide +kernel
theorem dX4_same_13 : decode cX4_same 13 = .ok (.aload_n 0, 1) := by decide +kernel
theorem dX4_same_14 : decode cX4_same 14 = .ok (.iload_n 2, 1) := by decide +kernel
theorem dX4_same_15 : decode cX4_same 15 = .ok (.invokevirtual 44, 3) := by decide +kernel
theorem dX4_same_18 : decode cX4_same 18 = .ok (.ifCond .ne 9, 3) := by decide +kernel
theorem dX4_same_21 : decode cX4_same 21 = .ok (.aload_n 0, 1) := by decide +kernel
theorem dX4_same_22 : decode cX4_same 22 = .ok (.iconst 1, 1) := by decide +kernel
theorem dX4_same_23 : decode cX4_same 23 = .ok (.invokevirtual 36, 3) := by decide +kernel
theorem dX4_same_26 : decode cX4_same 26 = .ok (.ireturn, 1) := by decide +kernel
theorem dX4_same_27 : decode cX4_same 27 = .ok (.aload_n 0, 1) := by decide +kernel
theorem dX4_same_28 : decode cX4_same 28 = .ok (.getfield 13, 3) := by decide +kernel
theorem dX4_same_31 : decode cX4_same 31 = .ok (.iload_n 1, 1) := by decide +kernel
theorem dX4_same_32 : decode cX4_same 32 = .ok (.iaload, 1) := by decide +kernel
theorem dX4_same_33 : decode cX4_same 33 = .ok (.iload_n 2, 1) := by decide +kernel
theorem dX4_same_34 : decode cX4_same 34 = .ok (.invokestatic 40, 3) := by decide +kernel
theorem dX4_same_37 : decode cX4_same 37 = .ok (.ifCond .ne 16, 3) := by decide +kernel
theorem dX4_same_40 : decode cX4_same 40 = .ok (.aload_n 0, 1) := by decide +kernel
theorem dX4_same_41 : decode cX4_same 41 = .ok (.getfield 13, 3) := by decide +kernel
theorem dX4_same_44 : decode cX4_same 44 = .ok (.iload_n 2, 1) := by decide +kernel
theorem dX4_same_45 : decode cX4_same 45 = .ok (.iaload, 1) := by decide +kernel
theorem dX4_same_46 : decode cX4_same 46 = .ok (.iload_n 1, 1) := by decide +kernel
theorem dX4_same_47 : decode cX4_same 47 = .ok (.invokestatic 40, 3) := by decide +kernel
theorem dX4_same_50 : decode cX4_same 50 = .ok (.ifCond .eq 9, 3) := by decide +kernel
theorem dX4_same_53 : decode cX4_same 53 = .ok (.aload_n 0, 1) := by decide +kernel
theorem dX4_same_54 : decode cX4_same 54 = .ok (.iconst 2, 1) := by decide +kernel
theorem dX4_same_55 : decode cX4_same 55 = .ok (.invokevirtual 36, 3) := by decide +kernel
theorem dX4_same_58 : decode cX4_same 58 = .ok (.ireturn, 1) := by decide +kernel
theorem dX4_same_59 : decode cX4_same 59 = .ok (.aload_n 0, 1) := by decide +kernel
theorem dX4_same_60 : decode cX4_same 60 = .ok (.getfield 9, 3) := by decide +kernel
theorem dX4_same_63 : decode cX4_same 63 = .ok (.iload_n 1, 1) := by decide +kernel
theorem dX4_same_64 : decode cX4_same 64 = .ok (.iaload, 1) := by decide +kernel
theorem dX4_same_65 : decode cX4_same 65 = .ok (.aload_n 0, 1) := by decide +kernel
theorem dX4_same_66 : decode cX4_same 66 = .ok (.getfield 9, 3) := by decide +kernel
theorem dX4_same_69 : decode cX4_same 69 = .ok (.iload_n 2, 1) := by decide +kernel
theorem dX4_same_70 : decode cX4_same 70 = .ok (.iaload, 1) := by decide +kernel
theorem dX4_same_71 : decode cX4_same 71 = .ok (.ior, 1) := by decide +kernel
theorem dX4_same_72 : decode cX4_same 72 = .ok (.istore_n 3, 1) := by decide +kernel
theorem dX4_same_73 : decode cX4_same 73 = .ok (.aload_n 0, 1) := by decide +kernel
theorem dX4_same_74 : decode cX4_same 74 = .ok (.iload_n 3, 1) := by decide +kernel
theorem dX4_same_75 : decode cX4_same 75 = .ok (.invokevirtual 51, 3) := by decide +kernel
theorem dX4_same_78 : decode cX4_same 78 = .ok (.iload_n 3, 1) := by decide +kernel
theorem dX4_same_79 : decode cX4_same 79 = .ok (.iconst (-1), 1) := by decide +kernel
theorem dX4_same_80 : decode cX4_same 80 = .ok (.ixor, 1) := by decide +kernel
theorem dX4_same_81 : decode cX4_same 81 = .ok (.iand, 1) := by decide +kernel
theorem dX4_same_82 : decode cX4_same 82 = .ok (.istore 4, 2) := by decide +kernel
theorem dX4_same_84 : decode cX4_same 84 = .ok (.aload_n 0, 1) := by decide +kernel
theorem dX4_same_85 : decode cX4_same 85 = .ok (.iload_n 3, 1) := by decide +kernel
theorem dX4_same_86 : decode cX4_same 86 = .ok (.invokevirtual 54, 3) := by decide +kernel
theorem dX4_same_89 : decode cX4_same 89 = .ok (.iload_n 3, 1) := by decide +kernel
theorem dX4_same_90 : decode cX4_same 90 = .ok (.iconst (-1), 1) := by decide +kernel
theorem dX4_same_91 : decode cX4_same 91 = .ok (.ixor, 1) := by decide +kernel
theorem dX4_same_92 : decode cX4_same 92 = .ok (.iand, 1) := by decide +kernel
theorem dX4_same_93 : decode cX4_same 93 = .ok (.istore 5, 2) := by decide +kernel
theorem dX4_same_95 : decode cX4_same 95 = .ok (.iconst 0, 1) := by decide +kernel
theorem dX4_same_96 : decode cX4_same 96 = .ok (.istore 6, 2) := by decide +kernel
theorem dX4_same_98 : decode cX4_same 98 = .ok (.iload 6, 2) := by decide +kernel
theorem dX4_same_100 : decode cX4_same 100 = .ok (.aload_n 0, 1) := by decide +kernel
theorem dX4_same_101 : decode cX4_same 101 = .ok (.getfield 29, 3) := by decide +kernel
theorem dX4_same_104 : decode cX4_same 104 = .ok (.if_icmp .ge 26, 3) := by decide +kernel
theorem dX4_same_107 : decode cX4_same 107 = .ok (.iload_n 3, 1) := by decide +kernel
theorem dX4_same_108 : decode cX4_same 108 = .ok (.iload 6, 2) := by decide +kernel
theorem dX4_same_110 : decode cX4_same 110 = .ok (.invokestatic 40, 3) := by decide +kernel
theorem dX4_same_113 : decode cX4_same 113 = .ok (.ifCond .eq 11, 3) := by decide +kernel
theorem dX4_same_116 : decode cX4_same 116 = .ok (.aload_n 0, 1) := by decide +kernel
theorem dX4_same_117 : decode cX4_same 117 = .ok (.getfield 9, 3) := by decide +kernel
theorem dX4_same_120 : decode cX4_same 120 = .ok (.iload 6, 2) := by decide +kernel
theorem dX4_same_122 : decode cX4_same 122 = .ok (.iload_n 3, 1) := by decide +kernel
theorem dX4_same_123 : decode cX4_same 123 = .ok (.iastore, 1) := by decide +kernel
theorem dX4_same_124 : decode cX4_same 124 = .ok (.iinc 6 1, 3) := by decide +kernel
theorem dX4_same_127 : decode cX4_same 127 = .ok (.goto (-29), 3) := by decide +kernel
theorem dX4_same_130 : decode cX4_same 130 = .ok (.aload_n 0, 1) := by decide +kernel
theorem dX4_same_131 : decode cX4_same 131 = .ok (.iload_n 3, 1) := by decide +kernel
theorem dX4_same_132 : decode cX4_same 132 = .ok (.iload 4, 2) := by decide +kernel
theorem dX4_same_134 : decode cX4_same 134 = .ok (.ior, 1) := by decide +kernel
theorem dX4_same_135 : decode cX4_same 135 = .ok (.iload 5, 2) := by decide +kernel
theorem dX4_same_137 : decode cX4_same 137 = .ok (.invokevirtual 57, 3) := by decide +kernel
theorem dX4_same_140 : decode cX4_same 140 = .ok (.aload_n 0, 1) := by decide +kernel
theorem dX4_same_141 : decode cX4_same 141 = .ok (.iload 4, 2) := by decide +kernel
theorem dX4_same_143 : decode cX4_same 143 = .ok (.iload_n 3, 1) := by decide +kernel
theorem dX4_same_144 : decode cX4_same 144 = .ok (.invokevirtual 57, 3) := by decide +kernel
theorem dX4_same_147 : decode cX4_same 147 = .ok (.iload_n 3, 1) := by decide +kernel
theorem dX4_same_148 : decode cX4_same 148 = .ok (.invokestatic 61, 3) := by decide +kernel
theorem dX4_same_151 : decode cX4_same 151 = .ok (.ireturn, 1) := by decide +kernel
set_option maxRecDepth 20000 in
theorem ggX4_sift_X4_isLayer : GoodIn wsX4_sift wsX4_isLayer := goodIn_r _ [7, 8, 9, 10, 6, 11, 16, 17, 18, 19, 20, 21, 22] (by decide +kernel) (by decide +kernel)
set_option maxRecDepth 20000 in
theorem gX4_sift_X4_isLayer : GoodIn wsX4_sift (wsV RX4 44 RX4 yX4_isLayer wsX4_isLayer) := goodIn_app (goodIn_of _ (by decide +kernel)) ggX4_sift_X4_isLayer
set_option maxRecDepth 20000 in
theorem ggX4_sift_X4_isIn : GoodIn wsX4_sift wsX4_isIn := goodIn_r _ [11] (by decide +kernel) (by decide +kernel)
set_option maxRecDepth 20000 in
theorem gX4_sift_X4_isIn : GoodIn wsX4_sift (va_wsS RX4 32 yX4_isIn wsX4_isIn) := goodIn_app (goodIn_of _ (by decide +kernel)) ggX4_sift_X4_isIn
set_option maxRecDepth 20000 in
theorem ggX4_sift_X4_fail : GoodIn wsX4_sift wsX4_fail := goodIn_r _ [15, 1, 16, 17, 18, 19, 20, 21, 22] (by decide +kernel) (by decide +kernel)
set_option maxRecDepth 20000 in
theorem gX4_sift_X4_fail : GoodIn wsX4_sift (wsV RX4 36 RX4 yX4_fail wsX4_fail) := goodIn_app (goodIn_of _ (by decide +kernel)) ggX4_sift_X4_fail
theorem dX4_sift_0 : decode cX4_sift 0 = .ok (.aload_n 0, 1) := by decide +kernel
theorem dX4_sift_1 : decode cX4_sift 1 = .ok (.iconst 0, 1) := by decide +kernel
theorem dX4_sift_2 : decode cX4_sift 2 = .ok (.putfield 25, 3) := by decide +kernel
theorem dX4_sift_5 : decode cX4_sift 5 = .ok (.aload_n 0, 1) := by decide +kernel
theorem dX4_sift_6 : decode cX4_sift 6 = .ok (.iload_n 1, 1) := by decide +kernel
theorem dX4_sift_7 : decode cX4_sift 7 = .ok (.invokevirtual 44, 3) := by decide +kernel
theorem dX4_sift_10 : decode cX4_sift 10 = .ok (.ifCond .eq 12, 3) := by decide +kernel
theorem dX4_sift_13 : decode cX4_sift 13 = .ok (.iload_n 2, 1) := by decide +kernel
theorem dX4_sift_14 : decode cX4_sift 14 = .ok (.iconst 0, 1) := by decide +kernel
theorem dX4_sift_15 : decode cX4_sift 15 = .ok (.iconst 3, 1) := by decide +kernel
theorem dX4_sift_16 : decode cX4_sift 16 = .ok (.invokestatic 32, 3) := by decide +kernel
theorem dX4_sift_19 : decode cX4_sift 19 = .ok (.ifCond .ne 9, 3) := by decide +kernel
theorem dX4_sift_22 : decode cX4_sift 22 = .ok (.aload_n 0, 1) := by decide +kernel
theorem dX4_sift_23 : decode cX4_sift 23 = .ok (.iconst 1, 1) := by decide +kernel
theorem dX4_sift_24 : decode cX4_sift 24 = .ok (.invokevirtual 36, 3) := by decide +kernel
theorem dX4_sift_27 : decode cX4_sift 27 = .ok (.ireturn, 1) := by decide +kernel
theorem dX4_sift_28 : decode cX4_sift 28 = .ok (.iload_n 3, 1) := by decide +kernel
theorem dX4_sift_29 : decode cX4_sift 29 = .ok (.iconst 0, 1) := by decide +kernel
theorem dX4_sift_30 : decode cX4_sift 30 = .ok (.bipush 99, 2) := by decide +kernel
theorem dX4_sift_32 : decode cX4_sift 32 = .ok (.invokestatic 32, 3) := by decide +kernel
theorem dX4_sift_35 : decode cX4_sift 35 = .ok (.ifCond .ne 9, 3) := by decide +kernel
theorem dX4_sift_38 : decode cX4_sift 38 = .ok (.aload_n 0, 1) := by decide +kernel
theorem dX4_sift_39 : decode cX4_sift 39 = .ok (.iconst 2, 1) := by decide +kernel
theorem dX4_sift_40 : decode cX4_sift 40 = .ok (.invokevirtual 36, 3) := by decide +kernel
theorem dX4_sift_43 : decode cX4_sift 43 = .ok (.ireturn, 1) := by decide +kernel
theorem dX4_sift_44 : decode cX4_sift 44 = .ok (.aload_n 0, 1) := by decide +kernel
theorem dX4_sift_45 : decode cX4_sift 45 = .ok (.getfield 16, 3) := by decide +kernel
theorem dX4_sift_48 : decode cX4_sift 48 = .ok (.iconst 4, 1) := by decide +kernel
theorem dX4_sift_49 : decode cX4_sift 49 = .ok (.iload_n 1, 1) := by decide +kernel
theorem dX4_sift_50 : decode cX4_sift 50 = .ok (.imul, 1) := by decide +kernel
theorem dX4_sift_51 : decode cX4_sift 51 = .ok (.iload_n 2, 1) := by decide +kernel
theorem dX4_sift_52 : decode cX4_sift 52 = .ok (.iadd, 1) := by decide +kernel
theorem dX4_sift_53 : decode cX4_sift 53 = .ok (.iaload, 1) := by decide +kernel
theorem dX4_sift_54 : decode cX4_sift 54 = .ok (.istore 4, 2) := by decide +kernel
theorem dX4_sift_56 : decode cX4_sift 56 = .ok (.aload_n 0, 1) := by decide +kernel
theorem dX4_sift_57 : decode cX4_sift 57 = .ok (.getfield 16, 3) := by decide +kernel
theorem dX4_sift_60 : decode cX4_sift 60 = .ok (.iconst 4, 1) := by decide +kernel
theorem dX4_sift_61 : decode cX4_sift 61 = .ok (.iload_n 1, 1) := by decide +kernel
theorem dX4_sift_62 : decode cX4_sift 62 = .ok (.imul, 1) := by decide +kernel
theorem dX4_sift_63 : decode cX4_sift 63 = .ok (.iload_n 2, 1) := by decide +kernel
theorem dX4_sift_64 : decode cX4_sift 64 = .ok (.iadd, 1) := by decide +kernel
theorem dX4_sift_65 : decode cX4_sift 65 = .ok (.iload_n 3, 1) := by decide +kernel
theorem dX4_sift_66 : decode cX4_sift 66 = .ok (.iastore, 1) := by decide +kernel
theorem dX4_sift_67 : decode cX4_sift 67 = .ok (.iload 4, 2) := by decide +kernel
theorem dX4_sift_69 : decode cX4_sift 69 = .ok (.ireturn, 1) := by decide +kernel
theorem dX4_isDated_0 : decode cX4_isDated 0 = .ok (.aload_n 0, 1) := by decide +kernel
theorem dX4_isDated_1 : decode cX4_isDated 1 = .ok (.getfield 19, 3) := by decide +kernel
theorem dX4_isDated_4 : decode cX4_isDated 4 = .ok (.iload_n 1, 1) := by decide +kernel
theorem dX4_isDated_5 : decode cX4_isDated 5 = .ok (.iaload, 1) := by decide +kernel
theorem dX4_isDated_6 : decode cX4_isDated 6 = .ok (.iconst (-1), 1) := by decide +kernel
theorem dX4_isDated_7 : decode cX4_isDated 7 = .ok (.if_icmp .eq 7, 3) := by decide +kernel
theorem dX4_isDated_10 : decode cX4_isDated 10 = .ok (.iconst 1, 1) := by decide +kernel
theorem dX4_isDated_11 : decode cX4_isDated 11 = .ok (.goto 4, 3) := by decide +kernel
theorem dX4_isDated_14 : decode cX4_isDated 14 = .ok (.iconst 0, 1) := by decide +kernel
theorem dX4_isDated_15 : decode cX4_isDated 15 = .ok (.ireturn, 1) := by decide +kernel
set_option maxRecDepth 20000 in
theorem ggX4_from_X4_isDated : GoodIn wsX4_from wsX4_isDated := goodIn_r _ [13, 4, 17, 18, 19, 20, 21, 22, 23] (by decide +kernel) (by decide +kernel)
set_option maxRecDepth 20000 in
theorem gX4_from_X4_isDated : GoodIn wsX4_from (wsV RX4 64 RX4 yX4_isDated wsX4_isDated) := goodIn_app (goodIn_of _ (by decide +kernel)) ggX4_from_X4_isDated
set_option maxRecDepth 20000 in
theorem ggX4_from_X4_has : GoodIn wsX4_from wsX4_has := goodIn_r _ [16] (by decide +kernel) (by decide +kernel)
set_option maxRecDepth 20000 in
theorem gX4_from_X4_has : GoodIn wsX4_from (va_wsS RX4 40 yX4_has wsX4_has) := goodIn_app (goodIn_of _ (by decide +kernel)) ggX4_from_X4_has
theorem dX4_from_0 : decode cX4_from 0 = .ok (.iconst 0, 1) := by decide +kernel
theorem dX4_from_1 : decode cX4_from 1 = .ok (.istore_n 2, 1) := by decide +kernel
theorem dX4_from_2 : decode cX4_from 2 = .ok (.iconst 0, 1) := by decide +kernel
theorem dX4_from_3 : decode cX4_from 3 = .ok (.istore_n 3, 1) := by decide +kernel
theorem dX4_from_4 : decode cX4_from 4 = .ok (.iload_n 3, 1) := by decide +kernel
theorem dX4_from_5 : decode cX4_from 5 = .ok (.aload_n 0, 1) := by decide +kernel
theorem dX4_from_6 : decode cX4_from 6 = .ok (.getfield 29, 3) := by decide +kernel
theorem dX4_from_9 : decode cX4_from 9 = .ok (.if_icmp .ge 48, 3) := by decide +kernel
theorem dX4_from_12 : decode cX4_from 12 = .ok (.aload_n 0, 1) := by decide +kernel
theorem dX4_from_13 : decode cX4_from 13 = .ok (.iload_n 3, 1) := by decide +kernel
theorem dX4_from_14 : decode cX4_from 14 = .ok (.invokevirtual 64, 3) := by decide +kernel
theorem dX4_from_17 : decode cX4_from 17 = .ok (.ifCond .eq 34, 3) := by decide +kernel
theorem dX4_from_20 : decode cX4_from 20 = .ok (.aload_n 0, 1) := by decide +kernel
theorem dX4_from_21 : decode cX4_from 21 = .ok (.getfield 9, 3) := by decide +kernel
theorem dX4_from_24 : decode cX4_from 24 = .ok (.iload_n 1, 1) := by decide +kernel
theorem dX4_from_25 : decode cX4_from 25 = .ok (.iaload, 1) := by decide +kernel
theorem dX4_from_26 : decode cX4_from 26 = .ok (.aload_n 0, 1) := by decide +kernel
theorem dX4_from_27 : decode cX4_from 27 = .ok (.getfield 13, 3) := by decide +kernel
theorem dX4_from_30 : decode cX4_from 30 = .ok (.iload_n 1, 1) := by decide +kernel
theorem dX4_from_31 : decode cX4_from 31 = .ok (.iaload, 1) := by decide +kernel
theorem dX4_from_32 : decode cX4_from 32 = .ok (.ior, 1) := by decide +kernel
theorem dX4_from_33 : decode cX4_from 33 = .ok (.iload_n 3, 1) := by decide +kernel
theorem dX4_from_34 : decode cX4_from 34 = .ok (.invokestatic 40, 3) := by decide +kernel
theorem dX4_from_37 : decode cX4_from 37 = .ok (.ifCond .eq 14, 3) := by decide +kernel
theorem dX4_from_40 : decode cX4_from 40 = .ok (.iload_n 2, 1) := by decide +kernel
theorem dX4_from_41 : decode cX4_from 41 = .ok (.aload_n 0, 1) := by decide +kernel
theorem dX4_from_42 : decode cX4_from 42 = .ok (.getfield 19, 3) := by decide +kernel
theorem dX4_from_45 : decode cX4_from 45 = .ok (.iload_n 3, 1) := by decide +kernel
theorem dX4_from_46 : decode cX4_from 46 = .ok (.iaload, 1) := by decide +kernel
theorem dX4_from_47 : decode cX4_from 47 = .ok (.invokestatic 67, 3) := by decide +kernel
theorem dX4_from_50 : decode cX4_from 50 = .ok (.istore_n 2, 1) := by decide +kernel
theorem dX4_from_51 : decode cX4_from 51 = .ok (.iinc 3 1, 3) := by decide +kernel
theorem dX4_from_54 : decode cX4_from 54 = .ok (.goto (-50), 3) := by decide +kernel
theorem dX4_from_57 : decode cX4_from 57 = .ok (.iload_n 2, 1) := by decide +kernel
theorem dX4_from_58 : decode cX4_from 58 = .ok (.ireturn, 1) := by decide +kernel
set_option maxRecDepth 20000 in
theorem ggX4_to_X4_isDated : GoodIn wsX4_to wsX4_isDated := goodIn_r _ [13, 14, 18, 19, 20, 21, 22, 23, 24] (by decide +kernel) (by decide +kernel)
set_option maxRecDepth 20000 in
theorem gX4_to_X4_isDated : GoodIn wsX4_to (wsV RX4 64 RX4 yX4_isDated wsX4_isDated) := goodIn_app (goodIn_of _ (by decide +kernel)) ggX4_to_X4_isDated
set_option maxRecDepth 20000 in
theorem ggX4_to_X4_has : GoodIn wsX4_to wsX4_has := goodIn_r _ [17] (by decide +kernel) (by decide +kernel)
set_option maxRecDepth 20000 in
theorem gX4_to_X4_has : GoodIn wsX4_to (va_wsS RX4 40 yX4_has wsX4_has) := goodIn_app (goodIn_of _ (by decide +kernel)) ggX4_to_X4_has
theorem dX4_to_0 : decode cX4_to 0 = .ok (.sipush 9999, 3) := by decide +kernel
theorem dX4_to_3 : decode cX4_to 3 = .ok (.istore_n 2, 1) := by decide +kernel
theorem dX4_to_4 : decode cX4_to 4 = .ok (.iconst 0, 1) := by decide +kernel
theorem dX4_to_5 : decode cX4_to 5 = .ok (.istore_n 3, 1) := by decide +kernel
theorem dX4_to_6 : decode cX4_to 6 = .ok (.iload_n 3, 1) := by decide +kernel
theorem dX4_to_7 : decode cX4_to 7 = .ok (.aload_n 0, 1) := by decide +kernel
theorem dX4_to_8 : decode cX4_to 8 = .ok (.getfield 29, 3) := by decide +kernel
theorem dX4_to_11 : decode cX4_to 11 = .ok (.if_icmp .ge 54, 3) := by decide +kernel
theorem dX4_to_14 : decode cX4_to 14 = .ok (.aload_n 0, 1) := by decide +kernel
theorem dX4_to_15 : decode cX4_to 15 = .ok (.iload_n 3, 1) := by decide +kernel
theorem dX4_to_16 : decode cX4_to 16 = .ok (.invokevirtual 64, 3) := by decide +kernel
theorem dX4_to_19 : decode cX4_to 19 = .ok (.ifCond .eq 40, 3) := by decide +kernel
theorem dX4_to_22 : decode cX4_to 22 = .ok (.aload_n 0, 1) := by decide +kernel
theorem dX4_to_23 : decode cX4_to 23 = .ok (.getfield 9, 3) := by decide +kernel
theorem dX4_to_26 : decode cX4_to 26 = .ok (.iload_n 1, 1) := by decide +kernel
theorem dX4_to_27 : decode cX4_to 27 = .ok (.iaload, 1) := by decide +kernel
theorem dX4_to_28 : decode cX4_to 28 = .ok (.iload_n 3, 1) := by decide +kernel
theorem dX4_to_29 : decode cX4_to 29 = .ok (.invokestatic 40, 3) := by decide +kernel
theorem dX4_to_32 : decode cX4_to 32 = .ok (.ifCond .ne 16, 3) := by decide +kernel
theorem dX4_to_35 : decode cX4_to 35 = .ok (.aload_n 0, 1) := by decide +kernel
theorem dX4_to_36 : decode cX4_to 36 = .ok (.getfield 13, 3) := by decide +kernel
theorem dX4_to_39 : decode cX4_to 39 = .ok (.iload_n 3, 1) := by decide +kernel
theorem dX4_to_40 : decode cX4_to 40 = .ok (.iaload, 1) := by decide +kernel
theorem dX4_to_41 : decode cX4_to 41 = .ok (.iload_n 1, 1) := by decide +kernel
theorem dX4_to_42 : decode cX4_to 42 = .ok (.invokestatic 40, 3) := by decide +kernel
theorem dX4_to_45 : decode cX4_to 45 = .ok (.ifCond .eq 14, 3) := by decide +kernel
theorem dX4_to_48 : decode cX4_to 48 = .ok (.iload_n 2, 1) := by decide +kernel
theorem dX4_to_49 : decode cX4_to 49 = .ok (.aload_n 0, 1) := by decide +kernel
theorem dX4_to_50 : decode cX4_to 50 = .ok (.getfield 22, 3) := by decide +kernel
theorem dX4_to_53 : decode cX4_to 53 = .ok (.iload_n 3, 1) := by decide +kernel
theorem dX4_to_54 : decode cX4_to 54 = .ok (.iaload, 1) := by decide +kernel
theorem dX4_to_55 : decode cX4_to 55 = .ok (.invokestatic 73, 3) := by decide +kernel
theorem dX4_to_58 : decode cX4_to 58 = .ok (.istore_n 2, 1) := by decide +kernel
theorem dX4_to_59 : decode cX4_to 59 = .ok (.iinc 3 1, 3) := by decide +kernel
theorem dX4_to_62 : decode cX4_to 62 = .ok (.goto (-56), 3) := by decide +kernel
theorem dX4_to_65 : decode cX4_to 65 = .ok (.iload_n 2, 1) := by decide +kernel
theorem dX4_to_66 : decode cX4_to 66 = .ok (.ireturn, 1) := by decide +kernel
set_option maxRecDepth 20000 in
theorem ggX4_isDoubtful_X4_from : GoodIn wsX4_isDoubtful wsX4_from := goodIn_r _ [5, 6, 7, 8, 9, 10, 11, 12, 13, 14, 15, 16, 4, 17, 18, 19, 20, 29, 30, 31, 32, 33, 34, 35] (by decide +kernel) (by decide +kernel)
set_option maxRecDepth 20000 in
theorem gX4_isDoubtful_X4_from : GoodIn wsX4_isDoubtful (wsV RX4 76 RX4 yX4_from wsX4_from) := goodIn_app (goodIn_of _ (by decide +kernel)) ggX4_isDoubtful_X4_from
set_option maxRecDepth 20000 in
theorem ggX4_isDoubtful_X4_to : GoodIn wsX4_isDoubtful wsX4_to := goodIn_r _ [24, 6, 7, 8, 25, 26, 27, 12, 28, 14, 15, 16, 4, 17, 9, 18, 19, 20, 29, 30, 31, 32, 33, 34, 35] (by decide +kernel) (by decide +kernel)
set_option maxRecDepth 20000 in
theorem gX4_isDoubtful_X4_to : GoodIn wsX4_isDoubtful (wsV RX4 79 RX4 yX4_to wsX4_to) := goodIn_app (goodIn_of _ (by decide +kernel)) ggX4_isDoubtful_X4_to
theorem dX4_isDoubtful_0 : decode cX4_isDoubtful 0 = .ok (.aload_n 0, 1) := by decide +kernel
theorem dX4_isDoubtful_1 : decode cX4_isDoubtful 1 = .ok (.iload_n 1, 1) := by decide +kernel
theorem dX4_isDoubtful_2 : decode cX4_isDoubtful 2 = .ok (.invokevirtual 76, 3) := by decide +kernel
theorem dX4_isDoubtful_5 : decode cX4_isDoubtful 5 = .ok (.aload_n 0, 1) := by decide +kernel
theorem dX4_isDoubtful_6 : decode cX4_isDoubtful 6 = .ok (.iload_n 1, 1) := by decide +kernel
theorem dX4_isDoubtful_7 : decode cX4_isDoubtful 7 = .ok (.invokevirtual 79, 3) := by decide +kernel
theorem dX4_isDoubtful_10 : decode cX4_isDoubtful 10 = .ok (.if_icmp .le 7, 3) := by decide +kernel
theorem dX4_isDoubtful_13 : decode cX4_isDoubtful 13 = .ok (.iconst 1, 1) := by decide +kernel
theorem dX4_isDoubtful_14 : decode cX4_isDoubtful 14 = .ok (.goto 4, 3) := by decide +kernel
theorem dX4_isDoubtful_17 : decode cX4_isDoubtful 17 = .ok (.iconst 0, 1) := by decide +kernel
theorem dX4_isDoubtful_18 : decode cX4_isDoubtful 18 = .ok (.ireturn, 1) := by decide +kernel
set_option maxRecDepth 20000 in
theorem ggX4_hearth_X4_isLayer : GoodIn wsX4_hearth wsX4_isLayer := goodIn_r _ [8, 9, 10, 11, 7, 12, 34, 35, 36, 37, 38, 39, 40] (by decide +kernel) (by decide +kernel)
set_option maxRecDepth 20000 in
theorem gX4_hearth_X4_isLayer : GoodIn wsX4_hearth (wsV RX4 44 RX4 yX4_isLayer wsX4_isLayer) := goodIn_app (goodIn_of _ (by decide +kernel)) ggX4_hearth_X4_isLayer
set_option maxRecDepth 20000 in
theorem ggX4_hearth_X4_fail : GoodIn wsX4_hearth wsX4_fail := goodIn_r _ [16, 1, 34, 35, 36, 37, 38, 39, 40] (by decide +kernel) (by decide +kernel)
set_option maxRecDepth 20000 in
theorem gX4_hearth_X4_fail : GoodIn wsX4_hearth (wsV RX4 36 RX4 yX4_fail wsX4_fail) := goodIn_app (goodIn_of _ (by decide +kernel)) ggX4_hearth_X4_fail
set_option maxRecDepth 20000 in
theorem ggX4_hearth_X4_from : GoodIn wsX4_hearth wsX4_from := goodIn_r _ [20, 9, 21, 22, 2, 23, 24, 25, 26, 27, 28, 29, 7, 30, 31, 32, 33, 34, 35, 36, 37, 38, 39, 40] (by decide +kernel) (by decide +kernel)
set_option maxRecDepth 20000 in
theorem gX4_hearth_X4_from : GoodIn wsX4_hearth (wsV RX4 76 RX4 yX4_from wsX4_from) := goodIn_app (goodIn_of _ (by decide +kernel)) ggX4_hearth_X4_from
theorem dX4_hearth_0 : decode cX4_hearth 0 = .ok (.aload_n 0, 1) := by decide +kernel
theorem dX4_hearth_1 : decode cX4_hearth 1 = .ok (.iconst 0, 1) := by decide +kernel
theorem dX4_hearth_2 : decode cX4_hearth 2 = .ok (.putfield 25, 3) := by decide +kernel
theorem dX4_hearth_5 : decode cX4_hearth 5 = .ok (.aload_n 0, 1) := by decide +kernel
theorem dX4_hearth_6 : decode cX4_hearth 6 = .ok (.iload_n 1, 1) := by decide +kernel
theorem dX4_hearth_7 : decode cX4_hearth 7 = .ok (.invokevirtual 44, 3) := by decide +kernel
theorem dX4_hearth_10 : decode cX4_hearth 10 = .ok (.ifCond .ne 9, 3) := by decide +kernel
theorem dX4_hearth_13 : decode cX4_hearth 13 = .ok (.aload_n 0, 1) := by decide +kernel
theorem dX4_hearth_14 : decode cX4_hearth 14 = .ok (.iconst 1, 1) := by decide +kernel
theorem dX4_hearth_15 : decode cX4_hearth 15 = .ok (.invokevirtual 36, 3) := by decide +kernel
theorem dX4_hearth_18 : decode cX4_hearth 18 = .ok (.ireturn, 1) := by decide +kernel
theorem dX4_hearth_19 : decode cX4_hearth 19 = .ok (.iload_n 2, 1) := by decide +kernel
theorem dX4_hearth_20 : decode cX4_hearth 20 = .ok (.ifCond .lt 15, 3) := by decide +kernel
theorem dX4_hearth_23 : decode cX4_hearth 23 = .ok (.iload_n 3, 1) := by decide +kernel
theorem dX4_hearth_24 : decode cX4_hearth 24 = .ok (.sipush 9999, 3) := by decide +kernel
theorem dX4_hearth_27 : decode cX4_hearth 27 = .ok (.if_icmp .gt 8, 3) := by decide +kernel
theorem dX4_hearth_30 : decode cX4_hearth 30 = .ok (.iload_n 2, 1) := by decide +kernel
theorem dX4_hearth_31 : decode cX4_hearth 31 = .ok (.iload_n 3, 1) := by decide +kernel
theorem dX4_hearth_32 : decode cX4_hearth 32 = .ok (.if_icmp .le 9, 3) := by decide +kernel
theorem dX4_hearth_35 : decode cX4_hearth 35 = .ok (.aload_n 0, 1) := by decide +kernel
theorem dX4_hearth_36 : decode cX4_hearth 36 = .ok (.iconst 2, 1) := by decide +kernel
theorem dX4_hearth_37 : decode cX4_hearth 37 = .ok (.invokevirtual 36, 3) := by decide +kernel
theorem dX4_hearth_40 : decode cX4_hearth 40 = .ok (.ireturn, 1) := by decide +kernel
theorem dX4_hearth_41 : decode cX4_hearth 41 = .ok (.aload_n 0, 1) := by decide +kernel
theorem dX4_hearth_42 : decode cX4_hearth 42 = .ok (.getfield 19, 3) := by decide +kernel
theorem dX4_hearth_45 : decode cX4_hearth 45 = .ok (.iload_n 1, 1) := by decide +kernel
theorem dX4_hearth_46 : decode cX4_hearth 46 = .ok (.iload_n 2, 1) := by decide +kernel
theorem dX4_hearth_47 : decode cX4_hearth 47 = .ok (.iastore, 1) := by decide +kernel
theorem dX4_hearth_48 : decode cX4_hearth 48 = .ok (.aload_n 0, 1) := by decide +kernel
theorem dX4_hearth_49 : decode cX4_hearth 49 = .ok (.getfield 22, 3) := by decide +kernel
theorem dX4_hearth_52 : decode cX4_hearth 52 = .ok (.iload_n 1, 1) := by decide +kernel
theorem dX4_hearth_53 : decode cX4_hearth 53 = .ok (.iload_n 3, 1) := by decide +kernel
theorem dX4_hearth_54 : decode cX4_hearth 54 = .ok (.iastore, 1) := by decide +kernel
theorem dX4_hearth_55 : decode cX4_hearth 55 = .ok (.aload_n 0, 1) := by decide +kernel
theorem dX4_hearth_56 : decode cX4_hearth 56 = .ok (.iload_n 1, 1) := by decide +kernel
theorem dX4_hearth_57 : decode cX4_hearth 57 = .ok (.invokevirtual 76, 3) := by decide +kernel
theorem dX4_hearth_60 : decode cX4_hearth 60 = .ok (.ireturn, 1) := by decide +kernel
set_option maxRecDepth 20000 in
theorem ggX4_clear_X4_isLayer : GoodIn wsX4_clear wsX4_isLayer := goodIn_r _ [7, 8, 9, 10, 6, 11, 20, 21, 22, 23, 24, 25, 26] (by decide +kernel) (by decide +kernel)
set_option maxRecDepth 20000 in
theorem gX4_clear_X4_isLayer : GoodIn wsX4_clear (wsV RX4 44 RX4 yX4_isLayer wsX4_isLayer) := goodIn_app (goodIn_of _ (by decide +kernel)) ggX4_clear_X4_isLayer
set_option maxRecDepth 20000 in
theorem ggX4_clear_X4_fail : GoodIn wsX4_clear wsX4_fail := goodIn_r _ [15, 1, 20, 21, 22, 23, 24, 25, 26] (by decide +kernel) (by decide +kernel)
set_option maxRecDepth 20000 in
theorem gX4_clear_X4_fail : GoodIn wsX4_clear (wsV RX4 36 RX4 yX4_fail wsX4_fail) := goodIn_app (goodIn_of _ (by decide +kernel)) ggX4_clear_X4_fail
set_option maxRecDepth 20000 in
theorem ggX4_clear_X4_isDated : GoodIn wsX4_clear wsX4_isDated := goodIn_r _ [19, 2, 20, 21, 22, 23, 24, 25, 26] (by decide +kernel) (by decide +kernel)
set_option maxRecDepth 20000 in
theorem gX4_clear_X4_isDated : GoodIn wsX4_clear (wsV RX4 64 RX4 yX4_isDated wsX4_isDated) := goodIn_app (goodIn_of _ (by decide +kernel)) ggX4_clear_X4_isDated
theorem dX4_clear_0 : decode cX4_clear 0 = .ok (.aload_n 0, 1) := by decide +kernel
theorem dX4_clear_1 : decode cX4_clear 1 = .ok (.iconst 0, 1) := by decide +kernel
theorem dX4_clear_2 : decode cX4_clear 2 = .ok (.putfield 25, 3) := by decide +kernel
theorem dX4_clear_5 : decode cX4_clear 5 = .ok (.aload_n 0, 1) := by decide +kernel
theorem dX4_clear_6 : decode cX4_clear 6 = .ok (.iload_n 1, 1) := by decide +kernel
theorem dX4_clear_7 : decode cX4_clear 7 = .ok (.invokevirtual 44, 3) := by decide +kernel
theorem dX4_clear_10 : decode cX4_clear 10 = .ok (.ifCond .ne 9, 3) := by decide +kernel
theorem dX4_clear_13 : decode cX4_clear 13 = .ok (.aload_n 0, 1) := by decide +kernel
theorem dX4_clear_14 : decode cX4_clear 14 = .ok (.iconst 1, 1) := by decide +kernel
theorem dX4_clear_15 : decode cX4_clear 15 = .ok (.invokevirtual 36, 3) := by decide +kernel
theorem dX4_clear_18 : decode cX4_clear 18 = .ok (.ireturn, 1) := by decide +kernel
theorem dX4_clear_19 : decode cX4_clear 19 = .ok (.aload_n 0, 1) := by decide +kernel
theorem dX4_clear_20 : decode cX4_clear 20 = .ok (.iload_n 1, 1) := by decide +kernel
theorem dX4_clear_21 : decode cX4_clear 21 = .ok (.invokevirtual 64, 3) := by decide +kernel
theorem dX4_clear_24 : decode cX4_clear 24 = .ok (.ifCond .ne 9, 3) := by decide +kernel
theorem dX4_clear_27 : decode cX4_clear 27 = .ok (.aload_n 0, 1) := by decide +kernel
theorem dX4_clear_28 : decode cX4_clear 28 = .ok (.iconst 2, 1) := by decide +kernel
theorem dX4_clear_29 : decode cX4_clear 29 = .ok (.invokevirtual 36, 3) := by decide +kernel
theorem dX4_clear_32 : decode cX4_clear 32 = .ok (.ireturn, 1) := by decide +kernel
theorem dX4_clear_33 : decode cX4_clear 33 = .ok (.aload_n 0, 1) := by decide +kernel
theorem dX4_clear_34 : decode cX4_clear 34 = .ok (.getfield 19, 3) := by decide +kernel
theorem dX4_clear_37 : decode cX4_clear 37 = .ok (.iload_n 1, 1) := by decide +kernel
theorem dX4_clear_38 : decode cX4_clear 38 = .ok (.iaload, 1) := by decide +kernel
theorem dX4_clear_39 : decode cX4_clear 39 = .ok (.istore_n 2, 1) := by decide +kernel
theorem dX4_clear_40 : decode cX4_clear 40 = .ok (.aload_n 0, 1) := by decide +kernel
theorem dX4_clear_41 : decode cX4_clear 41 = .ok (.getfield 19, 3) := by decide +kernel
theorem dX4_clear_44 : decode cX4_clear 44 = .ok (.iload_n 1, 1) := by decide +kernel
theorem dX4_clear_45 : decode cX4_clear 45 = .ok (.iconst (-1), 1) := by decide +kernel
theorem dX4_clear_46 : decode cX4_clear 46 = .ok (.iastore, 1) := by decide +kernel
theorem dX4_clear_47 : decode cX4_clear 47 = .ok (.iload_n 2, 1) := by decide +kernel
theorem dX4_clear_48 : decode cX4_clear 48 = .ok (.ireturn, 1) := by decide +kernel
set_option maxRecDepth 20000 in
theorem ggX4_later_X4_isLayer : GoodIn wsX4_later wsX4_isLayer := goodIn_r _ [7, 8, 9, 10, 6, 11, 15, 16, 17, 18, 19, 20, 21] (by decide +kernel) (by decide +kernel)
set_option maxRecDepth 20000 in
theorem gX4_later_X4_isLayer : GoodIn wsX4_later (wsV RX4 44 RX4 yX4_isLayer wsX4_isLayer) := goodIn_app (goodIn_of _ (by decide +kernel)) ggX4_later_X4_isLayer
set_option maxRecDepth 20000 in
theorem ggX4_later_X4_has : GoodIn wsX4_later wsX4_has := goodIn_r _ [14] (by decide +kernel) (by decide +kernel)
set_option maxRecDepth 20000 in
theorem gX4_later_X4_has : GoodIn wsX4_later (va_wsS RX4 40 yX4_has wsX4_has) := goodIn_app (goodIn_of _ (by decide +kernel)) ggX4_later_X4_has
theorem dX4_later_0 : decode cX4_later 0 = .ok (.aload_n 0, 1) := by decide +kernel
theorem dX4_later_1 : decode cX4_later 1 = .ok (.aload_n 0, 1) := by decide +kernel
theorem dX4_later_2 : decode cX4_later 2 = .ok (.iload_n 1, 1) := by decide +kernel
theorem dX4_later_3 : decode cX4_later 3 = .ok (.invokevirtual 44, 3) := by decide +kernel
theorem dX4_later_6 : decode cX4_later 6 = .ok (.ifCond .eq 15, 3) := by decide +kernel
theorem dX4_later_9 : decode cX4_later 9 = .ok (.aload_n 0, 1) := by decide +kernel
theorem dX4_later_10 : decode cX4_later 10 = .ok (.iload_n 2, 1) := by decide +kernel
theorem dX4_later_11 : decode cX4_later 11 = .ok (.invokevirtual 44, 3) := by decide +kernel
theorem dX4_later_14 : decode cX4_later 14 = .ok (.ifCond .eq 7, 3) := by decide +kernel
theorem dX4_later_17 : decode cX4_later 17 = .ok (.iconst 0, 1) := by decide +kernel
theorem dX4_later_18 : decode cX4_later 18 = .ok (.goto 4, 3) := by decide +kernel
theorem dX4_later_21 : decode cX4_later 21 = .ok (.iconst 1, 1) := by decide +kernel
theorem dX4_later_22 : decode cX4_later 22 = .ok (.putfield 25, 3) := by decide +kernel
theorem dX4_later_25 : decode cX4_later 25 = .ok (.aload_n 0, 1) := by decide +kernel
theorem dX4_later_26 : decode cX4_later 26 = .ok (.getfield 25, 3) := by decide +kernel
theorem dX4_later_29 : decode cX4_later 29 = .ok (.ifCond .ne 20, 3) := by decide +kernel
theorem dX4_later_32 : decode cX4_later 32 = .ok (.aload_n 0, 1) := by decide +kernel
theorem dX4_later_33 : decode cX4_later 33 = .ok (.getfield 13, 3) := by decide +kernel
theorem dX4_later_36 : decode cX4_later 36 = .ok (.iload_n 1, 1) := by decide +kernel
theorem dX4_later_37 : decode cX4_later 37 = .ok (.iaload, 1) := by decide +kernel
theorem dX4_later_38 : decode cX4_later 38 = .ok (.iload_n 2, 1) := by decide +kernel
theorem dX4_later_39 : decode cX4_later 39 = .ok (.invokestatic 40, 3) := by decide +kernel
theorem dX4_later_42 : decode cX4_later 42 = .ok (.ifCond .eq 7, 3) := by decide +kernel
theorem dX4_later_45 : decode cX4_later 45 = .ok (.iconst 1, 1) := by decide +kernel
theorem dX4_later_46 : decode cX4_later 46 = .ok (.goto 4, 3) := by decide +kernel
theorem dX4_later_49 : decode cX4_later 49 = .ok (.iconst 0, 1) := by decide +kernel
theorem dX4_later_50 : decode cX4_later 50 = .ok (.ireturn, 1) := by decide +kernel
set_option maxRecDepth 20000 in
theorem ggX4_phases_X4_has : GoodIn wsX4_phases wsX4_has := goodIn_r _ [11] (by decide +kernel) (by decide +kernel)
set_option maxRecDepth 20000 in
theorem gX4_phases_X4_has : GoodIn wsX4_phases (va_wsS RX4 40 yX4_has wsX4_has) := goodIn_app (goodIn_of _ (by decide +kernel)) ggX4_phases_X4_has
theorem dX4_phases_0 : decode cX4_phases 0 = .ok (.bipush 14, 2) := by decide +kernel
theorem dX4_phases_2 : decode cX4_phases 2 = .ok (.newarray .int, 2) := by decide +kernel
theorem dX4_phases_4 : decode cX4_phases 4 = .ok (.astore_n 1, 1) := by decide +kernel
theorem dX4_phases_5 : decode cX4_phases 5 = .ok (.iconst 0, 1) := by decide +kernel
theorem dX4_phases_6 : decode cX4_phases 6 = .ok (.istore_n 2, 1) := by decide +kernel
theorem dX4_phases_7 : decode cX4_phases 7 = .ok (.iload_n 2, 1) := by decide +kernel
theorem dX4_phases_8 : decode cX4_phases 8 = .ok (.aload_n 0, 1) := by decide +kernel
theorem dX4_phases_9 : decode cX4_phases 9 = .ok (.getfield 29, 3) := by decide +kernel
theorem dX4_phases_12 : decode cX4_phases 12 = .ok (.if_icmp .ge 72, 3) := by decide +kernel
theorem dX4_phases_15 : decode cX4_phases 15 = .ok (.iconst 0, 1) := by decide +kernel
theorem dX4_phases_16 : decode cX4_phases 16 = .ok (.istore_n 3, 1) := by decide +kernel
theorem dX4_phases_17 : decode cX4_phases 17 = .ok (.iload_n 3, 1) := by decide +kernel
theorem dX4_phases_18 : decode cX4_phases 18 = .ok (.aload_n 0, 1) := by decide +kernel
theorem dX4_phases_19 : decode cX4_phases 19 = .ok (.getfield 29, 3) := by decide +kernel
theorem dX4_phases_22 : decode cX4_phases 22 = .ok (.if_icmp .ge 56, 3) := by decide +kernel
theorem dX4_phases_25 : decode cX4_phases 25 = .ok (.iconst 0, 1) := by decide +kernel
theorem dX4_phases_26 : decode cX4_phases 26 = .ok (.istore 4, 2) := by decide +kernel
theorem dX4_phases_28 : decode cX4_phases 28 = .ok (.iload 4, 2) := by decide +kernel
theorem dX4_phases_30 : decode cX4_phases 30 = .ok (.aload_n 0, 1) := by decide +kernel
theorem dX4_phases_31 : decode cX4_phases 31 = .ok (.getfield 29, 3) := by decide +kernel
theorem dX4_phases_34 : decode cX4_phases 34 = .ok (.if_icmp .ge 38, 3) := by decide +kernel
theorem dX4_phases_37 : decode cX4_phases 37 = .ok (.aload_n 0, 1) := by decide +kernel
theorem dX4_phases_38 : decode cX4_phases 38 = .ok (.getfield 13, 3) := by decide +kernel
theorem dX4_phases_41 : decode cX4_phases 41 = .ok (.iload_n 3, 1) := by decide +kernel
theorem dX4_phases_42 : decode cX4_phases 42 = .ok (.iaload, 1) := by decide +kernel
theorem dX4_phases_43 : decode cX4_phases 43 = .ok (.iload 4, 2) := by decide +kernel
theorem dX4_phases_45 : decode cX4_phases 45 = .ok (.invokestatic 40, 3) := by decide +kernel
theorem dX4_phases_48 : decode cX4_phases 48 = .ok (.ifCond .eq 18, 3) := by decide +kernel
theorem dX4_phases_51 : decode cX4_phases 51 = .ok (.aload_n 1, 1) := by decide +kernel
theorem dX4_phases_52 : decode cX4_phases 52 = .ok (.iload_n 3, 1) := by decide +kernel
theorem dX4_phases_53 : decode cX4_phases 53 = .ok (.aload_n 1, 1) := by decide +kernel
theorem dX4_phases_54 : decode cX4_phases 54 = .ok (.iload_n 3, 1) := by decide +kernel
theorem dX4_phases_55 : decode cX4_phases 55 = .ok (.iaload, 1) := by decide +kernel
theorem dX4_phases_56 : decode cX4_phases 56 = .ok (.aload_n 1, 1) := by decide +kernel
theorem dX4_phases_57 : decode cX4_phases 57 = .ok (.iload 4, 2) := by decide +kernel
theorem dX4_phases_59 : decode cX4_phases 59 = .ok (.iaload, 1) := by decide +kernel
theorem dX4_phases_60 : decode cX4_phases 60 = .ok (.iconst 1, 1) := by decide +kernel
theorem dX4_phases_61 : decode cX4_phases 61 = .ok (.iadd, 1) := by decide +kernel
theorem dX4_phases_62 : decode cX4_phases 62 = .ok (.invokestatic 67, 3) := by decide +kernel
theorem dX4_phases_65 : decode cX4_phases 65 = .ok (.iastore, 1) := by decide +kernel
theorem dX4_phases_66 : decode cX4_phases 66 = .ok (.iinc 4 1, 3) := by decide +kernel
theorem dX4_phases_69 : decode cX4_phases 69 = .ok (.goto (-41), 3) := by decide +kernel
theorem dX4_phases_72 : decode cX4_phases 72 = .ok (.iinc 3 1, 3) := by decide +kernel
theorem dX4_phases_75 : decode cX4_phases 75 = .ok (.goto (-58), 3) := by decide +kernel
theorem dX4_phases_78 : decode cX4_phases 78 = .ok (.iinc 2 1, 3) := by decide +kernel
theorem dX4_phases_81 : decode cX4_phases 81 = .ok (.goto (-74), 3) := by decide +kernel
theorem dX4_phases_84 : decode cX4_phases 84 = .ok (.aload_n 1, 1) := by decide +kernel
theorem dX4_phases_85 : decode cX4_phases 85 = .ok (.areturn, 1) := by decide +kernel
set_option maxRecDepth 20000 in
theorem ggX4_all_X4_has : GoodIn wsX4_all wsX4_has := goodIn_r _ [7] (by decide +kernel) (by decide +kernel)
set_option maxRecDepth 20000 in
theorem gX4_all_X4_has : GoodIn wsX4_all (va_wsS RX4 40 yX4_has wsX4_has) := goodIn_app (goodIn_of _ (by decide +kernel)) ggX4_all_X4_has
theorem dX4_all_0 : decode cX4_all 0 = .ok (.iconst 0, 1) := by decide +kernel
theorem dX4_all_1 : decode cX4_all 1 = .ok (.istore_n 3, 1) := by decide +kernel
theorem dX4_all_2 : decode cX4_all 2 = .ok (.iconst 0, 1) := by decide +kernel
theorem dX4_all_3 : decode cX4_all 3 = .ok (.istore 4, 2) := by decide +kernel
theorem dX4_all_5 : decode cX4_all 5 = .ok (.iload 4, 2) := by decide +kernel
theorem dX4_all_7 : decode cX4_all 7 = .ok (.aload_n 0, 1) := by decide +kernel
theorem dX4_all_8 : decode cX4_all 8 = .ok (.getfield 29, 3) := by decide +kernel
theorem dX4_all_11 : decode cX4_all 11 = .ok (.if_icmp .ge 41, 3) := by decide +kernel
theorem dX4_all_14 : decode cX4_all 14 = .ok (.iload_n 3, 1) := by decide +kernel
theorem dX4_all_15 : decode cX4_all 15 = .ok (.aload_n 0, 1) := by decide +kernel
theorem dX4_all_16 : decode cX4_all 16 = .ok (.getfield 9, 3) := by decide +kernel
theorem dX4_all_19 : decode cX4_all 19 = .ok (.iload_n 1, 1) := by decide +kernel
theorem dX4_all_20 : decode cX4_all 20 = .ok (.iaload, 1) := by decide +kernel
theorem dX4_all_21 : decode cX4_all 21 = .ok (.iload 4, 2) := by decide +kernel
theorem dX4_all_23 : decode cX4_all 23 = .ok (.invokestatic 40, 3) := by decide +kernel
theorem dX4_all_26 : decode cX4_all 26 = .ok (.ifCond .eq 17, 3) := by decide +kernel
theorem dX4_all_29 : decode cX4_all 29 = .ok (.aload_n 0, 1) := by decide +kernel
theorem dX4_all_30 : decode cX4_all 30 = .ok (.getfield 16, 3) := by decide +kernel
theorem dX4_all_33 : decode cX4_all 33 = .ok (.iconst 4, 1) := by decide +kernel
theorem dX4_all_34 : decode cX4_all 34 = .ok (.iload 4, 2) := by decide +kernel
theorem dX4_all_36 : decode cX4_all 36 = .ok (.imul, 1) := by decide +kernel
theorem dX4_all_37 : decode cX4_all 37 = .ok (.iload_n 2, 1) := by decide +kernel
theorem dX4_all_38 : decode cX4_all 38 = .ok (.iadd, 1) := by decide +kernel
theorem dX4_all_39 : decode cX4_all 39 = .ok (.iaload, 1) := by decide +kernel
theorem dX4_all_40 : decode cX4_all 40 = .ok (.goto 4, 3) := by decide +kernel
theorem dX4_all_43 : decode cX4_all 43 = .ok (.iconst 0, 1) := by decide +kernel
theorem dX4_all_44 : decode cX4_all 44 = .ok (.iadd, 1) := by decide +kernel
theorem dX4_all_45 : decode cX4_all 45 = .ok (.istore_n 3, 1) := by decide +kernel
theorem dX4_all_46 : decode cX4_all 46 = .ok (.iinc 4 1, 3) := by decide +kernel
theorem dX4_all_49 : decode cX4_all 49 = .ok (.goto (-44), 3) := by decide +kernel
theorem dX4_all_52 : decode cX4_all 52 = .ok (.iload_n 3, 1) := by decide +kernel
theorem dX4_all_53 : decode cX4_all 53 = .ok (.ireturn, 1) := by decide +kernel
set_option maxRecDepth 20000 in
theorem ggX4_season_X4_all : GoodIn wsX4_season wsX4_all := goodIn_r _ [6, 7, 8, 9, 10, 11, 5, 12, 13, 14, 15, 16, 17, 18, 19] (by decide +kernel) (by decide +kernel)
set_option maxRecDepth 20000 in
theorem gX4_season_X4_all : GoodIn wsX4_season (wsV RX4 82 RX4 yX4_all wsX4_all) := goodIn_app (goodIn_of _ (by decide +kernel)) ggX4_season_X4_all
theorem dX4_season_0 : decode cX4_season 0 = .ok (.aload_n 0, 1) := by decide +kernel
theorem dX4_season_1 : decode cX4_season 1 = .ok (.iload_n 1, 1) := by decide +kernel
theorem dX4_season_2 : decode cX4_season 2 = .ok (.iconst 0, 1) := by decide +kernel
theorem dX4_season_3 : decode cX4_season 3 = .ok (.invokevirtual 82, 3) := by decide +kernel
theorem dX4_season_6 : decode cX4_season 6 = .ok (.istore_n 2, 1) := by decide +kernel
theorem dX4_season_7 : decode cX4_season 7 = .ok (.aload_n 0, 1) := by decide +kernel
theorem dX4_season_8 : decode cX4_season 8 = .ok (.iload_n 1, 1) := by decide +kernel
theorem dX4_season_9 : decode cX4_season 9 = .ok (.iconst 1, 1) := by decide +kernel
theorem dX4_season_10 : decode cX4_season 10 = .ok (.invokevirtual 82, 3) := by decide +kernel
theorem dX4_season_13 : decode cX4_season 13 = .ok (.istore_n 3, 1) := by decide +kernel
theorem dX4_season_14 : decode cX4_season 14 = .ok (.aload_n 0, 1) := by decide +kernel
theorem dX4_season_15 : decode cX4_season 15 = .ok (.iload_n 1, 1) := by decide +kernel
theorem dX4_season_16 : decode cX4_season 16 = .ok (.iconst 2, 1) := by decide +kernel
theorem dX4_season_17 : decode cX4_season 17 = .ok (.invokevirtual 82, 3) := by decide +kernel
theorem dX4_season_20 : decode cX4_season 20 = .ok (.istore 4, 2) := by decide +kernel
theorem dX4_season_22 : decode cX4_season 22 = .ok (.aload_n 0, 1) := by decide +kernel
theorem dX4_season_23 : decode cX4_season 23 = .ok (.iload_n 1, 1) := by decide +kernel
theorem dX4_season_24 : decode cX4_season 24 = .ok (.iconst 3, 1) := by decide +kernel
theorem dX4_season_25 : decode cX4_season 25 = .ok (.invokevirtual 82, 3) := by decide +kernel
theorem dX4_season_28 : decode cX4_season 28 = .ok (.istore 5, 2) := by decide +kernel
theorem dX4_season_30 : decode cX4_season 30 = .ok (.iconst 4, 1) := by decide +kernel
theorem dX4_season_31 : decode cX4_season 31 = .ok (.newarray .int, 2) := by decide +kernel
theorem dX4_season_33 : decode cX4_season 33 = .ok (.dup, 1) := by decide +kernel
theorem dX4_season_34 : decode cX4_season 34 = .ok (.iconst 0, 1) := by decide +kernel
theorem dX4_season_35 : decode cX4_season 35 = .ok (.iconst 3, 1) := by decide +kernel
theorem dX4_season_36 : decode cX4_season 36 = .ok (.iload_n 2, 1) := by decide +kernel
theorem dX4_season_37 : decode cX4_season 37 = .ok (.imul, 1) := by decide +kernel
theorem dX4_season_38 : decode cX4_season 38 = .ok (.iload 5, 2) := by decide +kernel
theorem dX4_season_40 : decode cX4_season 40 = .ok (.iadd, 1) := by decide +kernel
theorem dX4_season_41 : decode cX4_season 41 = .ok (.iastore, 1) := by decide +kernel
theorem dX4_season_42 : decode cX4_season 42 = .ok (.dup, 1) := by decide +kernel
theorem dX4_season_43 : decode cX4_season 43 = .ok (.iconst 1, 1) := by decide +kernel
theorem dX4_season_44 : decode cX4_season 44 = .ok (.iconst 2, 1) := by decide +kernel
theorem dX4_season_45 : decode cX4_season 45 = .ok (.iload_n 3, 1) := by decide +kernel
theorem dX4_season_46 : decode cX4_season 46 = .ok (.imul, 1) := by decide +kernel
theorem dX4_season_47 : decode cX4_season 47 = .ok (.iload 4, 2) := by decide +kernel
theorem dX4_season_49 : decode cX4_season 49 = .ok (.iconst 2, 1) := by decide +kernel
theorem dX4_season_50 : decode cX4_season 50 = .ok (.idiv, 1) := by decide +kernel
theorem dX4_season_51 : decode cX4_season 51 = .ok (.iadd, 1) := by decide +kernel
theorem dX4_season_52 : decode cX4_season 52 = .ok (.iastore, 1) := by decide +kernel
theorem dX4_season_53 : decode cX4_season 53 = .ok (.dup, 1) := by decide +kernel
theorem dX4_season_54 : decode cX4_season 54 = .ok (.iconst 2, 1) := by decide +kernel
theorem dX4_season_55 : decode cX4_season 55 = .ok (.iconst 2, 1) := by decide +kernel
theorem dX4_season_56 : decode cX4_season 56 = .ok (.iload 4, 2) := by decide +kernel
theorem dX4_season_58 : decode cX4_season 58 = .ok (.imul, 1) := by decide +kernel
theorem dX4_season_59 : decode cX4_season 59 = .ok (.iload_n 3, 1) := by decide +kernel
theorem dX4_season_60 : decode cX4_season 60 = .ok (.iadd, 1) := by decide +kernel
theorem dX4_season_61 : decode cX4_season 61 = .ok (.iastore, 1) := by decide +kernel
theorem dX4_season_62 : decode cX4_season 62 = .ok (.dup, 1) := by decide +kernel
theorem dX4_season_63 : decode cX4_season 63 = .ok (.iconst 3, 1) := by decide +kernel
theorem dX4_season_64 : decode cX4_season 64 = .ok (.iconst 4, 1) := by decide +kernel
theorem dX4_season_65 : decode cX4_season 65 = .ok (.iload 5, 2) := by decide +kernel
theorem dX4_season_67 : decode cX4_season 67 = .ok (.imul, 1) := by decide +kernel
theorem dX4_season_68 : decode cX4_season 68 = .ok (.iload_n 2, 1) := by decide +kernel
theorem dX4_season_69 : decode cX4_season 69 = .ok (.iadd, 1) := by decide +kernel
theorem dX4_season_70 : decode cX4_season 70 = .ok (.iastore, 1) := by decide +kernel
theorem dX4_season_71 : decode cX4_season 71 = .ok (.astore 6, 2) := by decide +kernel
theorem dX4_season_73 : decode cX4_season 73 = .ok (.iconst 0, 1) := by decide +kernel
theorem dX4_season_74 : decode cX4_season 74 = .ok (.istore 7, 2) := by decide +kernel
theorem dX4_season_76 : decode cX4_season 76 = .ok (.iconst 1, 1) := by decide +kernel
theorem dX4_season_77 : decode cX4_season 77 = .ok (.istore 8, 2) := by decide +kernel
theorem dX4_season_79 : decode cX4_season 79 = .ok (.iload 8, 2) := by decide +kernel
theorem dX4_season_81 : decode cX4_season 81 = .ok (.iconst 4, 1) := by decide +kernel
theorem dX4_season_82 : decode cX4_season 82 = .ok (.if_icmp .ge 26, 3) := by decide +kernel
theorem dX4_season_85 : decode cX4_season 85 = .ok (.aload 6, 2) := by decide +kernel
theorem dX4_season_87 : decode cX4_season 87 = .ok (.iload 8, 2) := by decide +kernel
theorem dX4_season_89 : decode cX4_season 89 = .ok (.iaload, 1) := by decide +kernel
theorem dX4_season_90 : decode cX4_season 90 = .ok (.aload 6, 2) := by decide +kernel
theorem dX4_season_92 : decode cX4_season 92 = .ok (.iload 7, 2) := by decide +kernel
theorem dX4_season_94 : decode cX4_season 94 = .ok (.iaload, 1) := by decide +kernel
theorem dX4_season_95 : decode cX4_season 95 = .ok (.if_icmp .le 7, 3) := by decide +kernel
theorem dX4_season_98 : decode cX4_season 98 = .ok (.iload 8, 2) := by decide +kernel
theorem dX4_season_100 : decode cX4_season 100 = .ok (.istore 7, 2) := by decide +kernel
theorem dX4_season_102 : decode cX4_season 102 = .ok (.iinc 8 1, 3) := by decide +kernel
theorem dX4_season_105 : decode cX4_season 105 = .ok (.goto (-26), 3) := by decide +kernel
theorem dX4_season_108 : decode cX4_season 108 = .ok (.iload_n 2, 1) := by decide +kernel
theorem dX4_season_109 : decode cX4_season 109 = .ok (.iload_n 3, 1) := by decide +kernel
theorem dX4_season_110 : decode cX4_season 110 = .ok (.iadd, 1) := by decide +kernel
theorem dX4_season_111 : decode cX4_season 111 = .ok (.iload 4, 2) := by decide +kernel
theorem dX4_season_113 : decode cX4_season 113 = .ok (.iadd, 1) := by decide +kernel
theorem dX4_season_114 : decode cX4_season 114 = .ok (.iload 5, 2) := by decide +kernel
theorem dX4_season_116 : decode cX4_season 116 = .ok (.iadd, 1) := by decide +kernel
theorem dX4_season_117 : decode cX4_season 117 = .ok (.ifCond .ne 7, 3) := by decide +kernel
theorem dX4_season_120 : decode cX4_season 120 = .ok (.iconst (-1), 1) := by decide +kernel
theorem dX4_season_121 : decode cX4_season 121 = .ok (.goto 5, 3) := by decide +kernel
theorem dX4_season_124 : decode cX4_season 124 = .ok (.iload 7, 2) := by decide +kernel
theorem dX4_season_126 : decode cX4_season 126 = .ok (.ireturn, 1) := by decide +kernel
set_option maxRecDepth 20000 in
theorem ggX4_laterThan_X4_has : GoodIn wsX4_laterThan wsX4_has := goodIn_r _ [6] (by decide +kernel) (by decide +kernel)
set_option maxRecDepth 20000 in
theorem gX4_laterThan_X4_has : GoodIn wsX4_laterThan (va_wsS RX4 40 yX4_has wsX4_has) := goodIn_app (goodIn_of _ (by decide +kernel)) ggX4_laterThan_X4_has
theorem dX4_laterThan_0 : decode cX4_laterThan 0 = .ok (.iconst 0, 1) := by decide +kernel
theorem dX4_laterThan_1 : decode cX4_laterThan 1 = .ok (.istore_n 2, 1) := by decide +kernel
theorem dX4_laterThan_2 : decode cX4_laterThan 2 = .ok (.iconst 0, 1) := by decide +kernel
theorem dX4_laterThan_3 : decode cX4_laterThan 3 = .ok (.istore_n 3, 1) := by decide +kernel
theorem dX4_laterThan_4 : decode cX4_laterThan 4 = .ok (.iload_n 3, 1) := by decide +kernel
theorem dX4_laterThan_5 : decode cX4_laterThan 5 = .ok (.aload_n 0, 1) := by decide +kernel
theorem dX4_laterThan_6 : decode cX4_laterThan 6 = .ok (.getfield 29, 3) := by decide +kernel
theorem dX4_laterThan_9 : decode cX4_laterThan 9 = .ok (.if_icmp .ge 30, 3) := by decide +kernel
theorem dX4_laterThan_12 : decode cX4_laterThan 12 = .ok (.iload_n 2, 1) := by decide +kernel
theorem dX4_laterThan_13 : decode cX4_laterThan 13 = .ok (.aload_n 0, 1) := by decide +kernel
theorem dX4_laterThan_14 : decode cX4_laterThan 14 = .ok (.getfield 13, 3) := by decide +kernel
theorem dX4_laterThan_17 : decode cX4_laterThan 17 = .ok (.iload_n 3, 1) := by decide +kernel
theorem dX4_laterThan_18 : decode cX4_laterThan 18 = .ok (.iaload, 1) := by decide +kernel
theorem dX4_laterThan_19 : decode cX4_laterThan 19 = .ok (.iload_n 1, 1) := by decide +kernel
theorem dX4_laterThan_20 : decode cX4_laterThan 20 = .ok (.invokestatic 40, 3) := by decide +kernel
theorem dX4_laterThan_23 : decode cX4_laterThan 23 = .ok (.ifCond .eq 7, 3) := by decide +kernel
theorem dX4_laterThan_26 : decode cX4_laterThan 26 = .ok (.iconst 1, 1) := by decide +kernel
theorem dX4_laterThan_27 : decode cX4_laterThan 27 = .ok (.goto 4, 3) := by decide +kernel
theorem dX4_laterThan_30 : decode cX4_laterThan 30 = .ok (.iconst 0, 1) := by decide +kernel
theorem dX4_laterThan_31 : decode cX4_laterThan 31 = .ok (.iadd, 1) := by decide +kernel
theorem dX4_laterThan_32 : decode cX4_laterThan 32 = .ok (.istore_n 2, 1) := by decide +kernel
theorem dX4_laterThan_33 : decode cX4_laterThan 33 = .ok (.iinc 3 1, 3) := by decide +kernel
theorem dX4_laterThan_36 : decode cX4_laterThan 36 = .ok (.goto (-32), 3) := by decide +kernel
theorem dX4_laterThan_39 : decode cX4_laterThan 39 = .ok (.iload_n 2, 1) := by decide +kernel
theorem dX4_laterThan_40 : decode cX4_laterThan 40 = .ok (.ireturn, 1) := by decide +kernel
set_option maxRecDepth 20000 in
theorem ggX4_toldOf_X4_from : GoodIn wsX4_toldOf wsX4_from := goodIn_r _ [7, 8, 2, 1, 9, 10, 11, 12, 13, 14, 15, 16, 6, 17, 18, 19, 20, 54, 55, 56, 57, 58, 59, 60] (by decide +kernel) (by decide +kernel)
set_option maxRecDepth 20000 in
theorem gX4_toldOf_X4_from : GoodIn wsX4_toldOf (wsV RX4 76 RX4 yX4_from wsX4_from) := goodIn_app (goodIn_of _ (by decide +kernel)) ggX4_toldOf_X4_from
set_option maxRecDepth 20000 in
theorem ggX4_toldOf_X4_to : GoodIn wsX4_toldOf wsX4_to := goodIn_r _ [24, 8, 2, 1, 25, 26, 27, 12, 28, 14, 15, 16, 6, 17, 9, 18, 19, 20, 54, 55, 56, 57, 58, 59, 60] (by decide +kernel) (by decide +kernel)
set_option maxRecDepth 20000 in
theorem gX4_toldOf_X4_to : GoodIn wsX4_toldOf (wsV RX4 79 RX4 yX4_to wsX4_to) := goodIn_app (goodIn_of _ (by decide +kernel)) ggX4_toldOf_X4_to
set_option maxRecDepth 20000 in
theorem ggX4_toldOf_X4_isDoubtful : GoodIn wsX4_toldOf wsX4_isDoubtful := goodIn_r _ [32, 3, 4, 5, 6, 7, 8, 2, 1, 9, 10, 11, 12, 13, 14, 15, 16, 17, 18, 19, 20, 21, 22, 23, 24, 25, 26, 27, 28, 54, 55, 56, 57, 58, 59, 60] (by decide +kernel) (by decide +kernel)
set_option maxRecDepth 20000 in
theorem gX4_toldOf_X4_isDoubtful : GoodIn wsX4_toldOf (wsV RX4 85 RX4 yX4_isDoubtful wsX4_isDoubtful) := goodIn_app (goodIn_of _ (by decide +kernel)) ggX4_toldOf_X4_isDoubtful
set_option maxRecDepth 20000 in
theorem ggX4_toldOf_X4_phases : GoodIn wsX4_toldOf wsX4_phases := goodIn_r _ [36, 37, 8, 1, 10, 11, 12, 13, 18, 19, 6, 20, 54, 55, 56, 57, 58, 59, 60] (by decide +kernel) (by decide +kernel)
set_option maxRecDepth 20000 in
theorem gX4_toldOf_X4_phases : GoodIn wsX4_toldOf (wsV RX4 88 RX4 yX4_phases wsX4_phases) := goodIn_app (goodIn_of _ (by decide +kernel)) ggX4_toldOf_X4_phases
set_option maxRecDepth 20000 in
theorem ggX4_toldOf_X4_size : GoodIn wsX4_toldOf wsX4_size := goodIn_r _ [40] (by decide +kernel) (by decide +kernel)
set_option maxRecDepth 20000 in
theorem gX4_toldOf_X4_size : GoodIn wsX4_toldOf (va_wsS RX4 61 yX4_size wsX4_size) := goodIn_app (goodIn_of _ (by decide +kernel)) ggX4_toldOf_X4_size
set_option maxRecDepth 20000 in
theorem ggX4_toldOf_X4_laterThan : GoodIn wsX4_toldOf wsX4_laterThan := goodIn_r _ [44, 8, 1, 18, 19, 6, 20, 54, 55, 56, 57, 58, 59, 60] (by decide +kernel) (by decide +kernel)
set_option maxRecDepth 20000 in
theorem gX4_toldOf_X4_laterThan : GoodIn wsX4_toldOf (wsV RX4 92 RX4 yX4_laterThan wsX4_laterThan) := goodIn_app (goodIn_of _ (by decide +kernel)) ggX4_toldOf_X4_laterThan
set_option maxRecDepth 20000 in
theorem ggX4_toldOf_X4_season : GoodIn wsX4_toldOf wsX4_season := goodIn_r _ [48, 37, 49, 50, 51, 6, 52, 8, 2, 53, 18, 19, 20, 54, 55, 56, 57, 58, 59, 60] (by decide +kernel) (by decide +kernel)
set_option maxRecDepth 20000 in
theorem gX4_toldOf_X4_season : GoodIn wsX4_toldOf (wsV RX4 95 RX4 yX4_season wsX4_season) := goodIn_app (goodIn_of _ (by decide +kernel)) ggX4_toldOf_X4_season
set_option maxRecDepth 20000 in
theorem ggX4_toldOf_X4_isDated : GoodIn wsX4_toldOf wsX4_isDated := goodIn_r _ [17, 9, 54, 55, 56, 57, 58, 59, 60] (by decide +kernel) (by decide +kernel)
set_option maxRecDepth 20000 in
theorem gX4_toldOf_X4_isDated : GoodIn wsX4_toldOf (wsV RX4 64 RX4 yX4_isDated wsX4_isDated) := goodIn_app (goodIn_of _ (by decide +kernel)) ggX4_toldOf_X4_isDated
theorem dX4_toldOf_0 : decode cX4_toldOf 0 = .ok (.iload_n 2, 1) := by decide +kernel
theorem dX4_toldOf_1 : decode cX4_toldOf 1 = .ok (.tableswitch 112 0 7 #[47, 53, 59, 73, 80, 90, 96, 106], 47) := by decide +kernel
theorem dX4_toldOf_48 : decode cX4_toldOf 48 = .ok (.aload_n 0, 1) := by decide +kernel
theorem dX4_toldOf_49 : decode cX4_toldOf 49 = .ok (.iload_n 1, 1) := by decide +kernel
theorem dX4_toldOf_50 : decode cX4_toldOf 50 = .ok (.invokevirtual 76, 3) := by decide +kernel
theorem dX4_toldOf_53 : decode cX4_toldOf 53 = .ok (.ireturn, 1) := by decide +kernel
theorem dX4_toldOf_54 : decode cX4_toldOf 54 = .ok (.aload_n 0, 1) := by decide +kernel
theorem dX4_toldOf_55 : decode cX4_toldOf 55 = .ok (.iload_n 1, 1) := by decide +kernel
theorem dX4_toldOf_56 : decode cX4_toldOf 56 = .ok (.invokevirtual 79, 3) := by decide +kernel
theorem dX4_toldOf_59 : decode cX4_toldOf 59 = .ok (.ireturn, 1) := by decide +kernel
theorem dX4_toldOf_60 : decode cX4_toldOf 60 = .ok (.aload_n 0, 1) := by decide +kernel
theorem dX4_toldOf_61 : decode cX4_toldOf 61 = .ok (.iload_n 1, 1) := by decide +kernel
theorem dX4_toldOf_62 : decode cX4_toldOf 62 = .ok (.invokevirtual 85, 3) := by decide +kernel
theorem dX4_toldOf_65 : decode cX4_toldOf 65 = .ok (.ifCond .eq 7, 3) := by decide +kernel
theorem dX4_toldOf_68 : decode cX4_toldOf 68 = .ok (.iconst 1, 1) := by decide +kernel
theorem dX4_toldOf_69 : decode cX4_toldOf 69 = .ok (.goto 4, 3) := by decide +kernel
theorem dX4_toldOf_72 : decode cX4_toldOf 72 = .ok (.iconst 0, 1) := by decide +kernel
theorem dX4_toldOf_73 : decode cX4_toldOf 73 = .ok (.ireturn, 1) := by decide +kernel
theorem dX4_toldOf_74 : decode cX4_toldOf 74 = .ok (.aload_n 0, 1) := by decide +kernel
theorem dX4_toldOf_75 : decode cX4_toldOf 75 = .ok (.invokevirtual 88, 3) := by decide +kernel
theorem dX4_toldOf_78 : decode cX4_toldOf 78 = .ok (.iload_n 1, 1) := by decide +kernel
theorem dX4_toldOf_79 : decode cX4_toldOf 79 = .ok (.iaload, 1) := by decide +kernel
theorem dX4_toldOf_80 : decode cX4_toldOf 80 = .ok (.ireturn, 1) := by decide +kernel
theorem dX4_toldOf_81 : decode cX4_toldOf 81 = .ok (.aload_n 0, 1) := by decide +kernel
theorem dX4_toldOf_82 : decode cX4_toldOf 82 = .ok (.getfield 13, 3) := by decide +kernel
theorem dX4_toldOf_85 : decode cX4_toldOf 85 = .ok (.iload_n 1, 1) := by decide +kernel
theorem dX4_toldOf_86 : decode cX4_toldOf 86 = .ok (.iaload, 1) := by decide +kernel
theorem dX4_toldOf_87 : decode cX4_toldOf 87 = .ok (.invokestatic 61, 3) := by decide +kernel
theorem dX4_toldOf_90 : decode cX4_toldOf 90 = .ok (.ireturn, 1) := by decide +kernel
theorem dX4_toldOf_91 : decode cX4_toldOf 91 = .ok (.aload_n 0, 1) := by decide +kernel
theorem dX4_toldOf_92 : decode cX4_toldOf 92 = .ok (.iload_n 1, 1) := by decide +kernel
theorem dX4_toldOf_93 : decode cX4_toldOf 93 = .ok (.invokevirtual 92, 3) := by decide +kernel
theorem dX4_toldOf_96 : decode cX4_toldOf 96 = .ok (.ireturn, 1) := by decide +kernel
theorem dX4_toldOf_97 : decode cX4_toldOf 97 = .ok (.aload_n 0, 1) := by decide +kernel
theorem dX4_toldOf_98 : decode cX4_toldOf 98 = .ok (.getfield 9, 3) := by decide +kernel
theorem dX4_toldOf_101 : decode cX4_toldOf 101 = .ok (.iload_n 1, 1) := by decide +kernel
theorem dX4_toldOf_102 : decode cX4_toldOf 102 = .ok (.iaload, 1) := by decide +kernel
theorem dX4_toldOf_103 : decode cX4_toldOf 103 = .ok (.invokestatic 61, 3) := by decide +kernel
theorem dX4_toldOf_106 : decode cX4_toldOf 106 = .ok (.ireturn, 1) := by decide +kernel
theorem dX4_toldOf_107 : decode cX4_toldOf 107 = .ok (.aload_n 0, 1) := by decide +kernel
theorem dX4_toldOf_108 : decode cX4_toldOf 108 = .ok (.iload_n 1, 1) := by decide +kernel
theorem dX4_toldOf_109 : decode cX4_toldOf 109 = .ok (.invokevirtual 95, 3) := by decide +kernel
theorem dX4_toldOf_112 : decode cX4_toldOf 112 = .ok (.ireturn, 1) := by decide +kernel
theorem dX4_toldOf_113 : decode cX4_toldOf 113 = .ok (.aload_n 0, 1) := by decide +kernel
theorem dX4_toldOf_114 : decode cX4_toldOf 114 = .ok (.iload_n 1, 1) := by decide +kernel
theorem dX4_toldOf_115 : decode cX4_toldOf 115 = .ok (.invokevirtual 64, 3) := by decide +kernel
theorem dX4_toldOf_118 : decode cX4_toldOf 118 = .ok (.ifCond .eq 7, 3) := by decide +kernel
theorem dX4_toldOf_121 : decode cX4_toldOf 121 = .ok (.iconst 1, 1) := by decide +kernel
theorem dX4_toldOf_122 : decode cX4_toldOf 122 = .ok (.goto 4, 3) := by decide +kernel
theorem dX4_toldOf_125 : decode cX4_toldOf 125 = .ok (.iconst 0, 1) := by decide +kernel
theorem dX4_toldOf_126 : decode cX4_toldOf 126 = .ok (.ireturn, 1) := by decide +kernel
set_option maxRecDepth 20000 in
theorem ggX4_told_X4_isLayer : GoodIn wsX4_told wsX4_isLayer := goodIn_r _ [6, 7, 8, 9, 5, 10, 70, 71, 72, 73, 74, 75, 76] (by decide +kernel) (by decide +kernel)
set_option maxRecDepth 20000 in
theorem gX4_told_X4_isLayer : GoodIn wsX4_told (wsV RX4 44 RX4 yX4_isLayer wsX4_isLayer) := goodIn_app (goodIn_of _ (by decide +kernel)) ggX4_told_X4_isLayer
set_option maxRecDepth 20000 in
theorem ggX4_told_X4_isIn : GoodIn wsX4_told wsX4_isIn := goodIn_r _ [10] (by decide +kernel) (by decide +kernel)
set_option maxRecDepth 20000 in
theorem gX4_told_X4_isIn : GoodIn wsX4_told (va_wsS RX4 32 yX4_isIn wsX4_isIn) := goodIn_app (goodIn_of _ (by decide +kernel)) ggX4_told_X4_isIn
set_option maxRecDepth 20000 in
theorem ggX4_told_X4_toldOf : GoodIn wsX4_told wsX4_toldOf := goodIn_r _ [14, 15, 16, 17, 18, 19, 5, 20, 7, 21, 22, 23, 24, 25, 26, 27, 28, 29, 30, 31, 32, 33, 34, 35, 36, 37, 38, 39, 40, 41, 42, 43, 44, 45, 46, 47, 48, 49, 50, 51, 52, 53, 54, 55, 56, 57, 58, 59, 60, 61, 62, 63, 64, 65, 70, 71, 72, 73, 74, 75, 76] (by decide +kernel) (by decide +kernel)
set_option maxRecDepth 20000 in
theorem gX4_told_X4_toldOf : GoodIn wsX4_told (wsV RX4 98 RX4 yX4_toldOf wsX4_toldOf) := goodIn_app (goodIn_of _ (by decide +kernel)) ggX4_told_X4_toldOf
set_option maxRecDepth 20000 in
theorem ggX4_told_X4_fail : GoodIn wsX4_told wsX4_fail := goodIn_r _ [69, 1, 70, 71, 72, 73, 74, 75, 76] (by decide +kernel) (by decide +kernel)
set_option maxRecDepth 20000 in
theorem gX4_told_X4_fail : GoodIn wsX4_told (wsV RX4 36 RX4 yX4_fail wsX4_fail) := goodIn_app (goodIn_of _ (by decide +kernel)) ggX4_told_X4_fail
theorem dX4_told_0 : decode cX4_told 0 = .ok (.aload_n 0, 1) := by decide +kernel
theorem dX4_told_1 : decode cX4_told 1 = .ok (.iconst 0, 1) := by decide +kernel
theorem dX4_told_2 : decode cX4_told 2 = .ok (.putfield 25, 3) := by decide +kernel
theorem dX4_told_5 : decode cX4_told 5 = .ok (.aload_n 0, 1) := by decide +kernel
theorem dX4_told_6 : decode cX4_told 6 = .ok (.iload_n 1, 1) := by decide +kernel
theorem dX4_told_7 : decode cX4_told 7 = .ok (.invokevirtual 44, 3) := by decide +kernel
theorem dX4_told_10 : decode cX4_told 10 = .ok (.ifCond .eq 22, 3) := by decide +kernel
theorem dX4_told_13 : decode cX4_told 13 = .ok (.iload_n 2, 1) := by decide +kernel
theorem dX4_told_14 : decode cX4_told 14 = .ok (.iconst 0, 1) := by decide +kernel
theorem dX4_told_15 : decode cX4_told 15 = .ok (.bipush 8, 2) := by decide +kernel
theorem dX4_told_17 : decode cX4_told 17 = .ok (.invokestatic 32, 3) := by decide +kernel
theorem dX4_told_20 : decode cX4_told 20 = .ok (.ifCond .eq 12, 3) := by decide +kernel
theorem dX4_told_23 : decode cX4_told 23 = .ok (.aload_n 0, 1) := by decide +kernel
theorem dX4_told_24 : decode cX4_told 24 = .ok (.iload_n 1, 1) := by decide +kernel
theorem dX4_told_25 : decode cX4_told 25 = .ok (.iload_n 2, 1) := by decide +kernel
theorem dX4_told_26 : decode cX4_told 26 = .ok (.invokevirtual 98, 3) := by decide +kernel
theorem dX4_told_29 : decode cX4_told 29 = .ok (.goto 8, 3) := by decide +kernel
theorem dX4_told_32 : decode cX4_told 32 = .ok (.aload_n 0, 1) := by decide +kernel
theorem dX4_told_33 : decode cX4_told 33 = .ok (.iconst 1, 1) := by decide +kernel
theorem dX4_told_34 : decode cX4_told 34 = .ok (.invokevirtual 36, 3) := by decide +kernel
theorem dX4_told_37 : decode cX4_told 37 = .ok (.ireturn, 1) := by decide +kernel
set_option maxRecDepth 20000 in
theorem ggX4_finds_X4_isLayer : GoodIn wsX4_finds wsX4_isLayer := goodIn_r _ [6, 7, 8, 9, 5, 10, 24, 25, 26, 27, 28, 29, 30] (by decide +kernel) (by decide +kernel)
set_option maxRecDepth 20000 in
theorem gX4_finds_X4_isLayer : GoodIn wsX4_finds (wsV RX4 44 RX4 yX4_isLayer wsX4_isLayer) := goodIn_app (goodIn_of _ (by decide +kernel)) ggX4_finds_X4_isLayer
set_option maxRecDepth 20000 in
theorem ggX4_finds_X4_isIn : GoodIn wsX4_finds wsX4_isIn := goodIn_r _ [10] (by decide +kernel) (by decide +kernel)
set_option maxRecDepth 20000 in
theorem gX4_finds_X4_isIn : GoodIn wsX4_finds (va_wsS RX4 32 yX4_isIn wsX4_isIn) := goodIn_app (goodIn_of _ (by decide +kernel)) ggX4_finds_X4_isIn
set_option maxRecDepth 20000 in
theorem ggX4_finds_X4_all : GoodIn wsX4_finds wsX4_all := goodIn_r _ [14, 7, 15, 16, 17, 18, 5, 19, 24, 25, 26, 27, 28, 29, 30] (by decide +kernel) (by decide +kernel)
set_option maxRecDepth 20000 in
theorem gX4_finds_X4_all : GoodIn wsX4_finds (wsV RX4 82 RX4 yX4_all wsX4_all) := goodIn_app (goodIn_of _ (by decide +kernel)) ggX4_finds_X4_all
set_option maxRecDepth 20000 in
theorem ggX4_finds_X4_fail : GoodIn wsX4_finds wsX4_fail := goodIn_r _ [23, 1, 24, 25, 26, 27, 28, 29, 30] (by decide +kernel) (by decide +kernel)
set_option maxRecDepth 20000 in
theorem gX4_finds_X4_fail : GoodIn wsX4_finds (wsV RX4 36 RX4 yX4_fail wsX4_fail) := goodIn_app (goodIn_of _ (by decide +kernel)) ggX4_finds_X4_fail
theorem dX4_finds_0 : decode cX4_finds 0 = .ok (.aload_n 0, 1) := by decide +kernel
theorem dX4_finds_1 : decode cX4_finds 1 = .ok (.iconst 0, 1) := by decide +kernel
theorem dX4_finds_2 : decode cX4_finds 2 = .ok (.putfield 25, 3) := by decide +kernel
theorem dX4_finds_5 : decode cX4_finds 5 = .ok (.aload_n 0, 1) := by decide +kernel
theorem dX4_finds_6 : decode cX4_finds 6 = .ok (.iload_n 1, 1) := by decide +kernel
theorem dX4_finds_7 : decode cX4_finds 7 = .ok (.invokevirtual 44, 3) := by decide +kernel
theorem dX4_finds_10 : decode cX4_finds 10 = .ok (.ifCond .eq 21, 3) := by decide +kernel
theorem dX4_finds_13 : decode cX4_finds 13 = .ok (.iload_n 2, 1) := by decide +kernel
theorem dX4_finds_14 : decode cX4_finds 14 = .ok (.iconst 0, 1) := by decide +kernel
theorem dX4_finds_15 : decode cX4_finds 15 = .ok (.iconst 3, 1) := by decide +kernel
theorem dX4_finds_16 : decode cX4_finds 16 = .ok (.invokestatic 32, 3) := by decide +kernel
theorem dX4_finds_19 : decode cX4_finds 19 = .ok (.ifCond .eq 12, 3) := by decide +kernel
theorem dX4_finds_22 : decode cX4_finds 22 = .ok (.aload_n 0, 1) := by decide +kernel
theorem dX4_finds_23 : decode cX4_finds 23 = .ok (.iload_n 1, 1) := by decide +kernel
theorem dX4_finds_24 : decode cX4_finds 24 = .ok (.iload_n 2, 1) := by decide +kernel
theorem dX4_finds_25 : decode cX4_finds 25 = .ok (.invokevirtual 82, 3) := by decide +kernel
theorem dX4_finds_28 : decode cX4_finds 28 = .ok (.goto 8, 3) := by decide +kernel
theorem dX4_finds_31 : decode cX4_finds 31 = .ok (.aload_n 0, 1) := by decide +kernel
theorem dX4_finds_32 : decode cX4_finds 32 = .ok (.iconst 1, 1) := by decide +kernel
theorem dX4_finds_33 : decode cX4_finds 33 = .ok (.invokevirtual 36, 3) := by decide +kernel
theorem dX4_finds_36 : decode cX4_finds 36 = .ok (.ireturn, 1) := by decide +kernel
set_option maxRecDepth 20000 in
theorem ggX4_orderAt_X4_has : GoodIn wsX4_orderAt wsX4_has := goodIn_r _ [6] (by decide +kernel) (by decide +kernel)
set_option maxRecDepth 20000 in
theorem gX4_orderAt_X4_has : GoodIn wsX4_orderAt (va_wsS RX4 40 yX4_has wsX4_has) := goodIn_app (goodIn_of _ (by decide +kernel)) ggX4_orderAt_X4_has
theorem dX4_orderAt_0 : decode cX4_orderAt 0 = .ok (.iconst 1, 1) := by decide +kernel
theorem dX4_orderAt_1 : decode cX4_orderAt 1 = .ok (.aload_n 0, 1) := by decide +kernel
theorem dX4_orderAt_2 : decode cX4_orderAt 2 = .ok (.getfield 29, 3) := by decide +kernel
theorem dX4_orderAt_5 : decode cX4_orderAt 5 = .ok (.ishl, 1) := by decide +kernel
theorem dX4_orderAt_6 : decode cX4_orderAt 6 = .ok (.iconst 1, 1) := by decide +kernel
theorem dX4_orderAt_7 : decode cX4_orderAt 7 = .ok (.isub, 1) := by decide +kernel
theorem dX4_orderAt_8 : decode cX4_orderAt 8 = .ok (.istore_n 2, 1) := by decide +kernel
theorem dX4_orderAt_9 : decode cX4_orderAt 9 = .ok (.iconst (-1), 1) := by decide +kernel
theorem dX4_orderAt_10 : decode cX4_orderAt 10 = .ok (.istore_n 3, 1) := by decide +kernel
theorem dX4_orderAt_11 : decode cX4_orderAt 11 = .ok (.iconst 0, 1) := by decide +kernel
theorem dX4_orderAt_12 : decode cX4_orderAt 12 = .ok (.istore 4, 2) := by decide +kernel
theorem dX4_orderAt_14 : decode cX4_orderAt 14 = .ok (.iload 4, 2) := by decide +kernel
theorem dX4_orderAt_16 : decode cX4_orderAt 16 = .ok (.iload_n 1, 1) := by decide +kernel
theorem dX4_orderAt_17 : decode cX4_orderAt 17 = .ok (.if_icmp .gt 44, 3) := by decide +kernel
theorem dX4_orderAt_20 : decode cX4_orderAt 20 = .ok (.iconst 0, 1) := by decide +kernel
theorem dX4_orderAt_21 : decode cX4_orderAt 21 = .ok (.istore_n 3, 1) := by decide +kernel
theorem dX4_orderAt_22 : decode cX4_orderAt 22 = .ok (.iload_n 2, 1) := by decide +kernel
theorem dX4_orderAt_23 : decode cX4_orderAt 23 = .ok (.iload_n 3, 1) := by decide +kernel
theorem dX4_orderAt_24 : decode cX4_orderAt 24 = .ok (.invokestatic 40, 3) := by decide +kernel
theorem dX4_orderAt_27 : decode cX4_orderAt 27 = .ok (.ifCond .eq 14, 3) := by decide +kernel
theorem dX4_orderAt_30 : decode cX4_orderAt 30 = .ok (.aload_n 0, 1) := by decide +kernel
theorem dX4_orderAt_31 : decode cX4_orderAt 31 = .ok (.getfield 13, 3) := by decide +kernel
theorem dX4_orderAt_34 : decode cX4_orderAt 34 = .ok (.iload_n 3, 1) := by decide +kernel
theorem dX4_orderAt_35 : decode cX4_orderAt 35 = .ok (.iaload, 1) := by decide +kernel
theorem dX4_orderAt_36 : decode cX4_orderAt 36 = .ok (.iload_n 2, 1) := by decide +kernel
theorem dX4_orderAt_37 : decode cX4_orderAt 37 = .ok (.iand, 1) := by decide +kernel
theorem dX4_orderAt_38 : decode cX4_orderAt 38 = .ok (.ifCond .eq 9, 3) := by decide +kernel
theorem dX4_orderAt_41 : decode cX4_orderAt 41 = .ok (.iinc 3 1, 3) := by decide +kernel
theorem dX4_orderAt_44 : decode cX4_orderAt 44 = .ok (.goto (-22), 3) := by decide +kernel
theorem dX4_orderAt_47 : decode cX4_orderAt 47 = .ok (.iload_n 2, 1) := by decide +kernel
theorem dX4_orderAt_48 : decode cX4_orderAt 48 = .ok (.iconst 1, 1) := by decide +kernel
theorem dX4_orderAt_49 : decode cX4_orderAt 49 = .ok (.iload_n 3, 1) := by decide +kernel
theorem dX4_orderAt_50 : decode cX4_orderAt 50 = .ok (.ishl, 1) := by decide +kernel
theorem dX4_orderAt_51 : decode cX4_orderAt 51 = .ok (.iconst (-1), 1) := by decide +kernel
theorem dX4_orderAt_52 : decode cX4_orderAt 52 = .ok (.ixor, 1) := by decide +kernel
theorem dX4_orderAt_53 : decode cX4_orderAt 53 = .ok (.iand, 1) := by decide +kernel
theorem dX4_orderAt_54 : decode cX4_orderAt 54 = .ok (.istore_n 2, 1) := by decide +kernel
theorem dX4_orderAt_55 : decode cX4_orderAt 55 = .ok (.iinc 4 1, 3) := by decide +kernel
theorem dX4_orderAt_58 : decode cX4_orderAt 58 = .ok (.goto (-44), 3) := by decide +kernel
theorem dX4_orderAt_61 : decode cX4_orderAt 61 = .ok (.iload_n 3, 1) := by decide +kernel
theorem dX4_orderAt_62 : decode cX4_orderAt 62 = .ok (.ireturn, 1) := by decide +kernel
set_option maxRecDepth 20000 in
theorem ggX4_order_X4_isLayer : GoodIn wsX4_order wsX4_isLayer := goodIn_r _ [6, 7, 8, 9, 5, 10, 23, 24, 25, 26, 27, 28, 29] (by decide +kernel) (by decide +kernel)
set_option maxRecDepth 20000 in
theorem gX4_order_X4_isLayer : GoodIn wsX4_order (wsV RX4 44 RX4 yX4_isLayer wsX4_isLayer) := goodIn_app (goodIn_of _ (by decide +kernel)) ggX4_order_X4_isLayer
set_option maxRecDepth 20000 in
theorem ggX4_order_X4_orderAt : GoodIn wsX4_order wsX4_orderAt := goodIn_r _ [14, 7, 15, 16, 17, 5, 18, 23, 24, 25, 26, 27, 28, 29] (by decide +kernel) (by decide +kernel)
set_option maxRecDepth 20000 in
theorem gX4_order_X4_orderAt : GoodIn wsX4_order (wsV RX4 101 RX4 yX4_orderAt wsX4_orderAt) := goodIn_app (goodIn_of _ (by decide +kernel)) ggX4_order_X4_orderAt
set_option maxRecDepth 20000 in
theorem ggX4_order_X4_fail : GoodIn wsX4_order wsX4_fail := goodIn_r _ [22, 1, 23, 24, 25, 26, 27, 28, 29] (by decide +kernel) (by decide +kernel)
set_option maxRecDepth 20000 in
theorem gX4_order_X4_fail : GoodIn wsX4_order (wsV RX4 36 RX4 yX4_fail wsX4_fail) := goodIn_app (goodIn_of _ (by decide +kernel)) ggX4_order_X4_fail
theorem dX4_order_0 : decode cX4_order 0 = .ok (.aload_n 0, 1) := by decide +kernel
theorem dX4_order_1 : decode cX4_order 1 = .ok (.iconst 0, 1) := by decide +kernel
theorem dX4_order_2 : decode cX4_order 2 = .ok (.putfield 25, 3) := by decide +kernel
theorem dX4_order_5 : decode cX4_order 5 = .ok (.aload_n 0, 1) := by decide +kernel
theorem dX4_order_6 : decode cX4_order 6 = .ok (.iload_n 1, 1) := by decide +kernel
theorem dX4_order_7 : decode cX4_order 7 = .ok (.invokevirtual 44, 3) := by decide +kernel
theorem dX4_order_10 : decode cX4_order 10 = .ok (.ifCond .eq 11, 3) := by decide +kernel
theorem dX4_order_13 : decode cX4_order 13 = .ok (.aload_n 0, 1) := by decide +kernel
theorem dX4_order_14 : decode cX4_order 14 = .ok (.iload_n 1, 1) := by decide +kernel
theorem dX4_order_15 : decode cX4_order 15 = .ok (.invokevirtual 101, 3) := by decide +kernel
theorem dX4_order_18 : decode cX4_order 18 = .ok (.goto 8, 3) := by decide +kernel
theorem dX4_order_21 : decode cX4_order 21 = .ok (.aload_n 0, 1) := by decide +kernel
theorem dX4_order_22 : decode cX4_order 22 = .ok (.iconst 1, 1) := by decide +kernel
theorem dX4_order_23 : decode cX4_order 23 = .ok (.invokevirtual 36, 3) := by decide +kernel
theorem dX4_order_26 : decode cX4_order 26 = .ok (.ireturn, 1) := by decide +kernel
set_option maxRecDepth 20000 in
theorem ggX4_within_X4_has : GoodIn wsX4_within wsX4_has := goodIn_r _ [6] (by decide +kernel) (by decide +kernel)
set_option maxRecDepth 20000 in
theorem gX4_within_X4_has : GoodIn wsX4_within (va_wsS RX4 40 yX4_has wsX4_has) := goodIn_app (goodIn_of _ (by decide +kernel)) ggX4_within_X4_has
theorem dX4_within_0 : decode cX4_within 0 = .ok (.iconst 0, 1) := by decide +kernel
theorem dX4_within_1 : decode cX4_within 1 = .ok (.istore_n 3, 1) := by decide +kernel
theorem dX4_within_2 : decode cX4_within 2 = .ok (.iconst 0, 1) := by decide +kernel
theorem dX4_within_3 : decode cX4_within 3 = .ok (.istore 4, 2) := by decide +kernel
theorem dX4_within_5 : decode cX4_within 5 = .ok (.iload 4, 2) := by decide +kernel
theorem dX4_within_7 : decode cX4_within 7 = .ok (.aload_n 0, 1) := by decide +kernel
theorem dX4_within_8 : decode cX4_within 8 = .ok (.getfield 29, 3) := by decide +kernel
theorem dX4_within_11 : decode cX4_within 11 = .ok (.if_icmp .ge 45, 3) := by decide +kernel
theorem dX4_within_14 : decode cX4_within 14 = .ok (.iload_n 3, 1) := by decide +kernel
theorem dX4_within_15 : decode cX4_within 15 = .ok (.aload_n 0, 1) := by decide +kernel
theorem dX4_within_16 : decode cX4_within 16 = .ok (.getfield 13, 3) := by decide +kernel
theorem dX4_within_19 : decode cX4_within 19 = .ok (.iload_n 1, 1) := by decide +kernel
theorem dX4_within_20 : decode cX4_within 20 = .ok (.iaload, 1) := by decide +kernel
theorem dX4_within_21 : decode cX4_within 21 = .ok (.iload 4, 2) := by decide +kernel
theorem dX4_within_23 : decode cX4_within 23 = .ok (.invokestatic 40, 3) := by decide +kernel
theorem dX4_within_26 : decode cX4_within 26 = .ok (.ifCond .eq 21, 3) := by decide +kernel
theorem dX4_within_29 : decode cX4_within 29 = .ok (.aload_n 0, 1) := by decide +kernel
theorem dX4_within_30 : decode cX4_within 30 = .ok (.getfield 13, 3) := by decide +kernel
theorem dX4_within_33 : decode cX4_within 33 = .ok (.iload 4, 2) := by decide +kernel
theorem dX4_within_35 : decode cX4_within 35 = .ok (.iaload, 1) := by decide +kernel
theorem dX4_within_36 : decode cX4_within 36 = .ok (.iload_n 2, 1) := by decide +kernel
theorem dX4_within_37 : decode cX4_within 37 = .ok (.invokestatic 40, 3) := by decide +kernel
theorem dX4_within_40 : decode cX4_within 40 = .ok (.ifCond .eq 7, 3) := by decide +kernel
theorem dX4_within_43 : decode cX4_within 43 = .ok (.iconst 1, 1) := by decide +kernel
theorem dX4_within_44 : decode cX4_within 44 = .ok (.goto 4, 3) := by decide +kernel
theorem dX4_within_47 : decode cX4_within 47 = .ok (.iconst 0, 1) := by decide +kernel
theorem dX4_within_48 : decode cX4_within 48 = .ok (.iadd, 1) := by decide +kernel
theorem dX4_within_49 : decode cX4_within 49 = .ok (.istore_n 3, 1) := by decide +kernel
theorem dX4_within_50 : decode cX4_within 50 = .ok (.iinc 4 1, 3) := by decide +kernel
theorem dX4_within_53 : decode cX4_within 53 = .ok (.goto (-48), 3) := by decide +kernel
theorem dX4_within_56 : decode cX4_within 56 = .ok (.iload_n 3, 1) := by decide +kernel
theorem dX4_within_57 : decode cX4_within 57 = .ok (.ireturn, 1) := by decide +kernel
set_option maxRecDepth 20000 in
theorem ggX4_between_X4_isLayer : GoodIn wsX4_between wsX4_isLayer := goodIn_r _ [7, 8, 9, 10, 6, 11, 23, 24, 25, 26, 27, 28, 29] (by decide +kernel) (by decide +kernel)
set_option maxRecDepth 20000 in
theorem gX4_between_X4_isLayer : GoodIn wsX4_between (wsV RX4 44 RX4 yX4_isLayer wsX4_isLayer) := goodIn_app (goodIn_of _ (by decide +kernel)) ggX4_between_X4_isLayer
set_option maxRecDepth 20000 in
theorem ggX4_between_X4_fail : GoodIn wsX4_between wsX4_fail := goodIn_r _ [15, 1, 23, 24, 25, 26, 27, 28, 29] (by decide +kernel) (by decide +kernel)
set_option maxRecDepth 20000 in
theorem gX4_between_X4_fail : GoodIn wsX4_between (wsV RX4 36 RX4 yX4_fail wsX4_fail) := goodIn_app (goodIn_of _ (by decide +kernel)) ggX4_between_X4_fail
set_option maxRecDepth 20000 in
theorem ggX4_between_X4_has : GoodIn wsX4_between wsX4_has := goodIn_r _ [18] (by decide +kernel) (by decide +kernel)
set_option maxRecDepth 20000 in
theorem gX4_between_X4_has : GoodIn wsX4_between (va_wsS RX4 40 yX4_has wsX4_has) := goodIn_app (goodIn_of _ (by decide +kernel)) ggX4_between_X4_has
set_option maxRecDepth 20000 in
theorem ggX4_between_X4_within : GoodIn wsX4_between wsX4_within := goodIn_r _ [22, 8, 2, 16, 17, 6, 18, 23, 24, 25, 26, 27, 28, 29] (by decide +kernel) (by decide +kernel)
set_option maxRecDepth 20000 in
theorem gX4_between_X4_within : GoodIn wsX4_between (wsV RX4 104 RX4 yX4_within wsX4_within) := goodIn_app (goodIn_of _ (by decide +kernel)) ggX4_between_X4_within
theorem dX4_between_0 : decode cX4_between 0 = .ok (.aload_n 0, 1) := by decide +kernel
theorem dX4_between_1 : decode cX4_between 1 = .ok (.iconst 0, 1) := by decide +kernel
theorem dX4_between_2 : decode cX4_between 2 = .ok (.putfield 25, 3) := by decide +kernel
theorem dX4_between_5 : decode cX4_between 5 = .ok (.aload_n 0, 1) := by decide +kernel
theorem dX4_between_6 : decode cX4_between 6 = .ok (.iload_n 1, 1) := by decide +kernel
theorem dX4_between_7 : decode cX4_between 7 = .ok (.invokevirtual 44, 3) := by decide +kernel
theorem dX4_between_10 : decode cX4_between 10 = .ok (.ifCond .eq 11, 3) := by decide +kernel
theorem dX4_between_13 : decode cX4_between 13 = .ok (.aload_n 0, 1) := by decide +kernel
theorem dX4_between_14 : decode cX4_between 14 = .ok (.iload_n 2, 1) := by decide +kernel
theorem dX4_between_15 : decode cX4_between 15 = .ok (.invokevirtual 44, 3) := by decide +kernel
theorem dX4_between_18 : decode cX4_between 18 = .ok (.ifCond .ne 9, 3) := by decide +kernel
theorem dX4_between_21 : decode cX4_between 21 = .ok (.aload_n 0, 1) := by decide +kernel
theorem dX4_between_22 : decode cX4_between 22 = .ok (.iconst 1, 1) := by decide +kernel
theorem dX4_between_23 : decode cX4_between 23 = .ok (.invokevirtual 36, 3) := by decide +kernel
theorem dX4_between_26 : decode cX4_between 26 = .ok (.ireturn, 1) := by decide +kernel
theorem dX4_between_27 : decode cX4_between 27 = .ok (.aload_n 0, 1) := by decide +kernel
theorem dX4_between_28 : decode cX4_between 28 = .ok (.getfield 13, 3) := by decide +kernel
theorem dX4_between_31 : decode cX4_between 31 = .ok (.iload_n 1, 1) := by decide +kernel
theorem dX4_between_32 : decode cX4_between 32 = .ok (.iaload, 1) := by decide +kernel
theorem dX4_between_33 : decode cX4_between 33 = .ok (.iload_n 2, 1) := by decide +kernel
theorem dX4_between_34 : decode cX4_between 34 = .ok (.invokestatic 40, 3) := by decide +kernel
theorem dX4_between_37 : decode cX4_between 37 = .ok (.ifCond .eq 12, 3) := by decide +kernel
theorem dX4_between_40 : decode cX4_between 40 = .ok (.aload_n 0, 1) := by decide +kernel
theorem dX4_between_41 : decode cX4_between 41 = .ok (.iload_n 1, 1) := by decide +kernel
theorem dX4_between_42 : decode cX4_between 42 = .ok (.iload_n 2, 1) := by decide +kernel
theorem dX4_between_43 : decode cX4_between 43 = .ok (.invokevirtual 104, 3) := by decide +kernel
theorem dX4_between_46 : decode cX4_between 46 = .ok (.goto 26, 3) := by decide +kernel
theorem dX4_between_49 : decode cX4_between 49 = .ok (.aload_n 0, 1) := by decide +kernel
theorem dX4_between_50 : decode cX4_between 50 = .ok (.getfield 13, 3) := by decide +kernel
theorem dX4_between_53 : decode cX4_between 53 = .ok (.iload_n 2, 1) := by decide +kernel
theorem dX4_between_54 : decode cX4_between 54 = .ok (.iaload, 1) := by decide +kernel
theorem dX4_between_55 : decode cX4_between 55 = .ok (.iload_n 1, 1) := by decide +kernel
theorem dX4_between_56 : decode cX4_between 56 = .ok (.invokestatic 40, 3) := by decide +kernel
theorem dX4_between_59 : decode cX4_between 59 = .ok (.ifCond .eq 12, 3) := by decide +kernel
theorem dX4_between_62 : decode cX4_between 62 = .ok (.aload_n 0, 1) := by decide +kernel
theorem dX4_between_63 : decode cX4_between 63 = .ok (.iload_n 2, 1) := by decide +kernel
theorem dX4_between_64 : decode cX4_between 64 = .ok (.iload_n 1, 1) := by decide +kernel
theorem dX4_between_65 : decode cX4_between 65 = .ok (.invokevirtual 104, 3) := by decide +kernel
theorem dX4_between_68 : decode cX4_between 68 = .ok (.goto 4, 3) := by decide +kernel
theorem dX4_between_71 : decode cX4_between 71 = .ok (.iconst (-1), 1) := by decide +kernel
theorem dX4_between_72 : decode cX4_between 72 = .ok (.ireturn, 1) := by decide +kernel
set_option maxRecDepth 20000 in
theorem ggX4_doubtful_X4_isDoubtful : GoodIn wsX4_doubtful wsX4_isDoubtful := goodIn_r _ [6, 7, 8, 9, 5, 10, 1, 11, 12, 13, 14, 15, 16, 17, 18, 19, 20, 21, 22, 23, 24, 25, 26, 27, 28, 29, 30, 31, 32, 33, 34, 35, 36, 37, 38, 39] (by decide +kernel) (by decide +kernel)
set_option maxRecDepth 20000 in
theorem gX4_doubtful_X4_isDoubtful : GoodIn wsX4_doubtful (wsV RX4 85 RX4 yX4_isDoubtful wsX4_isDoubtful) := goodIn_app (goodIn_of _ (by decide +kernel)) ggX4_doubtful_X4_isDoubtful
theorem dX4_doubtful_0 : decode cX4_doubtful 0 = .ok (.iconst 0, 1) := by decide +kernel
theorem dX4_doubtful_1 : decode cX4_doubtful 1 = .ok (.istore_n 1, 1) := by decide +kernel
theorem dX4_doubtful_2 : decode cX4_doubtful 2 = .ok (.iconst 0, 1) := by decide +kernel
theorem dX4_doubtful_3 : decode cX4_doubtful 3 = .ok (.istore_n 2, 1) := by decide +kernel
theorem dX4_doubtful_4 : decode cX4_doubtful 4 = .ok (.iload_n 2, 1) := by decide +kernel
theorem dX4_doubtful_5 : decode cX4_doubtful 5 = .ok (.aload_n 0, 1) := by decide +kernel
theorem dX4_doubtful_6 : decode cX4_doubtful 6 = .ok (.getfield 29, 3) := by decide +kernel
theorem dX4_doubtful_9 : decode cX4_doubtful 9 = .ok (.if_icmp .ge 25, 3) := by decide +kernel
theorem dX4_doubtful_12 : decode cX4_doubtful 12 = .ok (.iload_n 1, 1) := by decide +kernel
theorem dX4_doubtful_13 : decode cX4_doubtful 13 = .ok (.aload_n 0, 1) := by decide +kernel
theorem dX4_doubtful_14 : decode cX4_doubtful 14 = .ok (.iload_n 2, 1) := by decide +kernel
theorem dX4_doubtful_15 : decode cX4_doubtful 15 = .ok (.invokevirtual 85, 3) := by decide +kernel
theorem dX4_doubtful_18 : decode cX4_doubtful 18 = .ok (.ifCond .eq 7, 3) := by decide +kernel
theorem dX4_doubtful_21 : decode cX4_doubtful 21 = .ok (.iconst 1, 1) := by decide +kernel
theorem dX4_doubtful_22 : decode cX4_doubtful 22 = .ok (.goto 4, 3) := by decide +kernel
theorem dX4_doubtful_25 : decode cX4_doubtful 25 = .ok (.iconst 0, 1) := by decide +kernel
theorem dX4_doubtful_26 : decode cX4_doubtful 26 = .ok (.iadd, 1) := by decide +kernel
theorem dX4_doubtful_27 : decode cX4_doubtful 27 = .ok (.istore_n 1, 1) := by decide +kernel
theorem dX4_doubtful_28 : decode cX4_doubtful 28 = .ok (.iinc 2 1, 3) := by decide +kernel
theorem dX4_doubtful_31 : decode cX4_doubtful 31 = .ok (.goto (-27), 3) := by decide +kernel
theorem dX4_doubtful_34 : decode cX4_doubtful 34 = .ok (.iload_n 1, 1) := by decide +kernel
theorem dX4_doubtful_35 : decode cX4_doubtful 35 = .ok (.ireturn, 1) := by decide +kernel
set_option maxRecDepth 20000 in
theorem ggX4_pairs_X4_size : GoodIn wsX4_pairs wsX4_size := goodIn_r _ [6] (by decide +kernel) (by decide +kernel)
set_option maxRecDepth 20000 in
theorem gX4_pairs_X4_size : GoodIn wsX4_pairs (va_wsS RX4 61 yX4_size wsX4_size) := goodIn_app (goodIn_of _ (by decide +kernel)) ggX4_pairs_X4_size
theorem dX4_pairs_0 : decode cX4_pairs 0 = .ok (.iconst 0, 1) := by decide +kernel
theorem dX4_pairs_1 : decode cX4_pairs 1 = .ok (.istore_n 1, 1) := by decide +kernel
theorem dX4_pairs_2 : decode cX4_pairs 2 = .ok (.iconst 0, 1) := by decide +kernel
theorem dX4_pairs_3 : decode cX4_pairs 3 = .ok (.istore_n 2, 1) := by decide +kernel
theorem dX4_pairs_4 : decode cX4_pairs 4 = .ok (.iload_n 2, 1) := by decide +kernel
theorem dX4_pairs_5 : decode cX4_pairs 5 = .ok (.aload_n 0, 1) := by decide +kernel
theorem dX4_pairs_6 : decode cX4_pairs 6 = .ok (.getfield 29, 3) := by decide +kernel
theorem dX4_pairs_9 : decode cX4_pairs 9 = .ok (.if_icmp .ge 21, 3) := by decide +kernel
theorem dX4_pairs_12 : decode cX4_pairs 12 = .ok (.iload_n 1, 1) := by decide +kernel
theorem dX4_pairs_13 : decode cX4_pairs 13 = .ok (.aload_n 0, 1) := by decide +kernel
theorem dX4_pairs_14 : decode cX4_pairs 14 = .ok (.getfield 13, 3) := by decide +kernel
theorem dX4_pairs_17 : decode cX4_pairs 17 = .ok (.iload_n 2, 1) := by decide +kernel
theorem dX4_pairs_18 : decode cX4_pairs 18 = .ok (.iaload, 1) := by decide +kernel
theorem dX4_pairs_19 : decode cX4_pairs 19 = .ok (.invokestatic 61, 3) := by decide +kernel
theorem dX4_pairs_22 : decode cX4_pairs 22 = .ok (.iadd, 1) := by decide +kernel
theorem dX4_pairs_23 : decode cX4_pairs 23 = .ok (.istore_n 1, 1) := by decide +kernel
theorem dX4_pairs_24 : decode cX4_pairs 24 = .ok (.iinc 2 1, 3) := by decide +kernel
theorem dX4_pairs_27 : decode cX4_pairs 27 = .ok (.goto (-23), 3) := by decide +kernel
theorem dX4_pairs_30 : decode cX4_pairs 30 = .ok (.iload_n 1, 1) := by decide +kernel
theorem dX4_pairs_31 : decode cX4_pairs 31 = .ok (.ireturn, 1) := by decide +kernel
set_option maxRecDepth 20000 in
theorem ggX4_counted_X4_phases : GoodIn wsX4_counted wsX4_phases := goodIn_r _ [12, 13, 1, 14, 2, 3, 4, 5, 15, 16, 11, 17, 50, 51, 52, 53, 54, 55, 56] (by decide +kernel) (by decide +kernel)
set_option maxRecDepth 20000 in
theorem gX4_counted_X4_phases : GoodIn wsX4_counted (wsV RX4 88 RX4 yX4_phases wsX4_phases) := goodIn_app (goodIn_of _ (by decide +kernel)) ggX4_counted_X4_phases
set_option maxRecDepth 20000 in
theorem ggX4_counted_X4_doubtful : GoodIn wsX4_counted wsX4_doubtful := goodIn_r _ [21, 1, 22, 23, 24, 11, 25, 26, 27, 28, 29, 6, 14, 30, 2, 3, 4, 5, 31, 32, 33, 34, 15, 16, 17, 35, 36, 37, 38, 39, 40, 41, 42, 50, 51, 52, 53, 54, 55, 56] (by decide +kernel) (by decide +kernel)
set_option maxRecDepth 20000 in
theorem gX4_counted_X4_doubtful : GoodIn wsX4_counted (wsV RX4 107 RX4 yX4_doubtful wsX4_doubtful) := goodIn_app (goodIn_of _ (by decide +kernel)) ggX4_counted_X4_doubtful
set_option maxRecDepth 20000 in
theorem ggX4_counted_X4_isDated : GoodIn wsX4_counted wsX4_isDated := goodIn_r _ [34, 30, 50, 51, 52, 53, 54, 55, 56] (by decide +kernel) (by decide +kernel)
set_option maxRecDepth 20000 in
theorem gX4_counted_X4_isDated : GoodIn wsX4_counted (wsV RX4 64 RX4 yX4_isDated wsX4_isDated) := goodIn_app (goodIn_of _ (by decide +kernel)) ggX4_counted_X4_isDated
set_option maxRecDepth 20000 in
theorem ggX4_counted_X4_pairs : GoodIn wsX4_counted wsX4_pairs := goodIn_r _ [46, 1, 14, 47, 48, 11, 49, 50, 51, 52, 53, 54, 55, 56] (by decide +kernel) (by decide +kernel)
set_option maxRecDepth 20000 in
theorem gX4_counted_X4_pairs : GoodIn wsX4_counted (wsV RX4 111 RX4 yX4_pairs wsX4_pairs) := goodIn_app (goodIn_of _ (by decide +kernel)) ggX4_counted_X4_pairs
theorem dX4_counted_0 : decode cX4_counted 0 = .ok (.iconst 0, 1) := by decide +kernel
theorem dX4_counted_1 : decode cX4_counted 1 = .ok (.istore_n 2, 1) := by decide +kernel
theorem dX4_counted_2 : decode cX4_counted 2 = .ok (.iload_n 1, 1) := by decide +kernel
theorem dX4_counted_3 : decode cX4_counted 3 = .ok (.tableswitch 180 0 5 #[37, 42, 95, 100, 134, 139], 37) := by decide +kernel
theorem dX4_counted_40 : decode cX4_counted 40 = .ok (.aload_n 0, 1) := by decide +kernel
theorem dX4_counted_41 : decode cX4_counted 41 = .ok (.getfield 29, 3) := by decide +kernel
theorem dX4_counted_44 : decode cX4_counted 44 = .ok (.ireturn, 1) := by decide +kernel
theorem dX4_counted_45 : decode cX4_counted 45 = .ok (.aload_n 0, 1) := by decide +kernel
theorem dX4_counted_46 : decode cX4_counted 46 = .ok (.invokevirtual 88, 3) := by decide +kernel
theorem dX4_counted_49 : decode cX4_counted 49 = .ok (.astore_n 3, 1) := by decide +kernel
theorem dX4_counted_50 : decode cX4_counted 50 = .ok (.aload_n 3, 1) := by decide +kernel
theorem dX4_counted_51 : decode cX4_counted 51 = .ok (.arraylength, 1) := by decide +kernel
theorem dX4_counted_52 : decode cX4_counted 52 = .ok (.istore 4, 2) := by decide +kernel
theorem dX4_counted_54 : decode cX4_counted 54 = .ok (.iconst 0, 1) := by decide +kernel
theorem dX4_counted_55 : decode cX4_counted 55 = .ok (.istore 5, 2) := by decide +kernel
theorem dX4_counted_57 : decode cX4_counted 57 = .ok (.iload 5, 2) := by decide +kernel
theorem dX4_counted_59 : decode cX4_counted 59 = .ok (.iload 4, 2) := by decide +kernel
theorem dX4_counted_61 : decode cX4_counted 61 = .ok (.if_icmp .ge 24, 3) := by decide +kernel
theorem dX4_counted_64 : decode cX4_counted 64 = .ok (.aload_n 3, 1) := by decide +kernel
theorem dX4_counted_65 : decode cX4_counted 65 = .ok (.iload 5, 2) := by decide +kernel
theorem dX4_counted_67 : decode cX4_counted 67 = .ok (.iaload, 1) := by decide +kernel
theorem dX4_counted_68 : decode cX4_counted 68 = .ok (.istore 6, 2) := by decide +kernel
theorem dX4_counted_70 : decode cX4_counted 70 = .ok (.iload_n 2, 1) := by decide +kernel
theorem dX4_counted_71 : decode cX4_counted 71 = .ok (.iload 6, 2) := by decide +kernel
theorem dX4_counted_73 : decode cX4_counted 73 = .ok (.iconst 1, 1) := by decide +kernel
theorem dX4_counted_74 : decode cX4_counted 74 = .ok (.iadd, 1) := by decide +kernel
theorem dX4_counted_75 : decode cX4_counted 75 = .ok (.invokestatic 67, 3) := by decide +kernel
theorem dX4_counted_78 : decode cX4_counted 78 = .ok (.istore_n 2, 1) := by decide +kernel
theorem dX4_counted_79 : decode cX4_counted 79 = .ok (.iinc 5 1, 3) := by decide +kernel
theorem dX4_counted_82 : decode cX4_counted 82 = .ok (.goto (-25), 3) := by decide +kernel
theorem dX4_counted_85 : decode cX4_counted 85 = .ok (.aload_n 0, 1) := by decide +kernel
theorem dX4_counted_86 : decode cX4_counted 86 = .ok (.getfield 29, 3) := by decide +kernel
theorem dX4_counted_89 : decode cX4_counted 89 = .ok (.ifCond .ne 7, 3) := by decide +kernel
theorem dX4_counted_92 : decode cX4_counted 92 = .ok (.iconst 0, 1) := by decide +kernel
theorem dX4_counted_93 : decode cX4_counted 93 = .ok (.goto 4, 3) := by decide +kernel
theorem dX4_counted_96 : decode cX4_counted 96 = .ok (.iload_n 2, 1) := by decide +kernel
theorem dX4_counted_97 : decode cX4_counted 97 = .ok (.ireturn, 1) := by decide +kernel
theorem dX4_counted_98 : decode cX4_counted 98 = .ok (.aload_n 0, 1) := by decide +kernel
theorem dX4_counted_99 : decode cX4_counted 99 = .ok (.invokevirtual 107, 3) := by decide +kernel
theorem dX4_counted_102 : decode cX4_counted 102 = .ok (.ireturn, 1) := by decide +kernel
theorem dX4_counted_103 : decode cX4_counted 103 = .ok (.iconst 0, 1) := by decide +kernel
theorem dX4_counted_104 : decode cX4_counted 104 = .ok (.istore_n 3, 1) := by decide +kernel
theorem dX4_counted_105 : decode cX4_counted 105 = .ok (.iload_n 3, 1) := by decide +kernel
theorem dX4_counted_106 : decode cX4_counted 106 = .ok (.aload_n 0, 1) := by decide +kernel
theorem dX4_counted_107 : decode cX4_counted 107 = .ok (.getfield 29, 3) := by decide +kernel
theorem dX4_counted_110 : decode cX4_counted 110 = .ok (.if_icmp .ge 25, 3) := by decide +kernel
theorem dX4_counted_113 : decode cX4_counted 113 = .ok (.iload_n 2, 1) := by decide +kernel
theorem dX4_counted_114 : decode cX4_counted 114 = .ok (.aload_n 0, 1) := by decide +kernel
theorem dX4_counted_115 : decode cX4_counted 115 = .ok (.iload_n 3, 1) := by decide +kernel
theorem dX4_counted_116 : decode cX4_counted 116 = .ok (.invokevirtual 64, 3) := by decide +kernel
theorem dX4_counted_119 : decode cX4_counted 119 = .ok (.ifCond .eq 7, 3) := by decide +kernel
theorem dX4_counted_122 : decode cX4_counted 122 = .ok (.iconst 1, 1) := by decide +kernel
theorem dX4_counted_123 : decode cX4_counted 123 = .ok (.goto 4, 3) := by decide +kernel
theorem dX4_counted_126 : decode cX4_counted 126 = .ok (.iconst 0, 1) := by decide +kernel
theorem dX4_counted_127 : decode cX4_counted 127 = .ok (.iadd, 1) := by decide +kernel
theorem dX4_counted_128 : decode cX4_counted 128 = .ok (.istore_n 2, 1) := by decide +kernel
theorem dX4_counted_129 : decode cX4_counted 129 = .ok (.iinc 3 1, 3) := by decide +kernel
theorem dX4_counted_132 : decode cX4_counted 132 = .ok (.goto (-27), 3) := by decide +kernel
theorem dX4_counted_135 : decode cX4_counted 135 = .ok (.iload_n 2, 1) := by decide +kernel
theorem dX4_counted_136 : decode cX4_counted 136 = .ok (.ireturn, 1) := by decide +kernel
theorem dX4_counted_137 : decode cX4_counted 137 = .ok (.aload_n 0, 1) := by decide +kernel
theorem dX4_counted_138 : decode cX4_counted 138 = .ok (.invokevirtual 111, 3) := by decide +kernel
theorem dX4_counted_141 : decode cX4_counted 141 = .ok (.ireturn, 1) := by decide +kernel
theorem dX4_counted_142 : decode cX4_counted 142 = .ok (.iconst 0, 1) := by decide +kernel
theorem dX4_counted_143 : decode cX4_counted 143 = .ok (.istore_n 3, 1) := by decide +kernel
theorem dX4_counted_144 : decode cX4_counted 144 = .ok (.iload_n 3, 1) := by decide +kernel
theorem dX4_counted_145 : decode cX4_counted 145 = .ok (.aload_n 0, 1) := by decide +kernel
theorem dX4_counted_146 : decode cX4_counted 146 = .ok (.getfield 29, 3) := by decide +kernel
theorem dX4_counted_149 : decode cX4_counted 149 = .ok (.if_icmp .ge 32, 3) := by decide +kernel
theorem dX4_counted_152 : decode cX4_counted 152 = .ok (.iload_n 2, 1) := by decide +kernel
theorem dX4_counted_153 : decode cX4_counted 153 = .ok (.aload_n 0, 1) := by decide +kernel
theorem dX4_counted_154 : decode cX4_counted 154 = .ok (.getfield 9, 3) := by decide +kernel
theorem dX4_counted_157 : decode cX4_counted 157 = .ok (.iload_n 3, 1) := by decide +kernel
theorem dX4_counted_158 : decode cX4_counted 158 = .ok (.iaload, 1) := by decide +kernel
theorem dX4_counted_159 : decode cX4_counted 159 = .ok (.iconst 1, 1) := by decide +kernel
theorem dX4_counted_160 : decode cX4_counted 160 = .ok (.iload_n 3, 1) := by decide +kernel
theorem dX4_counted_161 : decode cX4_counted 161 = .ok (.ishl, 1) := by decide +kernel
theorem dX4_counted_162 : decode cX4_counted 162 = .ok (.iconst 1, 1) := by decide +kernel
theorem dX4_counted_163 : decode cX4_counted 163 = .ok (.isub, 1) := by decide +kernel
theorem dX4_counted_164 : decode cX4_counted 164 = .ok (.iand, 1) := by decide +kernel
theorem dX4_counted_165 : decode cX4_counted 165 = .ok (.ifCond .ne 7, 3) := by decide +kernel
theorem dX4_counted_168 : decode cX4_counted 168 = .ok (.iconst 1, 1) := by decide +kernel
theorem dX4_counted_169 : decode cX4_counted 169 = .ok (.goto 4, 3) := by decide +kernel
theorem dX4_counted_172 : decode cX4_counted 172 = .ok (.iconst 0, 1) := by decide +kernel
theorem dX4_counted_173 : decode cX4_counted 173 = .ok (.iadd, 1) := by decide +kernel
theorem dX4_counted_174 : decode cX4_counted 174 = .ok (.istore_n 2, 1) := by decide +kernel
theorem dX4_counted_175 : decode cX4_counted 175 = .ok (.iinc 3 1, 3) := by decide +kernel
theorem dX4_counted_178 : decode cX4_counted 178 = .ok (.goto (-34), 3) := by decide +kernel
theorem dX4_counted_181 : decode cX4_counted 181 = .ok (.iload_n 2, 1) := by decide +kernel
theorem dX4_counted_182 : decode cX4_counted 182 = .ok (.ireturn, 1) := by decide +kernel
theorem dX4_counted_183 : decode cX4_counted 183 = .ok (.iconst 0, 1) := by decide +kernel
theorem dX4_counted_184 : decode cX4_counted 184 = .ok (.istore_n 3, 1) := by decide +kernel
theorem dX4_counted_185 : decode cX4_counted 185 = .ok (.iload_n 3, 1) := by decide +kernel
theorem dX4_counted_186 : decode cX4_counted 186 = .ok (.iconst 4, 1) := by decide +kernel
theorem dX4_counted_187 : decode cX4_counted 187 = .ok (.aload_n 0, 1) := by decide +kernel
theorem dX4_counted_188 : decode cX4_counted 188 = .ok (.getfield 29, 3) := by decide +kernel
theorem dX4_counted_191 : decode cX4_counted 191 = .ok (.imul, 1) := by decide +kernel
theorem dX4_counted_192 : decode cX4_counted 192 = .ok (.if_icmp .ge 18, 3) := by decide +kernel
theorem dX4_counted_195 : decode cX4_counted 195 = .ok (.iload_n 2, 1) := by decide +kernel
theorem dX4_counted_196 : decode cX4_counted 196 = .ok (.aload_n 0, 1) := by decide +kernel
theorem dX4_counted_197 : decode cX4_counted 197 = .ok (.getfield 16, 3) := by decide +kernel
theorem dX4_counted_200 : decode cX4_counted 200 = .ok (.iload_n 3, 1) := by decide +kernel
theorem dX4_counted_201 : decode cX4_counted 201 = .ok (.iaload, 1) := by decide +kernel
theorem dX4_counted_202 : decode cX4_counted 202 = .ok (.iadd, 1) := by decide +kernel
theorem dX4_counted_203 : decode cX4_counted 203 = .ok (.istore_n 2, 1) := by decide +kernel
theorem dX4_counted_204 : decode cX4_counted 204 = .ok (.iinc 3 1, 3) := by decide +kernel
theorem dX4_counted_207 : decode cX4_counted 207 = .ok (.goto (-22), 3) := by decide +kernel
theorem dX4_counted_210 : decode cX4_counted 210 = .ok (.iload_n 2, 1) := by decide +kernel
theorem dX4_counted_211 : decode cX4_counted 211 = .ok (.ireturn, 1) := by decide +kernel
set_option maxRecDepth 20000 in
theorem ggX4_count_X4_isIn : GoodIn wsX4_count wsX4_isIn := goodIn_r _ [5] (by decide +kernel) (by decide +kernel)
set_option maxRecDepth 20000 in
theorem gX4_count_X4_isIn : GoodIn wsX4_count (va_wsS RX4 32 yX4_isIn wsX4_isIn) := goodIn_app (goodIn_of _ (by decide +kernel)) ggX4_count_X4_isIn
set_option maxRecDepth 20000 in
theorem ggX4_count_X4_counted : GoodIn wsX4_count wsX4_counted := goodIn_r _ [9, 10, 11, 12, 13, 14, 15, 16, 17, 18, 19, 4, 20, 21, 22, 23, 24, 25, 26, 27, 28, 29, 30, 31, 32, 33, 34, 35, 36, 37, 38, 39, 40, 41, 42, 43, 44, 45, 46, 47, 48, 49, 50, 51, 52, 53, 54, 55, 56, 57, 62, 63, 64, 65, 66, 67, 68] (by decide +kernel) (by decide +kernel)
set_option maxRecDepth 20000 in
theorem gX4_count_X4_counted : GoodIn wsX4_count (wsV RX4 114 RX4 yX4_counted wsX4_counted) := goodIn_app (goodIn_of _ (by decide +kernel)) ggX4_count_X4_counted
set_option maxRecDepth 20000 in
theorem ggX4_count_X4_fail : GoodIn wsX4_count wsX4_fail := goodIn_r _ [61, 1, 62, 63, 64, 65, 66, 67, 68] (by decide +kernel) (by decide +kernel)
set_option maxRecDepth 20000 in
theorem gX4_count_X4_fail : GoodIn wsX4_count (wsV RX4 36 RX4 yX4_fail wsX4_fail) := goodIn_app (goodIn_of _ (by decide +kernel)) ggX4_count_X4_fail
theorem dX4_count_0 : decode cX4_count 0 = .ok (.aload_n 0, 1) := by decide +kernel
theorem dX4_count_1 : decode cX4_count 1 = .ok (.iconst 0, 1) := by decide +kernel
theorem dX4_count_2 : decode cX4_count 2 = .ok (.putfield 25, 3) := by decide +kernel
theorem dX4_count_5 : decode cX4_count 5 = .ok (.iload_n 1, 1) := by decide +kernel
theorem dX4_count_6 : decode cX4_count 6 = .ok (.iconst 0, 1) := by decide +kernel
theorem dX4_count_7 : decode cX4_count 7 = .ok (.bipush 6, 2) := by decide +kernel
theorem dX4_count_9 : decode cX4_count 9 = .ok (.invokestatic 32, 3) := by decide +kernel
theorem dX4_count_12 : decode cX4_count 12 = .ok (.ifCond .eq 11, 3) := by decide +kernel
theorem dX4_count_15 : decode cX4_count 15 = .ok (.aload_n 0, 1) := by decide +kernel
theorem dX4_count_16 : decode cX4_count 16 = .ok (.iload_n 1, 1) := by decide +kernel
theorem dX4_count_17 : decode cX4_count 17 = .ok (.invokevirtual 114, 3) := by decide +kernel
theorem dX4_count_20 : decode cX4_count 20 = .ok (.goto 8, 3) := by decide +kernel
theorem dX4_count_23 : decode cX4_count 23 = .ok (.aload_n 0, 1) := by decide +kernel
theorem dX4_count_24 : decode cX4_count 24 = .ok (.iconst 1, 1) := by decide +kernel
theorem dX4_count_25 : decode cX4_count 25 = .ok (.invokevirtual 36, 3) := by decide +kernel
theorem dX4_count_28 : decode cX4_count 28 = .ok (.ireturn, 1) := by decide +kernel
set_option maxRecDepth 20000 in
theorem ggX4_blame_X4_doubtful : GoodIn wsX4_blame wsX4_doubtful := goodIn_r _ [8, 2, 9, 10, 11, 7, 12, 13, 14, 15, 16, 17, 18, 3, 19, 20, 21, 22, 23, 24, 25, 26, 27, 28, 29, 30, 31, 32, 33, 34, 35, 36, 37, 38, 39, 40, 41, 42, 43, 44] (by decide +kernel) (by decide +kernel)
set_option maxRecDepth 20000 in
theorem gX4_blame_X4_doubtful : GoodIn wsX4_blame (wsV RX4 107 RX4 yX4_doubtful wsX4_doubtful) := goodIn_app (goodIn_of _ (by decide +kernel)) ggX4_blame_X4_doubtful
set_option maxRecDepth 20000 in
theorem ggX4_blame_X4_isDated : GoodIn wsX4_blame wsX4_isDated := goodIn_r _ [26, 3, 38, 39, 40, 41, 42, 43, 44] (by decide +kernel) (by decide +kernel)
set_option maxRecDepth 20000 in
theorem gX4_blame_X4_isDated : GoodIn wsX4_blame (wsV RX4 64 RX4 yX4_isDated wsX4_isDated) := goodIn_app (goodIn_of _ (by decide +kernel)) ggX4_blame_X4_isDated
theorem dX4_blame_0 : decode cX4_blame 0 = .ok (.aload_n 0, 1) := by decide +kernel
theorem dX4_blame_1 : decode cX4_blame 1 = .ok (.iconst 0, 1) := by decide +kernel
theorem dX4_blame_2 : decode cX4_blame 2 = .ok (.putfield 25, 3) := by decide +kernel
theorem dX4_blame_5 : decode cX4_blame 5 = .ok (.iconst (-1), 1) := by decide +kernel
theorem dX4_blame_6 : decode cX4_blame 6 = .ok (.istore_n 1, 1) := by decide +kernel
theorem dX4_blame_7 : decode cX4_blame 7 = .ok (.aload_n 0, 1) := by decide +kernel
theorem dX4_blame_8 : decode cX4_blame 8 = .ok (.invokevirtual 107, 3) := by decide +kernel
theorem dX4_blame_11 : decode cX4_blame 11 = .ok (.istore_n 2, 1) := by decide +kernel
theorem dX4_blame_12 : decode cX4_blame 12 = .ok (.iconst 0, 1) := by decide +kernel
theorem dX4_blame_13 : decode cX4_blame 13 = .ok (.istore_n 3, 1) := by decide +kernel
theorem dX4_blame_14 : decode cX4_blame 14 = .ok (.iload_n 3, 1) := by decide +kernel
theorem dX4_blame_15 : decode cX4_blame 15 = .ok (.aload_n 0, 1) := by decide +kernel
theorem dX4_blame_16 : decode cX4_blame 16 = .ok (.getfield 29, 3) := by decide +kernel
theorem dX4_blame_19 : decode cX4_blame 19 = .ok (.if_icmp .ge 63, 3) := by decide +kernel
theorem dX4_blame_22 : decode cX4_blame 22 = .ok (.aload_n 0, 1) := by decide +kernel
theorem dX4_blame_23 : decode cX4_blame 23 = .ok (.iload_n 3, 1) := by decide +kernel
theorem dX4_blame_24 : decode cX4_blame 24 = .ok (.invokevirtual 64, 3) := by decide +kernel
theorem dX4_blame_27 : decode cX4_blame 27 = .ok (.ifCond .ne 6, 3) := by decide +kernel
theorem dX4_blame_30 : decode cX4_blame 30 = .ok (.goto 46, 3) := by decide +kernel
theorem dX4_blame_33 : decode cX4_blame 33 = .ok (.aload_n 0, 1) := by decide +kernel
theorem dX4_blame_34 : decode cX4_blame 34 = .ok (.getfield 19, 3) := by decide +kernel
theorem dX4_blame_37 : decode cX4_blame 37 = .ok (.iload_n 3, 1) := by decide +kernel
theorem dX4_blame_38 : decode cX4_blame 38 = .ok (.iaload, 1) := by decide +kernel
theorem dX4_blame_39 : decode cX4_blame 39 = .ok (.istore 4, 2) := by decide +kernel
theorem dX4_blame_41 : decode cX4_blame 41 = .ok (.aload_n 0, 1) := by decide +kernel
theorem dX4_blame_42 : decode cX4_blame 42 = .ok (.getfield 19, 3) := by decide +kernel
theorem dX4_blame_45 : decode cX4_blame 45 = .ok (.iload_n 3, 1) := by decide +kernel
theorem dX4_blame_46 : decode cX4_blame 46 = .ok (.iconst (-1), 1) := by decide +kernel
theorem dX4_blame_47 : decode cX4_blame 47 = .ok (.iastore, 1) := by decide +kernel
theorem dX4_blame_48 : decode cX4_blame 48 = .ok (.aload_n 0, 1) := by decide +kernel
theorem dX4_blame_49 : decode cX4_blame 49 = .ok (.invokevirtual 107, 3) := by decide +kernel
theorem dX4_blame_52 : decode cX4_blame 52 = .ok (.istore 5, 2) := by decide +kernel
theorem dX4_blame_54 : decode cX4_blame 54 = .ok (.aload_n 0, 1) := by decide +kernel
theorem dX4_blame_55 : decode cX4_blame 55 = .ok (.getfield 19, 3) := by decide +kernel
theorem dX4_blame_58 : decode cX4_blame 58 = .ok (.iload_n 3, 1) := by decide +kernel
theorem dX4_blame_59 : decode cX4_blame 59 = .ok (.iload 4, 2) := by decide +kernel
theorem dX4_blame_61 : decode cX4_blame 61 = .ok (.iastore, 1) := by decide +kernel
theorem dX4_blame_62 : decode cX4_blame 62 = .ok (.iload 5, 2) := by decide +kernel
theorem dX4_blame_64 : decode cX4_blame 64 = .ok (.iload_n 2, 1) := by decide +kernel
theorem dX4_blame_65 : decode cX4_blame 65 = .ok (.if_icmp .lt 6, 3) := by decide +kernel
theorem dX4_blame_68 : decode cX4_blame 68 = .ok (.goto 8, 3) := by decide +kernel
theorem dX4_blame_71 : decode cX4_blame 71 = .ok (.iload_n 3, 1) := by decide +kernel
theorem dX4_blame_72 : decode cX4_blame 72 = .ok (.istore_n 1, 1) := by decide +kernel
theorem dX4_blame_73 : decode cX4_blame 73 = .ok (.iload 5, 2) := by decide +kernel
theorem dX4_blame_75 : decode cX4_blame 75 = .ok (.istore_n 2, 1) := by decide +kernel
theorem dX4_blame_76 : decode cX4_blame 76 = .ok (.iinc 3 1, 3) := by decide +kernel
theorem dX4_blame_79 : decode cX4_blame 79 = .ok (.goto (-65), 3) := by decide +kernel
theorem dX4_blame_82 : decode cX4_blame 82 = .ok (.iload_n 1, 1) := by decide +kernel
theorem dX4_blame_83 : decode cX4_blame 83 = .ok (.ireturn, 1) := by decide +kernel
set_option maxRecDepth 20000 in
theorem ggX4_narrows_X4_isLayer : GoodIn wsX4_narrows wsX4_isLayer := goodIn_r _ [10, 3, 11, 12, 9, 13, 46, 47, 48, 49, 50, 51, 52] (by decide +kernel) (by decide +kernel)
set_option maxRecDepth 20000 in
theorem gX4_narrows_X4_isLayer : GoodIn wsX4_narrows (wsV RX4 44 RX4 yX4_isLayer wsX4_isLayer) := goodIn_app (goodIn_of _ (by decide +kernel)) ggX4_narrows_X4_isLayer
set_option maxRecDepth 20000 in
theorem ggX4_narrows_X4_fail : GoodIn wsX4_narrows wsX4_fail := goodIn_r _ [17, 1, 46, 47, 48, 49, 50, 51, 52] (by decide +kernel) (by decide +kernel)
set_option maxRecDepth 20000 in
theorem gX4_narrows_X4_fail : GoodIn wsX4_narrows (wsV RX4 36 RX4 yX4_fail wsX4_fail) := goodIn_app (goodIn_of _ (by decide +kernel)) ggX4_narrows_X4_fail
set_option maxRecDepth 20000 in
theorem ggX4_narrows_X4_isIn : GoodIn wsX4_narrows wsX4_isIn := goodIn_r _ [13] (by decide +kernel) (by decide +kernel)
set_option maxRecDepth 20000 in
theorem gX4_narrows_X4_isIn : GoodIn wsX4_narrows (va_wsS RX4 32 yX4_isIn wsX4_isIn) := goodIn_app (goodIn_of _ (by decide +kernel)) ggX4_narrows_X4_isIn
set_option maxRecDepth 20000 in
theorem ggX4_narrows_X4_to : GoodIn wsX4_narrows wsX4_to := goodIn_r _ [21, 3, 22, 23, 5, 24, 25, 26, 27, 28, 29, 30, 9, 31, 4, 32, 33, 34, 46, 47, 48, 49, 50, 51, 52] (by decide +kernel) (by decide +kernel)
set_option maxRecDepth 20000 in
theorem gX4_narrows_X4_to : GoodIn wsX4_narrows (wsV RX4 79 RX4 yX4_to wsX4_to) := goodIn_app (goodIn_of _ (by decide +kernel)) ggX4_narrows_X4_to
set_option maxRecDepth 20000 in
theorem ggX4_narrows_X4_from : GoodIn wsX4_narrows wsX4_from := goodIn_r _ [38, 3, 22, 23, 4, 39, 40, 26, 41, 28, 29, 30, 9, 31, 32, 33, 34, 46, 47, 48, 49, 50, 51, 52] (by decide +kernel) (by decide +kernel)
set_option maxRecDepth 20000 in
theorem gX4_narrows_X4_from : GoodIn wsX4_narrows (wsV RX4 76 RX4 yX4_from wsX4_from) := goodIn_app (goodIn_of _ (by decide +kernel)) ggX4_narrows_X4_from
set_option maxRecDepth 20000 in
theorem ggX4_narrows_X4_isDoubtful : GoodIn wsX4_narrows wsX4_isDoubtful := goodIn_r _ [45, 35, 36, 37, 9, 38, 3, 22, 23, 4, 39, 40, 26, 41, 28, 29, 30, 31, 32, 33, 34, 18, 19, 20, 21, 5, 24, 25, 27, 46, 47, 48, 49, 50, 51, 52] (by decide +kernel) (by decide +kernel)
set_option maxRecDepth 20000 in
theorem gX4_narrows_X4_isDoubtful : GoodIn wsX4_narrows (wsV RX4 85 RX4 yX4_isDoubtful wsX4_isDoubtful) := goodIn_app (goodIn_of _ (by decide +kernel)) ggX4_narrows_X4_isDoubtful
theorem dX4_narrows_0 : decode cX4_narrows 0 = .ok (.aload_n 0, 1) := by decide +kernel
theorem dX4_narrows_1 : decode cX4_narrows 1 = .ok (.iconst 0, 1) := by decide +kernel
theorem dX4_narrows_2 : decode cX4_narrows 2 = .ok (.putfield 25, 3) := by decide +kernel
theorem dX4_narrows_5 : decode cX4_narrows 5 = .ok (.aload_n 0, 1) := by decide +kernel
theorem dX4_narrows_6 : decode cX4_narrows 6 = .ok (.iload_n 1, 1) := by decide +kernel
theorem dX4_narrows_7 : decode cX4_narrows 7 = .ok (.invokevirtual 44, 3) := by decide +kernel
theorem dX4_narrows_10 : decode cX4_narrows 10 = .ok (.ifCond .ne 9, 3) := by decide +kernel
theorem dX4_narrows_13 : decode cX4_narrows 13 = .ok (.aload_n 0, 1) := by decide +kernel
theorem dX4_narrows_14 : decode cX4_narrows 14 = .ok (.iconst 1, 1) := by decide +kernel
theorem dX4_narrows_15 : decode cX4_narrows 15 = .ok (.invokevirtual 36, 3) := by decide +kernel
theorem dX4_narrows_18 : decode cX4_narrows 18 = .ok (.ireturn, 1) := by decide +kernel
theorem dX4_narrows_19 : decode cX4_narrows 19 = .ok (.iload_n 2, 1) := by decide +kernel
theorem dX4_narrows_20 : decode cX4_narrows 20 = .ok (.iconst 0, 1) := by decide +kernel
theorem dX4_narrows_21 : decode cX4_narrows 21 = .ok (.sipush 9999, 3) := by decide +kernel
theorem dX4_narrows_24 : decode cX4_narrows 24 = .ok (.invokestatic 32, 3) := by decide +kernel
theorem dX4_narrows_27 : decode cX4_narrows 27 = .ok (.ifCond .ne 9, 3) := by decide +kernel
theorem dX4_narrows_30 : decode cX4_narrows 30 = .ok (.aload_n 0, 1) := by decide +kernel
theorem dX4_narrows_31 : decode cX4_narrows 31 = .ok (.iconst 2, 1) := by decide +kernel
theorem dX4_narrows_32 : decode cX4_narrows 32 = .ok (.invokevirtual 36, 3) := by decide +kernel
theorem dX4_narrows_35 : decode cX4_narrows 35 = .ok (.ireturn, 1) := by decide +kernel
theorem dX4_narrows_36 : decode cX4_narrows 36 = .ok (.bipush 14, 2) := by decide +kernel
theorem dX4_narrows_38 : decode cX4_narrows 38 = .ok (.newarray .int, 2) := by decide +kernel
theorem dX4_narrows_40 : decode cX4_narrows 40 = .ok (.astore_n 3, 1) := by decide +kernel
theorem dX4_narrows_41 : decode cX4_narrows 41 = .ok (.iconst 0, 1) := by decide +kernel
theorem dX4_narrows_42 : decode cX4_narrows 42 = .ok (.istore 4, 2) := by decide +kernel
theorem dX4_narrows_44 : decode cX4_narrows 44 = .ok (.iload 4, 2) := by decide +kernel
theorem dX4_narrows_46 : decode cX4_narrows 46 = .ok (.aload_n 0, 1) := by decide +kernel
theorem dX4_narrows_47 : decode cX4_narrows 47 = .ok (.getfield 29, 3) := by decide +kernel
theorem dX4_narrows_50 : decode cX4_narrows 50 = .ok (.if_icmp .ge 26, 3) := by decide +kernel
theorem dX4_narrows_53 : decode cX4_narrows 53 = .ok (.aload_n 3, 1) := by decide +kernel
theorem dX4_narrows_54 : decode cX4_narrows 54 = .ok (.iload 4, 2) := by decide +kernel
theorem dX4_narrows_56 : decode cX4_narrows 56 = .ok (.aload_n 0, 1) := by decide +kernel
theorem dX4_narrows_57 : decode cX4_narrows 57 = .ok (.iload 4, 2) := by decide +kernel
theorem dX4_narrows_59 : decode cX4_narrows 59 = .ok (.invokevirtual 79, 3) := by decide +kernel
theorem dX4_narrows_62 : decode cX4_narrows 62 = .ok (.aload_n 0, 1) := by decide +kernel
theorem dX4_narrows_63 : decode cX4_narrows 63 = .ok (.iload 4, 2) := by decide +kernel
theorem dX4_narrows_65 : decode cX4_narrows 65 = .ok (.invokevirtual 76, 3) := by decide +kernel
theorem dX4_narrows_68 : decode cX4_narrows 68 = .ok (.isub, 1) := by decide +kernel
theorem dX4_narrows_69 : decode cX4_narrows 69 = .ok (.iastore, 1) := by decide +kernel
theorem dX4_narrows_70 : decode cX4_narrows 70 = .ok (.iinc 4 1, 3) := by decide +kernel
theorem dX4_narrows_73 : decode cX4_narrows 73 = .ok (.goto (-29), 3) := by decide +kernel
theorem dX4_narrows_76 : decode cX4_narrows 76 = .ok (.aload_n 0, 1) := by decide +kernel
theorem dX4_narrows_77 : decode cX4_narrows 77 = .ok (.getfield 19, 3) := by decide +kernel
theorem dX4_narrows_80 : decode cX4_narrows 80 = .ok (.iload_n 1, 1) := by decide +kernel
theorem dX4_narrows_81 : decode cX4_narrows 81 = .ok (.iaload, 1) := by decide +kernel
theorem dX4_narrows_82 : decode cX4_narrows 82 = .ok (.istore 4, 2) := by decide +kernel
theorem dX4_narrows_84 : decode cX4_narrows 84 = .ok (.aload_n 0, 1) := by decide +kernel
theorem dX4_narrows_85 : decode cX4_narrows 85 = .ok (.getfield 22, 3) := by decide +kernel
theorem dX4_narrows_88 : decode cX4_narrows 88 = .ok (.iload_n 1, 1) := by decide +kernel
theorem dX4_narrows_89 : decode cX4_narrows 89 = .ok (.iaload, 1) := by decide +kernel
theorem dX4_narrows_90 : decode cX4_narrows 90 = .ok (.istore 5, 2) := by decide +kernel
theorem dX4_narrows_92 : decode cX4_narrows 92 = .ok (.aload_n 0, 1) := by decide +kernel
theorem dX4_narrows_93 : decode cX4_narrows 93 = .ok (.getfield 19, 3) := by decide +kernel
theorem dX4_narrows_96 : decode cX4_narrows 96 = .ok (.iload_n 1, 1) := by decide +kernel
theorem dX4_narrows_97 : decode cX4_narrows 97 = .ok (.iload_n 2, 1) := by decide +kernel
theorem dX4_narrows_98 : decode cX4_narrows 98 = .ok (.iastore, 1) := by decide +kernel
theorem dX4_narrows_99 : decode cX4_narrows 99 = .ok (.aload_n 0, 1) := by decide +kernel
theorem dX4_narrows_100 : decode cX4_narrows 100 = .ok (.getfield 22, 3) := by decide +kernel
theorem dX4_narrows_103 : decode cX4_narrows 103 = .ok (.iload_n 1, 1) := by decide +kernel
theorem dX4_narrows_104 : decode cX4_narrows 104 = .ok (.iload_n 2, 1) := by decide +kernel
theorem dX4_narrows_105 : decode cX4_narrows 105 = .ok (.iastore, 1) := by decide +kernel
theorem dX4_narrows_106 : decode cX4_narrows 106 = .ok (.iconst 0, 1) := by decide +kernel
theorem dX4_narrows_107 : decode cX4_narrows 107 = .ok (.istore 6, 2) := by decide +kernel
theorem dX4_narrows_109 : decode cX4_narrows 109 = .ok (.iconst 0, 1) := by decide +kernel
theorem dX4_narrows_110 : decode cX4_narrows 110 = .ok (.istore 7, 2) := by decide +kernel
theorem dX4_narrows_112 : decode cX4_narrows 112 = .ok (.iload 7, 2) := by decide +kernel
theorem dX4_narrows_114 : decode cX4_narrows 114 = .ok (.aload_n 0, 1) := by decide +kernel
theorem dX4_narrows_115 : decode cX4_narrows 115 = .ok (.getfield 29, 3) := by decide +kernel
theorem dX4_narrows_118 : decode cX4_narrows 118 = .ok (.if_icmp .ge 52, 3) := by decide +kernel
theorem dX4_narrows_121 : decode cX4_narrows 121 = .ok (.iload 6, 2) := by decide +kernel
theorem dX4_narrows_123 : decode cX4_narrows 123 = .ok (.aload_n 3, 1) := by decide +kernel
theorem dX4_narrows_124 : decode cX4_narrows 124 = .ok (.iload 7, 2) := by decide +kernel
theorem dX4_narrows_126 : decode cX4_narrows 126 = .ok (.iaload, 1) := by decide +kernel
theorem dX4_narrows_127 : decode cX4_narrows 127 = .ok (.ifCond .lt 33, 3) := by decide +kernel
theorem dX4_narrows_130 : decode cX4_narrows 130 = .ok (.aload_n 0, 1) := by decide +kernel
theorem dX4_narrows_131 : decode cX4_narrows 131 = .ok (.iload 7, 2) := by decide +kernel
theorem dX4_narrows_133 : decode cX4_narrows 133 = .ok (.invokevirtual 85, 3) := by decide +kernel
theorem dX4_narrows_136 : decode cX4_narrows 136 = .ok (.ifCond .ne 24, 3) := by decide +kernel
theorem dX4_narrows_139 : decode cX4_narrows 139 = .ok (.aload_n 3, 1) := by decide +kernel
theorem dX4_narrows_140 : decode cX4_narrows 140 = .ok (.iload 7, 2) := by decide +kernel
theorem dX4_narrows_142 : decode cX4_narrows 142 = .ok (.iaload, 1) := by decide +kernel
theorem dX4_narrows_143 : decode cX4_narrows 143 = .ok (.aload_n 0, 1) := by decide +kernel
theorem dX4_narrows_144 : decode cX4_narrows 144 = .ok (.iload 7, 2) := by decide +kernel
theorem dX4_narrows_146 : decode cX4_narrows 146 = .ok (.invokevirtual 79, 3) := by decide +kernel
theorem dX4_narrows_149 : decode cX4_narrows 149 = .ok (.isub, 1) := by decide +kernel
theorem dX4_narrows_150 : decode cX4_narrows 150 = .ok (.aload_n 0, 1) := by decide +kernel
theorem dX4_narrows_151 : decode cX4_narrows 151 = .ok (.iload 7, 2) := by decide +kernel
theorem dX4_narrows_153 : decode cX4_narrows 153 = .ok (.invokevirtual 76, 3) := by decide +kernel
theorem dX4_narrows_156 : decode cX4_narrows 156 = .ok (.iadd, 1) := by decide +kernel
theorem dX4_narrows_157 : decode cX4_narrows 157 = .ok (.goto 4, 3) := by decide +kernel
theorem dX4_narrows_160 : decode cX4_narrows 160 = .ok (.iconst 0, 1) := by decide +kernel
theorem dX4_narrows_161 : decode cX4_narrows 161 = .ok (.iadd, 1) := by decide +kernel
theorem dX4_narrows_162 : decode cX4_narrows 162 = .ok (.istore 6, 2) := by decide +kernel
theorem dX4_narrows_164 : decode cX4_narrows 164 = .ok (.iinc 7 1, 3) := by decide +kernel
theorem dX4_narrows_167 : decode cX4_narrows 167 = .ok (.goto (-55), 3) := by decide +kernel
theorem dX4_narrows_170 : decode cX4_narrows 170 = .ok (.aload_n 0, 1) := by decide +kernel
theorem dX4_narrows_171 : decode cX4_narrows 171 = .ok (.getfield 19, 3) := by decide +kernel
theorem dX4_narrows_174 : decode cX4_narrows 174 = .ok (.iload_n 1, 1) := by decide +kernel
theorem dX4_narrows_175 : decode cX4_narrows 175 = .ok (.iload 4, 2) := by decide +kernel
theorem dX4_narrows_177 : decode cX4_narrows 177 = .ok (.iastore, 1) := by decide +kernel
theorem dX4_narrows_178 : decode cX4_narrows 178 = .ok (.aload_n 0, 1) := by decide +kernel
theorem dX4_narrows_179 : decode cX4_narrows 179 = .ok (.getfield 22, 3) := by decide +kernel
theorem dX4_narrows_182 : decode cX4_narrows 182 = .ok (.iload_n 1, 1) := by decide +kernel
theorem dX4_narrows_183 : decode cX4_narrows 183 = .ok (.iload 5, 2) := by decide +kernel
theorem dX4_narrows_185 : decode cX4_narrows 185 = .ok (.iastore, 1) := by decide +kernel
theorem dX4_narrows_186 : decode cX4_narrows 186 = .ok (.iload 6, 2) := by decide +kernel
theorem dX4_narrows_188 : decode cX4_narrows 188 = .ok (.ireturn, 1) := by decide +kernel
set_option maxRecDepth 20000 in
theorem ggX4_tells_X4_isLayer : GoodIn wsX4_tells wsX4_isLayer := goodIn_r _ [18, 19, 20, 21, 17, 22, 53, 54, 55, 56, 57, 58, 59] (by decide +kernel) (by decide +kernel)
set_option maxRecDepth 20000 in
theorem gX4_tells_X4_isLayer : GoodIn wsX4_tells (wsV RX4 44 RX4 yX4_isLayer wsX4_isLayer) := goodIn_app (goodIn_of _ (by decide +kernel)) ggX4_tells_X4_isLayer
set_option maxRecDepth 20000 in
theorem ggX4_tells_X4_fail : GoodIn wsX4_tells wsX4_fail := goodIn_r _ [26, 1, 53, 54, 55, 56, 57, 58, 59] (by decide +kernel) (by decide +kernel)
set_option maxRecDepth 20000 in
theorem gX4_tells_X4_fail : GoodIn wsX4_tells (wsV RX4 36 RX4 yX4_fail wsX4_fail) := goodIn_app (goodIn_of _ (by decide +kernel)) ggX4_tells_X4_fail
set_option maxRecDepth 20000 in
theorem ggX4_tells_X4_isRefused : GoodIn wsX4_tells wsX4_isRefused := goodIn_r _ [30, 9, 2, 31, 32, 17, 33, 53, 54, 55, 56, 57, 58, 59] (by decide +kernel) (by decide +kernel)
set_option maxRecDepth 20000 in
theorem gX4_tells_X4_isRefused : GoodIn wsX4_tells (wsV RX4 48 RX4 yX4_isRefused wsX4_isRefused) := goodIn_app (goodIn_of _ (by decide +kernel)) ggX4_tells_X4_isRefused
set_option maxRecDepth 20000 in
theorem ggX4_tells_X4_pairs : GoodIn wsX4_tells wsX4_pairs := goodIn_r _ [37, 19, 2, 38, 39, 17, 40, 53, 54, 55, 56, 57, 58, 59] (by decide +kernel) (by decide +kernel)
set_option maxRecDepth 20000 in
theorem gX4_tells_X4_pairs : GoodIn wsX4_tells (wsV RX4 111 RX4 yX4_pairs wsX4_pairs) := goodIn_app (goodIn_of _ (by decide +kernel)) ggX4_tells_X4_pairs
set_option maxRecDepth 20000 in
theorem ggX4_tells_X4_andAbove : GoodIn wsX4_tells wsX4_andAbove := goodIn_r _ [44, 19, 2, 53, 54, 55, 56, 57, 58, 59] (by decide +kernel) (by decide +kernel)
set_option maxRecDepth 20000 in
theorem gX4_tells_X4_andAbove : GoodIn wsX4_tells (wsV RX4 51 RX4 yX4_andAbove wsX4_andAbove) := goodIn_app (goodIn_of _ (by decide +kernel)) ggX4_tells_X4_andAbove
set_option maxRecDepth 20000 in
theorem ggX4_tells_X4_andBeneath : GoodIn wsX4_tells wsX4_andBeneath := goodIn_r _ [48, 19, 2, 31, 32, 17, 33, 53, 54, 55, 56, 57, 58, 59] (by decide +kernel) (by decide +kernel)
set_option maxRecDepth 20000 in
theorem gX4_tells_X4_andBeneath : GoodIn wsX4_tells (wsV RX4 54 RX4 yX4_andBeneath wsX4_andBeneath) := goodIn_app (goodIn_of _ (by decide +kernel)) ggX4_tells_X4_andBeneath
set_option maxRecDepth 20000 in
theorem ggX4_tells_X4_lay : GoodIn wsX4_tells wsX4_lay := goodIn_r _ [52, 19, 2, 31, 32, 17, 33, 53, 54, 55, 56, 57, 58, 59] (by decide +kernel) (by decide +kernel)
set_option maxRecDepth 20000 in
theorem gX4_tells_X4_lay : GoodIn wsX4_tells (wsV RX4 57 RX4 yX4_lay wsX4_lay) := goodIn_app (goodIn_of _ (by decide +kernel)) ggX4_tells_X4_lay
theorem dX4_tells_0 : decode cX4_tells 0 = .ok (.aload_n 0, 1) := by decide +kernel
theorem dX4_tells_1 : decode cX4_tells 1 = .ok (.iconst 0, 1) := by decide +kernel
theorem dX4_tells_2 : decode cX4_tells 2 = .ok (.putfield 25, 3) := by decide +kernel
theorem dX4_tells_5 : decode cX4_tells 5 = .ok (.aload_n 0, 1) := by decide +kernel
theorem dX4_tells_6 : decode cX4_tells 6 = .ok (.iload_n 1, 1) := by decide +kernel
theorem dX4_tells_7 : decode cX4_tells 7 = .ok (.invokevirtual 44, 3) := by decide +kernel
theorem dX4_tells_10 : decode cX4_tells 10 = .ok (.ifCond .eq 11, 3) := by decide +kernel
theorem dX4_tells_13 : decode cX4_tells 13 = .ok (.aload_n 0, 1) := by decide +kernel
theorem dX4_tells_14 : decode cX4_tells 14 = .ok (.iload_n 2, 1) := by decide +kernel
theorem dX4_tells_15 : decode cX4_tells 15 = .ok (.invokevirtual 44, 3) := by decide +kernel
theorem dX4_tells_18 : decode cX4_tells 18 = .ok (.ifCond .ne 9, 3) := by decide +kernel
theorem dX4_tells_21 : decode cX4_tells 21 = .ok (.aload_n 0, 1) := by decide +kernel
theorem dX4_tells_22 : decode cX4_tells 22 = .ok (.iconst 1, 1) := by decide +kernel
theorem dX4_tells_23 : decode cX4_tells 23 = .ok (.invokevirtual 36, 3) := by decide +kernel
theorem dX4_tells_26 : decode cX4_tells 26 = .ok (.ireturn, 1) := by decide +kernel
theorem dX4_tells_27 : decode cX4_tells 27 = .ok (.aload_n 0, 1) := by decide +kernel
theorem dX4_tells_28 : decode cX4_tells 28 = .ok (.iload_n 1, 1) := by decide +kernel
theorem dX4_tells_29 : decode cX4_tells 29 = .ok (.iload_n 2, 1) := by decide +kernel
theorem dX4_tells_30 : decode cX4_tells 30 = .ok (.invokevirtual 48, 3) := by decide +kernel
theorem dX4_tells_33 : decode cX4_tells 33 = .ok (.ifCond .eq 5, 3) := by decide +kernel
theorem dX4_tells_36 : decode cX4_tells 36 = .ok (.iconst (-1), 1) := by decide +kernel
theorem dX4_tells_37 : decode cX4_tells 37 = .ok (.ireturn, 1) := by decide +kernel
theorem dX4_tells_38 : decode cX4_tells 38 = .ok (.aload_n 0, 1) := by decide +kernel
theorem dX4_tells_39 : decode cX4_tells 39 = .ok (.getfield 13, 3) := by decide +kernel
theorem dX4_tells_42 : decode cX4_tells 42 = .ok (.invokevirtual 117, 3) := by decide +kernel
theorem dX4_tells_45 : decode cX4_tells 45 = .ok (.checkcast 118, 3) := by decide +kernel
theorem dX4_tells_48 : decode cX4_tells 48 = .ok (.astore_n 3, 1) := by decide +kernel
theorem dX4_tells_49 : decode cX4_tells 49 = .ok (.aload_n 0, 1) := by decide +kernel
theorem dX4_tells_50 : decode cX4_tells 50 = .ok (.invokevirtual 111, 3) := by decide +kernel
theorem dX4_tells_53 : decode cX4_tells 53 = .ok (.istore 4, 2) := by decide +kernel
theorem dX4_tells_55 : decode cX4_tells 55 = .ok (.aload_n 0, 1) := by decide +kernel
theorem dX4_tells_56 : decode cX4_tells 56 = .ok (.aload_n 0, 1) := by decide +kernel
theorem dX4_tells_57 : decode cX4_tells 57 = .ok (.aload_n 0, 1) := by decide +kernel
theorem dX4_tells_58 : decode cX4_tells 58 = .ok (.getfield 9, 3) := by decide +kernel
theorem dX4_tells_61 : decode cX4_tells 61 = .ok (.iload_n 1, 1) := by decide +kernel
theorem dX4_tells_62 : decode cX4_tells 62 = .ok (.iaload, 1) := by decide +kernel
theorem dX4_tells_63 : decode cX4_tells 63 = .ok (.invokevirtual 51, 3) := by decide +kernel
theorem dX4_tells_66 : decode cX4_tells 66 = .ok (.aload_n 0, 1) := by decide +kernel
theorem dX4_tells_67 : decode cX4_tells 67 = .ok (.aload_n 0, 1) := by decide +kernel
theorem dX4_tells_68 : decode cX4_tells 68 = .ok (.getfield 9, 3) := by decide +kernel
theorem dX4_tells_71 : decode cX4_tells 71 = .ok (.iload_n 2, 1) := by decide +kernel
theorem dX4_tells_72 : decode cX4_tells 72 = .ok (.iaload, 1) := by decide +kernel
theorem dX4_tells_73 : decode cX4_tells 73 = .ok (.invokevirtual 54, 3) := by decide +kernel
theorem dX4_tells_76 : decode cX4_tells 76 = .ok (.invokevirtual 57, 3) := by decide +kernel
theorem dX4_tells_79 : decode cX4_tells 79 = .ok (.aload_n 0, 1) := by decide +kernel
theorem dX4_tells_80 : decode cX4_tells 80 = .ok (.invokevirtual 111, 3) := by decide +kernel
theorem dX4_tells_83 : decode cX4_tells 83 = .ok (.iload 4, 2) := by decide +kernel
theorem dX4_tells_85 : decode cX4_tells 85 = .ok (.isub, 1) := by decide +kernel
theorem dX4_tells_86 : decode cX4_tells 86 = .ok (.istore 5, 2) := by decide +kernel
theorem dX4_tells_88 : decode cX4_tells 88 = .ok (.aload_n 3, 1) := by decide +kernel
theorem dX4_tells_89 : decode cX4_tells 89 = .ok (.iconst 0, 1) := by decide +kernel
theorem dX4_tells_90 : decode cX4_tells 90 = .ok (.aload_n 0, 1) := by decide +kernel
theorem dX4_tells_91 : decode cX4_tells 91 = .ok (.getfield 13, 3) := by decide +kernel
theorem dX4_tells_94 : decode cX4_tells 94 = .ok (.iconst 0, 1) := by decide +kernel
theorem dX4_tells_95 : decode cX4_tells 95 = .ok (.bipush 14, 2) := by decide +kernel
theorem dX4_tells_97 : decode cX4_tells 97 = .ok (.invokestatic 122, 3) := by decide +kernel
theorem dX4_tells_100 : decode cX4_tells 100 = .ok (.iload 5, 2) := by decide +kernel
theorem dX4_tells_102 : decode cX4_tells 102 = .ok (.ireturn, 1) := by decide +kernel
set_option maxRecDepth 20000 in
theorem ggX4_mean_X4_phases : GoodIn wsX4_mean wsX4_phases := goodIn_r _ [7, 8, 2, 9, 10, 11, 12, 13, 14, 15, 6, 16, 17, 18, 19, 20, 21, 22, 23] (by decide +kernel) (by decide +kernel)
set_option maxRecDepth 20000 in
theorem gX4_mean_X4_phases : GoodIn wsX4_mean (wsV RX4 88 RX4 yX4_phases wsX4_phases) := goodIn_app (goodIn_of _ (by decide +kernel)) ggX4_mean_X4_phases
theorem dX4_mean_0 : decode cX4_mean 0 = .ok (.aload_n 0, 1) := by decide +kernel
theorem dX4_mean_1 : decode cX4_mean 1 = .ok (.iconst 0, 1) := by decide +kernel
theorem dX4_mean_2 : decode cX4_mean 2 = .ok (.putfield 25, 3) := by decide +kernel
theorem dX4_mean_5 : decode cX4_mean 5 = .ok (.iconst 0, 1) := by decide +kernel
theorem dX4_mean_6 : decode cX4_mean 6 = .ok (.istore_n 1, 1) := by decide +kernel
theorem dX4_mean_7 : decode cX4_mean 7 = .ok (.aload_n 0, 1) := by decide +kernel
theorem dX4_mean_8 : decode cX4_mean 8 = .ok (.invokevirtual 88, 3) := by decide +kernel
theorem dX4_mean_11 : decode cX4_mean 11 = .ok (.astore_n 2, 1) := by decide +kernel
theorem dX4_mean_12 : decode cX4_mean 12 = .ok (.aload_n 2, 1) := by decide +kernel
theorem dX4_mean_13 : decode cX4_mean 13 = .ok (.arraylength, 1) := by decide +kernel
theorem dX4_mean_14 : decode cX4_mean 14 = .ok (.istore_n 3, 1) := by decide +kernel
theorem dX4_mean_15 : decode cX4_mean 15 = .ok (.iconst 0, 1) := by decide +kernel
theorem dX4_mean_16 : decode cX4_mean 16 = .ok (.istore 4, 2) := by decide +kernel
theorem dX4_mean_18 : decode cX4_mean 18 = .ok (.iload 4, 2) := by decide +kernel
theorem dX4_mean_20 : decode cX4_mean 20 = .ok (.iload_n 3, 1) := by decide +kernel
theorem dX4_mean_21 : decode cX4_mean 21 = .ok (.if_icmp .ge 20, 3) := by decide +kernel
theorem dX4_mean_24 : decode cX4_mean 24 = .ok (.aload_n 2, 1) := by decide +kernel
theorem dX4_mean_25 : decode cX4_mean 25 = .ok (.iload 4, 2) := by decide +kernel
theorem dX4_mean_27 : decode cX4_mean 27 = .ok (.iaload, 1) := by decide +kernel
theorem dX4_mean_28 : decode cX4_mean 28 = .ok (.istore 5, 2) := by decide +kernel
theorem dX4_mean_30 : decode cX4_mean 30 = .ok (.iload_n 1, 1) := by decide +kernel
theorem dX4_mean_31 : decode cX4_mean 31 = .ok (.iload 5, 2) := by decide +kernel
theorem dX4_mean_33 : decode cX4_mean 33 = .ok (.iadd, 1) := by decide +kernel
theorem dX4_mean_34 : decode cX4_mean 34 = .ok (.istore_n 1, 1) := by decide +kernel
theorem dX4_mean_35 : decode cX4_mean 35 = .ok (.iinc 4 1, 3) := by decide +kernel
theorem dX4_mean_38 : decode cX4_mean 38 = .ok (.goto (-20), 3) := by decide +kernel
theorem dX4_mean_41 : decode cX4_mean 41 = .ok (.aload_n 0, 1) := by decide +kernel
theorem dX4_mean_42 : decode cX4_mean 42 = .ok (.getfield 29, 3) := by decide +kernel
theorem dX4_mean_45 : decode cX4_mean 45 = .ok (.ifCond .ne 7, 3) := by decide +kernel
theorem dX4_mean_48 : decode cX4_mean 48 = .ok (.dconst 0, 1) := by decide +kernel
theorem dX4_mean_49 : decode cX4_mean 49 = .ok (.goto 11, 3) := by decide +kernel
theorem dX4_mean_52 : decode cX4_mean 52 = .ok (.iload_n 1, 1) := by decide +kernel
theorem dX4_mean_53 : decode cX4_mean 53 = .ok (.i2d, 1) := by decide +kernel
theorem dX4_mean_54 : decode cX4_mean 54 = .ok (.aload_n 0, 1) := by decide +kernel
theorem dX4_mean_55 : decode cX4_mean 55 = .ok (.getfield 29, 3) := by decide +kernel
theorem dX4_mean_58 : decode cX4_mean 58 = .ok (.i2d, 1) := by decide +kernel
theorem dX4_mean_59 : decode cX4_mean 59 = .ok (.ddiv, 1) := by decide +kernel
theorem dX4_mean_60 : decode cX4_mean 60 = .ok (.dreturn, 1) := by decide +kernel
set_option maxRecDepth 20000 in
theorem ggX4_digest_X4_counted : GoodIn wsX4_digest wsX4_counted := goodIn_r _ [10, 4, 11, 12, 13, 14, 15, 16, 17, 18, 19, 9, 20, 21, 5, 22, 23, 24, 25, 26, 27, 28, 29, 30, 31, 32, 33, 34, 35, 36, 37, 38, 39, 40, 41, 42, 43, 44, 45, 46, 47, 48, 49, 50, 51, 52, 53, 54, 55, 56, 77, 78, 79, 80, 81, 82, 83] (by decide +kernel) (by decide +kernel)
set_option maxRecDepth 20000 in
theorem gX4_digest_X4_counted : GoodIn wsX4_digest (wsV RX4 114 RX4 yX4_counted wsX4_counted) := goodIn_app (goodIn_of _ (by decide +kernel)) ggX4_digest_X4_counted
set_option maxRecDepth 20000 in
theorem ggX4_digest_X4_orderAt : GoodIn wsX4_digest wsX4_orderAt := goodIn_r _ [60, 4, 5, 22, 23, 9, 24, 77, 78, 79, 80, 81, 82, 83] (by decide +kernel) (by decide +kernel)
set_option maxRecDepth 20000 in
theorem gX4_digest_X4_orderAt : GoodIn wsX4_digest (wsV RX4 101 RX4 yX4_orderAt wsX4_orderAt) := goodIn_app (goodIn_of _ (by decide +kernel)) ggX4_digest_X4_orderAt
set_option maxRecDepth 20000 in
theorem ggX4_digest_X4_toldOf : GoodIn wsX4_digest wsX4_toldOf := goodIn_r _ [64, 5, 15, 33, 34, 35, 9, 36, 4, 37, 11, 12, 13, 14, 38, 39, 40, 41, 22, 23, 24, 42, 43, 44, 45, 46, 47, 48, 49, 29, 30, 31, 32, 17, 18, 19, 20, 21, 54, 55, 56, 65, 66, 67, 68, 69, 70, 71, 72, 73, 74, 75, 76, 16, 77, 78, 79, 80, 81, 82, 83] (by decide +kernel) (by decide +kernel)
set_option maxRecDepth 20000 in
theorem gX4_digest_X4_toldOf : GoodIn wsX4_digest (wsV RX4 98 RX4 yX4_toldOf wsX4_toldOf) := goodIn_app (goodIn_of _ (by decide +kernel)) ggX4_digest_X4_toldOf
set_option maxRecDepth 20000 in
theorem ggX4_digest_X4_all : GoodIn wsX4_digest wsX4_all := goodIn_r _ [76, 4, 15, 16, 22, 23, 9, 24, 77, 78, 79, 80, 81, 82, 83] (by decide +kernel) (by decide +kernel)
set_option maxRecDepth 20000 in
theorem gX4_digest_X4_all : GoodIn wsX4_digest (wsV RX4 82 RX4 yX4_all wsX4_all) := goodIn_app (goodIn_of _ (by decide +kernel)) ggX4_digest_X4_all
theorem dX4_digest_0 : decode cX4_digest 0 = .ok (.aload_n 0, 1) := by decide +kernel
theorem dX4_digest_1 : decode cX4_digest 1 = .ok (.iconst 0, 1) := by decide +kernel
theorem dX4_digest_2 : decode cX4_digest 2 = .ok (.putfield 25, 3) := by decide +kernel
theorem dX4_digest_5 : decode cX4_digest 5 = .ok (.ldc2_w 128, 3) := by decide +kernel
theorem dX4_digest_8 : decode cX4_digest 8 = .ok (.lstore_n 1, 1) := by decide +kernel
theorem dX4_digest_9 : decode cX4_digest 9 = .ok (.iconst 0, 1) := by decide +kernel
theorem dX4_digest_10 : decode cX4_digest 10 = .ok (.istore_n 3, 1) := by decide +kernel
theorem dX4_digest_11 : decode cX4_digest 11 = .ok (.iload_n 3, 1) := by decide +kernel
theorem dX4_digest_12 : decode cX4_digest 12 = .ok (.bipush 7, 2) := by decide +kernel
theorem dX4_digest_14 : decode cX4_digest 14 = .ok (.if_icmp .ge 22, 3) := by decide +kernel
theorem dX4_digest_17 : decode cX4_digest 17 = .ok (.lload_n 1, 1) := by decide +kernel
theorem dX4_digest_18 : decode cX4_digest 18 = .ok (.ldc2_w 130, 3) := by decide +kernel
theorem dX4_digest_21 : decode cX4_digest 21 = .ok (.lmul, 1) := by decide +kernel
theorem dX4_digest_22 : decode cX4_digest 22 = .ok (.aload_n 0, 1) := by decide +kernel
theorem dX4_digest_23 : decode cX4_digest 23 = .ok (.iload_n 3, 1) := by decide +kernel
theorem dX4_digest_24 : decode cX4_digest 24 = .ok (.invokevirtual 114, 3) := by decide +kernel
theorem dX4_digest_27 : decode cX4_digest 27 = .ok (.i2l, 1) := by decide +kernel
theorem dX4_digest_28 : decode cX4_digest 28 = .ok (.ladd, 1) := by decide +kernel
theorem dX4_digest_29 : decode cX4_digest 29 = .ok (.lstore_n 1, 1) := by decide +kernel
theorem dX4_digest_30 : decode cX4_digest 30 = .ok (.iinc 3 1, 3) := by decide +kernel
theorem dX4_digest_33 : decode cX4_digest 33 = .ok (.goto (-22), 3) := by decide +kernel
theorem dX4_digest_36 : decode cX4_digest 36 = .ok (.iconst 0, 1) := by decide +kernel
theorem dX4_digest_37 : decode cX4_digest 37 = .ok (.istore_n 3, 1) := by decide +kernel
theorem dX4_digest_38 : decode cX4_digest 38 = .ok (.iload_n 3, 1) := by decide +kernel
theorem dX4_digest_39 : decode cX4_digest 39 = .ok (.aload_n 0, 1) := by decide +kernel
theorem dX4_digest_40 : decode cX4_digest 40 = .ok (.getfield 29, 3) := by decide +kernel
theorem dX4_digest_43 : decode cX4_digest 43 = .ok (.if_icmp .ge 22, 3) := by decide +kernel
theorem dX4_digest_46 : decode cX4_digest 46 = .ok (.lload_n 1, 1) := by decide +kernel
theorem dX4_digest_47 : decode cX4_digest 47 = .ok (.ldc2_w 130, 3) := by decide +kernel
theorem dX4_digest_50 : decode cX4_digest 50 = .ok (.lmul, 1) := by decide +kernel
theorem dX4_digest_51 : decode cX4_digest 51 = .ok (.aload_n 0, 1) := by decide +kernel
theorem dX4_digest_52 : decode cX4_digest 52 = .ok (.iload_n 3, 1) := by decide +kernel
theorem dX4_digest_53 : decode cX4_digest 53 = .ok (.invokevirtual 101, 3) := by decide +kernel
theorem dX4_digest_56 : decode cX4_digest 56 = .ok (.i2l, 1) := by decide +kernel
theorem dX4_digest_57 : decode cX4_digest 57 = .ok (.ladd, 1) := by decide +kernel
theorem dX4_digest_58 : decode cX4_digest 58 = .ok (.lstore_n 1, 1) := by decide +kernel
theorem dX4_digest_59 : decode cX4_digest 59 = .ok (.iinc 3 1, 3) := by decide +kernel
theorem dX4_digest_62 : decode cX4_digest 62 = .ok (.goto (-24), 3) := by decide +kernel
theorem dX4_digest_65 : decode cX4_digest 65 = .ok (.iconst 0, 1) := by decide +kernel
theorem dX4_digest_66 : decode cX4_digest 66 = .ok (.istore_n 3, 1) := by decide +kernel
theorem dX4_digest_67 : decode cX4_digest 67 = .ok (.iload_n 3, 1) := by decide +kernel
theorem dX4_digest_68 : decode cX4_digest 68 = .ok (.aload_n 0, 1) := by decide +kernel
theorem dX4_digest_69 : decode cX4_digest 69 = .ok (.getfield 29, 3) := by decide +kernel
theorem dX4_digest_72 : decode cX4_digest 72 = .ok (.if_icmp .ge 84, 3) := by decide +kernel
theorem dX4_digest_75 : decode cX4_digest 75 = .ok (.iconst 0, 1) := by decide +kernel
theorem dX4_digest_76 : decode cX4_digest 76 = .ok (.istore 4, 2) := by decide +kernel
theorem dX4_digest_78 : decode cX4_digest 78 = .ok (.iload 4, 2) := by decide +kernel
theorem dX4_digest_80 : decode cX4_digest 80 = .ok (.bipush 9, 2) := by decide +kernel
theorem dX4_digest_82 : decode cX4_digest 82 = .ok (.if_icmp .ge 24, 3) := by decide +kernel
theorem dX4_digest_85 : decode cX4_digest 85 = .ok (.lload_n 1, 1) := by decide +kernel
theorem dX4_digest_86 : decode cX4_digest 86 = .ok (.ldc2_w 130, 3) := by decide +kernel
theorem dX4_digest_89 : decode cX4_digest 89 = .ok (.lmul, 1) := by decide +kernel
theorem dX4_digest_90 : decode cX4_digest 90 = .ok (.aload_n 0, 1) := by decide +kernel
theorem dX4_digest_91 : decode cX4_digest 91 = .ok (.iload_n 3, 1) := by decide +kernel
theorem dX4_digest_92 : decode cX4_digest 92 = .ok (.iload 4, 2) := by decide +kernel
theorem dX4_digest_94 : decode cX4_digest 94 = .ok (.invokevirtual 98, 3) := by decide +kernel
theorem dX4_digest_97 : decode cX4_digest 97 = .ok (.i2l, 1) := by decide +kernel
theorem dX4_digest_98 : decode cX4_digest 98 = .ok (.ladd, 1) := by decide +kernel
theorem dX4_digest_99 : decode cX4_digest 99 = .ok (.lstore_n 1, 1) := by decide +kernel
theorem dX4_digest_100 : decode cX4_digest 100 = .ok (.iinc 4 1, 3) := by decide +kernel
theorem dX4_digest_103 : decode cX4_digest 103 = .ok (.goto (-25), 3) := by decide +kernel
theorem dX4_digest_106 : decode cX4_digest 106 = .ok (.iconst 0, 1) := by decide +kernel
theorem dX4_digest_107 : decode cX4_digest 107 = .ok (.istore 4, 2) := by decide +kernel
theorem dX4_digest_109 : decode cX4_digest 109 = .ok (.iload 4, 2) := by decide +kernel
theorem dX4_digest_111 : decode cX4_digest 111 = .ok (.iconst 4, 1) := by decide +kernel
theorem dX4_digest_112 : decode cX4_digest 112 = .ok (.if_icmp .ge 24, 3) := by decide +kernel
theorem dX4_digest_115 : decode cX4_digest 115 = .ok (.lload_n 1, 1) := by decide +kernel
theorem dX4_digest_116 : decode cX4_digest 116 = .ok (.ldc2_w 130, 3) := by decide +kernel
theorem dX4_digest_119 : decode cX4_digest 119 = .ok (.lmul, 1) := by decide +kernel
theorem dX4_digest_120 : decode cX4_digest 120 = .ok (.aload_n 0, 1) := by decide +kernel
theorem dX4_digest_121 : decode cX4_digest 121 = .ok (.iload_n 3, 1) := by decide +kernel
theorem dX4_digest_122 : decode cX4_digest 122 = .ok (.iload 4, 2) := by decide +kernel
theorem dX4_digest_124 : decode cX4_digest 124 = .ok (.invokevirtual 82, 3) := by decide +kernel
theorem dX4_digest_127 : decode cX4_digest 127 = .ok (.i2l, 1) := by decide +kernel
theorem dX4_digest_128 : decode cX4_digest 128 = .ok (.ladd, 1) := by decide +kernel
theorem dX4_digest_129 : decode cX4_digest 129 = .ok (.lstore_n 1, 1) := by decide +kernel
theorem dX4_digest_130 : decode cX4_digest 130 = .ok (.iinc 4 1, 3) := by decide +kernel
theorem dX4_digest_133 : decode cX4_digest 133 = .ok (.goto (-24), 3) := by decide +kernel
theorem dX4_digest_136 : decode cX4_digest 136 = .ok (.lload_n 1, 1) := by decide +kernel
theorem dX4_digest_137 : decode cX4_digest 137 = .ok (.ldc2_w 130, 3) := by decide +kernel
theorem dX4_digest_140 : decode cX4_digest 140 = .ok (.lmul, 1) := by decide +kernel
theorem dX4_digest_141 : decode cX4_digest 141 = .ok (.aload_n 0, 1) := by decide +kernel
theorem dX4_digest_142 : decode cX4_digest 142 = .ok (.getfield 13, 3) := by decide +kernel
theorem dX4_digest_145 : decode cX4_digest 145 = .ok (.iload_n 3, 1) := by decide +kernel
theorem dX4_digest_146 : decode cX4_digest 146 = .ok (.iaload, 1) := by decide +kernel
theorem dX4_digest_147 : decode cX4_digest 147 = .ok (.i2l, 1) := by decide +kernel
theorem dX4_digest_148 : decode cX4_digest 148 = .ok (.ladd, 1) := by decide +kernel
theorem dX4_digest_149 : decode cX4_digest 149 = .ok (.lstore_n 1, 1) := by decide +kernel
theorem dX4_digest_150 : decode cX4_digest 150 = .ok (.iinc 3 1, 3) := by decide +kernel
theorem dX4_digest_153 : decode cX4_digest 153 = .ok (.goto (-86), 3) := by decide +kernel
theorem dX4_digest_156 : decode cX4_digest 156 = .ok (.lload_n 1, 1) := by decide +kernel
theorem dX4_digest_157 : decode cX4_digest 157 = .ok (.lreturn, 1) := by decide +kernel
theorem dJ6_bitCount_0f7a4_0 : decode cJ6_bitCount_0f7a4 0 = .ok (.iload_n 0, 1) := by decide +kernel
theorem dJ6_bitCount_0f7a4_1 : decode cJ6_bitCount_0f7a4 1 = .ok (.iload_n 0, 1) := by decide +kernel
theorem dJ6_bitCount_0f7a4_2 : decode cJ6_bitCount_0f7a4 2 = .ok (.iconst 1, 1) := by decide +kernel
theorem dJ6_bitCount_0f7a4_3 : decode cJ6_bitCount_0f7a4 3 = .ok (.iushr, 1) := by decide +kernel
theorem dJ6_bitCount_0f7a4_4 : decode cJ6_bitCount_0f7a4 4 = .ok (.ldc_w 265, 3) := by decide +kernel
theorem dJ6_bitCount_0f7a4_7 : decode cJ6_bitCount_0f7a4 7 = .ok (.iand, 1) := by decide +kernel
theorem dJ6_bitCount_0f7a4_8 : decode cJ6_bitCount_0f7a4 8 = .ok (.isub, 1) := by decide +kernel
theorem dJ6_bitCount_0f7a4_9 : decode cJ6_bitCount_0f7a4 9 = .ok (.istore_n 0, 1) := by decide +kernel
theorem dJ6_bitCount_0f7a4_10 : decode cJ6_bitCount_0f7a4 10 = .ok (.iload_n 0, 1) := by decide +kernel
theorem dJ6_bitCount_0f7a4_11 : decode cJ6_bitCount_0f7a4 11 = .ok (.ldc_w 266, 3) := by decide +kernel
theorem dJ6_bitCount_0f7a4_14 : decode cJ6_bitCount_0f7a4 14 = .ok (.iand, 1) := by decide +kernel
theorem dJ6_bitCount_0f7a4_15 : decode cJ6_bitCount_0f7a4 15 = .ok (.iload_n 0, 1) := by decide +kernel
theorem dJ6_bitCount_0f7a4_16 : decode cJ6_bitCount_0f7a4 16 = .ok (.iconst 2, 1) := by decide +kernel
theorem dJ6_bitCount_0f7a4_17 : decode cJ6_bitCount_0f7a4 17 = .ok (.iushr, 1) := by decide +kernel
theorem dJ6_bitCount_0f7a4_18 : decode cJ6_bitCount_0f7a4 18 = .ok (.ldc_w 266, 3) := by decide +kernel
theorem dJ6_bitCount_0f7a4_21 : decode cJ6_bitCount_0f7a4 21 = .ok (.iand, 1) := by decide +kernel
theorem dJ6_bitCount_0f7a4_22 : decode cJ6_bitCount_0f7a4 22 = .ok (.iadd, 1) := by decide +kernel
theorem dJ6_bitCount_0f7a4_23 : decode cJ6_bitCount_0f7a4 23 = .ok (.istore_n 0, 1) := by decide +kernel
theorem dJ6_bitCount_0f7a4_24 : decode cJ6_bitCount_0f7a4 24 = .ok (.iload_n 0, 1) := by decide +kernel
theorem dJ6_bitCount_0f7a4_25 : decode cJ6_bitCount_0f7a4 25 = .ok (.iload_n 0, 1) := by decide +kernel
theorem dJ6_bitCount_0f7a4_26 : decode cJ6_bitCount_0f7a4 26 = .ok (.iconst 4, 1) := by decide +kernel
theorem dJ6_bitCount_0f7a4_27 : decode cJ6_bitCount_0f7a4 27 = .ok (.iushr, 1) := by decide +kernel
theorem dJ6_bitCount_0f7a4_28 : decode cJ6_bitCount_0f7a4 28 = .ok (.iadd, 1) := by decide +kernel
theorem dJ6_bitCount_0f7a4_29 : decode cJ6_bitCount_0f7a4 29 = .ok (.ldc_w 267, 3) := by decide +kernel
theorem dJ6_bitCount_0f7a4_32 : decode cJ6_bitCount_0f7a4 32 = .ok (.iand, 1) := by decide +kernel
theorem dJ6_bitCount_0f7a4_33 : decode cJ6_bitCount_0f7a4 33 = .ok (.istore_n 0, 1) := by decide +kernel
theorem dJ6_bitCount_0f7a4_34 : decode cJ6_bitCount_0f7a4 34 = .ok (.iload_n 0, 1) := by decide +kernel
theorem dJ6_bitCount_0f7a4_35 : decode cJ6_bitCount_0f7a4 35 = .ok (.iload_n 0, 1) := by decide +kernel
theorem dJ6_bitCount_0f7a4_36 : decode cJ6_bitCount_0f7a4 36 = .ok (.bipush 8, 2) := by decide +kernel
theorem dJ6_bitCount_0f7a4_38 : decode cJ6_bitCount_0f7a4 38 = .ok (.iushr, 1) := by decide +kernel
theorem dJ6_bitCount_0f7a4_39 : decode cJ6_bitCount_0f7a4 39 = .ok (.iadd, 1) := by decide +kernel
theorem dJ6_bitCount_0f7a4_40 : decode cJ6_bitCount_0f7a4 40 = .ok (.istore_n 0, 1) := by decide +kernel
theorem dJ6_bitCount_0f7a4_41 : decode cJ6_bitCount_0f7a4 41 = .ok (.iload_n 0, 1) := by decide +kernel
theorem dJ6_bitCount_0f7a4_42 : decode cJ6_bitCount_0f7a4 42 = .ok (.iload_n 0, 1) := by decide +kernel
theorem dJ6_bitCount_0f7a4_43 : decode cJ6_bitCount_0f7a4 43 = .ok (.bipush 16, 2) := by decide +kernel
theorem dJ6_bitCount_0f7a4_45 : decode cJ6_bitCount_0f7a4 45 = .ok (.iushr, 1) := by decide +kernel
theorem dJ6_bitCount_0f7a4_46 : decode cJ6_bitCount_0f7a4 46 = .ok (.iadd, 1) := by decide +kernel
theorem dJ6_bitCount_0f7a4_47 : decode cJ6_bitCount_0f7a4 47 = .ok (.istore_n 0, 1) := by decide +kernel
theorem dJ6_bitCount_0f7a4_48 : decode cJ6_bitCount_0f7a4 48 = .ok (.iload_n 0, 1) := by decide +kernel
theorem dJ6_bitCount_0f7a4_49 : decode cJ6_bitCount_0f7a4 49 = .ok (.bipush 63, 2) := by decide +kernel
theorem dJ6_bitCount_0f7a4_51 : decode cJ6_bitCount_0f7a4 51 = .ok (.iand, 1) := by decide +kernel
theorem dJ6_bitCount_0f7a4_52 : decode cJ6_bitCount_0f7a4 52 = .ok (.ireturn, 1) := by decide +kernel
theorem dJ9_max_7cf53_0 : decode cJ9_max_7cf53 0 = .ok (.iload_n 0, 1) := by decide +kernel
theorem dJ9_max_7cf53_1 : decode cJ9_max_7cf53 1 = .ok (.iload_n 1, 1) := by decide +kernel
theorem dJ9_max_7cf53_2 : decode cJ9_max_7cf53 2 = .ok (.if_icmp .lt 7, 3) := by decide +kernel
theorem dJ9_max_7cf53_5 : decode cJ9_max_7cf53 5 = .ok (.iload_n 0, 1) := by decide +kernel
theorem dJ9_max_7cf53_6 : decode cJ9_max_7cf53 6 = .ok (.goto 4, 3) := by decide +kernel
theorem dJ9_max_7cf53_9 : decode cJ9_max_7cf53 9 = .ok (.iload_n 1, 1) := by decide +kernel
theorem dJ9_max_7cf53_10 : decode cJ9_max_7cf53 10 = .ok (.ireturn, 1) := by decide +kernel
theorem dJ9_min_7cf53_0 : decode cJ9_min_7cf53 0 = .ok (.iload_n 0, 1) := by decide +kernel
theorem dJ9_min_7cf53_1 : decode cJ9_min_7cf53 1 = .ok (.iload_n 1, 1) := by decide +kernel
theorem dJ9_min_7cf53_2 : decode cJ9_min_7cf53 2 = .ok (.if_icmp .gt 7, 3) := by decide +kernel
theorem dJ9_min_7cf53_5 : decode cJ9_min_7cf53 5 = .ok (.iload_n 0, 1) := by decide +kernel
theorem dJ9_min_7cf53_6 : decode cJ9_min_7cf53 6 = .ok (.goto 4, 3) := by decide +kernel
theorem dJ9_min_7cf53_9 : decode cJ9_min_7cf53 9 = .ok (.iload_n 1, 1) := by decide +kernel
theorem dJ9_min_7cf53_10 : decode cJ9_min_7cf53 10 = .ok (.ireturn, 1) := by decide +kernel

theorem dX1_init_0 : decode cX1_init 0 = .ok (.aload_n 0, 1) := by decide +kernel
theorem dX1_init_1 : decode cX1_init 1 = .ok (.invokespecial 1, 3) := by decide +kernel
theorem dX1_init_4 : decode cX1_init 4 = .ok (.aload_n 0, 1) := by decide +kernel
theorem dX1_init_5 : decode cX1_init 5 = .ok (.bipush 96, 2) := by decide +kernel
theorem dX1_init_7 : decode cX1_init 7 = .ok (.newarray .int, 2) := by decide +kernel
theorem dX1_init_9 : decode cX1_init 9 = .ok (.putfield 7, 3) := by decide +kernel
theorem dX1_init_12 : decode cX1_init 12 = .ok (.aload_n 0, 1) := by decide +kernel
theorem dX1_init_13 : decode cX1_init 13 = .ok (.sipush 200, 3) := by decide +kernel
theorem dX1_init_16 : decode cX1_init 16 = .ok (.newarray .int, 2) := by decide +kernel
theorem dX1_init_18 : decode cX1_init 18 = .ok (.putfield 13, 3) := by decide +kernel
theorem dX1_init_21 : decode cX1_init 21 = .ok (.aload_n 0, 1) := by decide +kernel
theorem dX1_init_22 : decode cX1_init 22 = .ok (.bipush 12, 2) := by decide +kernel
theorem dX1_init_24 : decode cX1_init 24 = .ok (.newarray .boolean, 2) := by decide +kernel
theorem dX1_init_26 : decode cX1_init 26 = .ok (.putfield 16, 3) := by decide +kernel
theorem dX1_init_29 : decode cX1_init 29 = .ok (.aload_n 0, 1) := by decide +kernel
theorem dX1_init_30 : decode cX1_init 30 = .ok (.iconst 1, 1) := by decide +kernel
theorem dX1_init_31 : decode cX1_init 31 = .ok (.putfield 20, 3) := by decide +kernel
theorem dX1_init_34 : decode cX1_init 34 = .ok (.return_, 1) := by decide +kernel
theorem dX1_eight_0 : decode cX1_eight 0 = .ok (.iload_n 0, 1) := by decide +kernel
theorem dX1_eight_1 : decode cX1_eight 1 = .ok (.ifCond .lt 13, 3) := by decide +kernel
theorem dX1_eight_4 : decode cX1_eight 4 = .ok (.iload_n 0, 1) := by decide +kernel
theorem dX1_eight_5 : decode cX1_eight 5 = .ok (.bipush 7, 2) := by decide +kernel
theorem dX1_eight_7 : decode cX1_eight 7 = .ok (.if_icmp .gt 7, 3) := by decide +kernel
theorem dX1_eight_10 : decode cX1_eight 10 = .ok (.iconst 1, 1) := by decide +kernel
theorem dX1_eight_11 : decode cX1_eight 11 = .ok (.goto 4, 3) := by decide +kernel
theorem dX1_eight_14 : decode cX1_eight 14 = .ok (.iconst 0, 1) := by decide +kernel
theorem dX1_eight_15 : decode cX1_eight 15 = .ok (.ireturn, 1) := by decide +kernel
theorem dX1_third_0 : decode cX1_third 0 = .ok (.iload_n 0, 1) := by decide +kernel
theorem dX1_third_1 : decode cX1_third 1 = .ok (.ifCond .lt 12, 3) := by decide +kernel
theorem dX1_third_4 : decode cX1_third 4 = .ok (.iload_n 0, 1) := by decide +kernel
theorem dX1_third_5 : decode cX1_third 5 = .ok (.iconst 2, 1) := by decide +kernel
theorem dX1_third_6 : decode cX1_third 6 = .ok (.if_icmp .gt 7, 3) := by decide +kernel
theorem dX1_third_9 : decode cX1_third 9 = .ok (.iconst 1, 1) := by decide +kernel
theorem dX1_third_10 : decode cX1_third 10 = .ok (.goto 4, 3) := by decide +kernel
theorem dX1_third_13 : decode cX1_third 13 = .ok (.iconst 0, 1) := by decide +kernel
theorem dX1_third_14 : decode cX1_third 14 = .ok (.ireturn, 1) := by decide +kernel
theorem dX1_object_0 : decode cX1_object 0 = .ok (.iload_n 0, 1) := by decide +kernel
theorem dX1_object_1 : decode cX1_object 1 = .ok (.ifCond .ne 8, 3) := by decide +kernel
theorem dX1_object_4 : decode cX1_object 4 = .ok (.bipush 12, 2) := by decide +kernel
theorem dX1_object_6 : decode cX1_object 6 = .ok (.goto 8, 3) := by decide +kernel
theorem dX1_object_9 : decode cX1_object 9 = .ok (.iload_n 0, 1) := by decide +kernel
theorem dX1_object_10 : decode cX1_object 10 = .ok (.iconst 1, 1) := by decide +kernel
theorem dX1_object_11 : decode cX1_object 11 = .ok (.isub, 1) := by decide +kernel
theorem dX1_object_12 : decode cX1_object 12 = .ok (.iconst 4, 1) := by decide +kernel
theorem dX1_object_13 : decode cX1_object 13 = .ok (.idiv, 1) := by decide +kernel
theorem dX1_object_14 : decode cX1_object 14 = .ok (.ireturn, 1) := by decide +kernel
theorem dX1_limits_0 : decode cX1_limits 0 = .ok (.iload_n 0, 1) := by decide +kernel
theorem dX1_limits_1 : decode cX1_limits 1 = .ok (.iconst 1, 1) := by decide +kernel
theorem dX1_limits_2 : decode cX1_limits 2 = .ok (.isub, 1) := by decide +kernel
theorem dX1_limits_3 : decode cX1_limits 3 = .ok (.iconst 4, 1) := by decide +kernel
theorem dX1_limits_4 : decode cX1_limits 4 = .ok (.irem, 1) := by decide +kernel
theorem dX1_limits_5 : decode cX1_limits 5 = .ok (.ireturn, 1) := by decide +kernel
set_option maxRecDepth 20000 in
theorem ggX1_limited_X1_limits : GoodIn wsX1_limited wsX1_limits := goodIn_r _ [4] (by decide +kernel) (by decide +kernel)
set_option maxRecDepth 20000 in
theorem gX1_limited_X1_limits : GoodIn wsX1_limited (va_wsS RX1 24 yX1_limits wsX1_limits) := goodIn_app (goodIn_of _ (by decide +kernel)) ggX1_limited_X1_limits
theorem dX1_limited_0 : decode cX1_limited 0 = .ok (.iload_n 0, 1) := by decide +kernel
theorem dX1_limited_1 : decode cX1_limited 1 = .ok (.ifCond .ne 7, 3) := by decide +kernel
theorem dX1_limited_4 : decode cX1_limited 4 = .ok (.iconst 0, 1) := by decide +kernel
theorem dX1_limited_5 : decode cX1_limited 5 = .ok (.goto 16, 3) := by decide +kernel
theorem dX1_limited_8 : decode cX1_limited 8 = .ok (.iload_n 0, 1) := by decide +kernel
theorem dX1_limited_9 : decode cX1_limited 9 = .ok (.iload_n 0, 1) := by decide +kernel
theorem dX1_limited_10 : decode cX1_limited 10 = .ok (.invokestatic 24, 3) := by decide +kernel
theorem dX1_limited_13 : decode cX1_limited 13 = .ok (.isub, 1) := by decide +kernel
theorem dX1_limited_14 : decode cX1_limited 14 = .ok (.iload_n 0, 1) := by decide +kernel
theorem dX1_limited_15 : decode cX1_limited 15 = .ok (.invokestatic 24, 3) := by decide +kernel
theorem dX1_limited_18 : decode cX1_limited 18 = .ok (.iload_n 1, 1) := by decide +kernel
theorem dX1_limited_19 : decode cX1_limited 19 = .ok (.ior, 1) := by decide +kernel
theorem dX1_limited_20 : decode cX1_limited 20 = .ok (.iadd, 1) := by decide +kernel
theorem dX1_limited_21 : decode cX1_limited 21 = .ok (.ireturn, 1) := by decide +kernel
theorem dX1_put_0 : decode cX1_put 0 = .ok (.aload_n 0, 1) := by decide +kernel
theorem dX1_put_1 : decode cX1_put 1 = .ok (.getfield 7, 3) := by decide +kernel
theorem dX1_put_4 : decode cX1_put 4 = .ok (.bipush 8, 2) := by decide +kernel
theorem dX1_put_6 : decode cX1_put 6 = .ok (.iload_n 1, 1) := by decide +kernel
theorem dX1_put_7 : decode cX1_put 7 = .ok (.imul, 1) := by decide +kernel
theorem dX1_put_8 : decode cX1_put 8 = .ok (.iload_n 2, 1) := by decide +kernel
theorem dX1_put_9 : decode cX1_put 9 = .ok (.iadd, 1) := by decide +kernel
theorem dX1_put_10 : decode cX1_put 10 = .ok (.iload_n 3, 1) := by decide +kernel
theorem dX1_put_11 : decode cX1_put 11 = .ok (.iastore, 1) := by decide +kernel
theorem dX1_put_12 : decode cX1_put 12 = .ok (.aload_n 0, 1) := by decide +kernel
theorem dX1_put_13 : decode cX1_put 13 = .ok (.getfield 16, 3) := by decide +kernel
theorem dX1_put_16 : decode cX1_put 16 = .ok (.iload_n 1, 1) := by decide +kernel
theorem dX1_put_17 : decode cX1_put 17 = .ok (.iconst 1, 1) := by decide +kernel
theorem dX1_put_18 : decode cX1_put 18 = .ok (.bastore, 1) := by decide +kernel
theorem dX1_put_19 : decode cX1_put 19 = .ok (.return_, 1) := by decide +kernel
set_option maxRecDepth 20000 in
theorem ggX1_place_X1_eight : GoodIn wsX1_place wsX1_eight := goodIn_r _ [5] (by decide +kernel) (by decide +kernel)
set_option maxRecDepth 20000 in
theorem gX1_place_X1_eight : GoodIn wsX1_place (va_wsS RX1 31 yX1_eight wsX1_eight) := goodIn_app (goodIn_of _ (by decide +kernel)) ggX1_place_X1_eight
set_option maxRecDepth 20000 in
theorem ggX1_place_X1_put : GoodIn wsX1_place wsX1_put := goodIn_r _ [9, 10, 11, 12, 13, 14, 15, 16, 17, 18, 19] (by decide +kernel) (by decide +kernel)
set_option maxRecDepth 20000 in
theorem gX1_place_X1_put : GoodIn wsX1_place (wsV RX1 35 RX1 yX1_put wsX1_put) := goodIn_app (goodIn_of _ (by decide +kernel)) ggX1_place_X1_put
theorem dX1_place_0 : decode cX1_place 0 = .ok (.aload_n 0, 1) := by decide +kernel
theorem dX1_place_1 : decode cX1_place 1 = .ok (.getfield 28, 3) := by decide +kernel
theorem dX1_place_4 : decode cX1_place 4 = .ok (.ifCond .eq 5, 3) := by decide +kernel
theorem dX1_place_7 : decode cX1_place 7 = .ok (.iconst (-1), 1) := by decide +kernel
theorem dX1_place_8 : decode cX1_place 8 = .ok (.ireturn, 1) := by decide +kernel
theorem dX1_place_9 : decode cX1_place 9 = .ok (.iload_n 1, 1) := by decide +kernel
theorem dX1_place_10 : decode cX1_place 10 = .ok (.invokestatic 31, 3) := by decide +kernel
theorem dX1_place_13 : decode cX1_place 13 = .ok (.ifCond .eq 20, 3) := by decide +kernel
theorem dX1_place_16 : decode cX1_place 16 = .ok (.iload_n 2, 1) := by decide +kernel
theorem dX1_place_17 : decode cX1_place 17 = .ok (.invokestatic 31, 3) := by decide +kernel
theorem dX1_place_20 : decode cX1_place 20 = .ok (.ifCond .eq 13, 3) := by decide +kernel
theorem dX1_place_23 : decode cX1_place 23 = .ok (.iload_n 3, 1) := by decide +kernel
theorem dX1_place_24 : decode cX1_place 24 = .ok (.ifCond .lt 9, 3) := by decide +kernel
theorem dX1_place_27 : decode cX1_place 27 = .ok (.iload_n 3, 1) := by decide +kernel
theorem dX1_place_28 : decode cX1_place 28 = .ok (.bipush 48, 2) := by decide +kernel
theorem dX1_place_30 : decode cX1_place 30 = .ok (.if_icmp .le 6, 3) := by decide +kernel
theorem dX1_place_33 : decode cX1_place 33 = .ok (.bipush (-2), 2) := by decide +kernel
theorem dX1_place_35 : decode cX1_place 35 = .ok (.ireturn, 1) := by decide +kernel
theorem dX1_place_36 : decode cX1_place 36 = .ok (.aload_n 0, 1) := by decide +kernel
theorem dX1_place_37 : decode cX1_place 37 = .ok (.iload_n 1, 1) := by decide +kernel
theorem dX1_place_38 : decode cX1_place 38 = .ok (.iload_n 2, 1) := by decide +kernel
theorem dX1_place_39 : decode cX1_place 39 = .ok (.iload_n 3, 1) := by decide +kernel
theorem dX1_place_40 : decode cX1_place 40 = .ok (.invokevirtual 35, 3) := by decide +kernel
theorem dX1_place_43 : decode cX1_place 43 = .ok (.iconst 0, 1) := by decide +kernel
theorem dX1_place_44 : decode cX1_place 44 = .ok (.ireturn, 1) := by decide +kernel
set_option maxRecDepth 20000 in
theorem ggX1_refusal_X1_third : GoodIn wsX1_refusal wsX1_third := goodIn_r _ [6] (by decide +kernel) (by decide +kernel)
set_option maxRecDepth 20000 in
theorem gX1_refusal_X1_third : GoodIn wsX1_refusal (va_wsS RX1 39 yX1_third wsX1_third) := goodIn_app (goodIn_of _ (by decide +kernel)) ggX1_refusal_X1_third
set_option maxRecDepth 20000 in
theorem ggX1_refusal_X1_eight : GoodIn wsX1_refusal wsX1_eight := goodIn_r _ [9] (by decide +kernel) (by decide +kernel)
set_option maxRecDepth 20000 in
theorem gX1_refusal_X1_eight : GoodIn wsX1_refusal (va_wsS RX1 31 yX1_eight wsX1_eight) := goodIn_app (goodIn_of _ (by decide +kernel)) ggX1_refusal_X1_eight
set_option maxRecDepth 20000 in
theorem ggX1_refusal_X1_object : GoodIn wsX1_refusal wsX1_object := goodIn_r _ [12] (by decide +kernel) (by decide +kernel)
set_option maxRecDepth 20000 in
theorem gX1_refusal_X1_object : GoodIn wsX1_refusal (va_wsS RX1 42 yX1_object wsX1_object) := goodIn_app (goodIn_of _ (by decide +kernel)) ggX1_refusal_X1_object
set_option maxRecDepth 20000 in
theorem ggX1_refusal_X1_limits : GoodIn wsX1_refusal wsX1_limits := goodIn_r _ [15] (by decide +kernel) (by decide +kernel)
set_option maxRecDepth 20000 in
theorem gX1_refusal_X1_limits : GoodIn wsX1_refusal (va_wsS RX1 24 yX1_limits wsX1_limits) := goodIn_app (goodIn_of _ (by decide +kernel)) ggX1_refusal_X1_limits
theorem dX1_refusal_0 : decode cX1_refusal 0 = .ok (.aload_n 0, 1) := by decide +kernel
theorem dX1_refusal_1 : decode cX1_refusal 1 = .ok (.getfield 28, 3) := by decide +kernel
theorem dX1_refusal_4 : decode cX1_refusal 4 = .ok (.ifCond .eq 5, 3) := by decide +kernel
theorem dX1_refusal_7 : decode cX1_refusal 7 = .ok (.iconst (-1), 1) := by decide +kernel
theorem dX1_refusal_8 : decode cX1_refusal 8 = .ok (.ireturn, 1) := by decide +kernel
theorem dX1_refusal_9 : decode cX1_refusal 9 = .ok (.iload_n 1, 1) := by decide +kernel
theorem dX1_refusal_10 : decode cX1_refusal 10 = .ok (.invokestatic 39, 3) := by decide +kernel
theorem dX1_refusal_13 : decode cX1_refusal 13 = .ok (.ifCond .eq 17, 3) := by decide +kernel
theorem dX1_refusal_16 : decode cX1_refusal 16 = .ok (.iload_n 2, 1) := by decide +kernel
theorem dX1_refusal_17 : decode cX1_refusal 17 = .ok (.invokestatic 31, 3) := by decide +kernel
theorem dX1_refusal_20 : decode cX1_refusal 20 = .ok (.ifCond .eq 10, 3) := by decide +kernel
theorem dX1_refusal_23 : decode cX1_refusal 23 = .ok (.iload_n 3, 1) := by decide +kernel
theorem dX1_refusal_24 : decode cX1_refusal 24 = .ok (.invokestatic 31, 3) := by decide +kernel
theorem dX1_refusal_27 : decode cX1_refusal 27 = .ok (.ifCond .ne 6, 3) := by decide +kernel
theorem dX1_refusal_30 : decode cX1_refusal 30 = .ok (.bipush (-2), 2) := by decide +kernel
theorem dX1_refusal_32 : decode cX1_refusal 32 = .ok (.ireturn, 1) := by decide +kernel
theorem dX1_refusal_33 : decode cX1_refusal 33 = .ok (.aload_n 0, 1) := by decide +kernel
theorem dX1_refusal_34 : decode cX1_refusal 34 = .ok (.getfield 7, 3) := by decide +kernel
theorem dX1_refusal_37 : decode cX1_refusal 37 = .ok (.bipush 8, 2) := by decide +kernel
theorem dX1_refusal_39 : decode cX1_refusal 39 = .ok (.iload_n 1, 1) := by decide +kernel
theorem dX1_refusal_40 : decode cX1_refusal 40 = .ok (.imul, 1) := by decide +kernel
theorem dX1_refusal_41 : decode cX1_refusal 41 = .ok (.iload_n 2, 1) := by decide +kernel
theorem dX1_refusal_42 : decode cX1_refusal 42 = .ok (.iadd, 1) := by decide +kernel
theorem dX1_refusal_43 : decode cX1_refusal 43 = .ok (.iaload, 1) := by decide +kernel
theorem dX1_refusal_44 : decode cX1_refusal 44 = .ok (.istore 6, 2) := by decide +kernel
theorem dX1_refusal_46 : decode cX1_refusal 46 = .ok (.iload 6, 2) := by decide +kernel
theorem dX1_refusal_48 : decode cX1_refusal 48 = .ok (.invokestatic 42, 3) := by decide +kernel
theorem dX1_refusal_51 : decode cX1_refusal 51 = .ok (.istore 7, 2) := by decide +kernel
theorem dX1_refusal_53 : decode cX1_refusal 53 = .ok (.iload 7, 2) := by decide +kernel
theorem dX1_refusal_55 : decode cX1_refusal 55 = .ok (.bipush 12, 2) := by decide +kernel
theorem dX1_refusal_57 : decode cX1_refusal 57 = .ok (.if_icmp .eq 20, 3) := by decide +kernel
theorem dX1_refusal_60 : decode cX1_refusal 60 = .ok (.iload 4, 2) := by decide +kernel
theorem dX1_refusal_62 : decode cX1_refusal 62 = .ok (.iload 7, 2) := by decide +kernel
theorem dX1_refusal_64 : decode cX1_refusal 64 = .ok (.bipush 7, 2) := by decide +kernel
theorem dX1_refusal_66 : decode cX1_refusal 66 = .ok (.if_icmp .le 7, 3) := by decide +kernel
theorem dX1_refusal_69 : decode cX1_refusal 69 = .ok (.iconst 1, 1) := by decide +kernel
theorem dX1_refusal_70 : decode cX1_refusal 70 = .ok (.goto 4, 3) := by decide +kernel
theorem dX1_refusal_73 : decode cX1_refusal 73 = .ok (.iconst 0, 1) := by decide +kernel
theorem dX1_refusal_74 : decode cX1_refusal 74 = .ok (.if_icmp .eq 6, 3) := by decide +kernel
theorem dX1_refusal_77 : decode cX1_refusal 77 = .ok (.bipush (-3), 2) := by decide +kernel
theorem dX1_refusal_79 : decode cX1_refusal 79 = .ok (.ireturn, 1) := by decide +kernel
theorem dX1_refusal_80 : decode cX1_refusal 80 = .ok (.iload 5, 2) := by decide +kernel
theorem dX1_refusal_82 : decode cX1_refusal 82 = .ok (.ifCond .eq 16, 3) := by decide +kernel
theorem dX1_refusal_85 : decode cX1_refusal 85 = .ok (.iload 6, 2) := by decide +kernel
theorem dX1_refusal_87 : decode cX1_refusal 87 = .ok (.invokestatic 24, 3) := by decide +kernel
theorem dX1_refusal_90 : decode cX1_refusal 90 = .ok (.ifCond .eq 8, 3) := by decide +kernel
theorem dX1_refusal_93 : decode cX1_refusal 93 = .ok (.bipush (-4), 2) := by decide +kernel
theorem dX1_refusal_95 : decode cX1_refusal 95 = .ok (.goto 4, 3) := by decide +kernel
theorem dX1_refusal_98 : decode cX1_refusal 98 = .ok (.iconst 0, 1) := by decide +kernel
theorem dX1_refusal_99 : decode cX1_refusal 99 = .ok (.ireturn, 1) := by decide +kernel
set_option maxRecDepth 20000 in
theorem ggX1_fetch_X1_refusal : GoodIn wsX1_fetch wsX1_refusal := goodIn_r _ [6, 7, 1, 8, 9, 5, 10, 11, 12, 13, 14, 15, 16, 17, 18, 19, 28, 29, 30, 31, 32, 33, 34, 35] (by decide +kernel) (by decide +kernel)
set_option maxRecDepth 20000 in
theorem gX1_fetch_X1_refusal : GoodIn wsX1_fetch (wsV RX1 45 RX1 yX1_refusal wsX1_refusal) := goodIn_app (goodIn_of _ (by decide +kernel)) ggX1_fetch_X1_refusal
set_option maxRecDepth 20000 in
theorem ggX1_fetch_X1_eight : GoodIn wsX1_fetch wsX1_eight := goodIn_r _ [13] (by decide +kernel) (by decide +kernel)
set_option maxRecDepth 20000 in
theorem gX1_fetch_X1_eight : GoodIn wsX1_fetch (va_wsS RX1 31 yX1_eight wsX1_eight) := goodIn_app (goodIn_of _ (by decide +kernel)) ggX1_fetch_X1_eight
set_option maxRecDepth 20000 in
theorem ggX1_fetch_X1_object : GoodIn wsX1_fetch wsX1_object := goodIn_r _ [16] (by decide +kernel) (by decide +kernel)
set_option maxRecDepth 20000 in
theorem gX1_fetch_X1_object : GoodIn wsX1_fetch (va_wsS RX1 42 yX1_object wsX1_object) := goodIn_app (goodIn_of _ (by decide +kernel)) ggX1_fetch_X1_object
set_option maxRecDepth 20000 in
theorem ggX1_fetch_X1_limits : GoodIn wsX1_fetch wsX1_limits := goodIn_r _ [19] (by decide +kernel) (by decide +kernel)
set_option maxRecDepth 20000 in
theorem gX1_fetch_X1_limits : GoodIn wsX1_fetch (va_wsS RX1 24 yX1_limits wsX1_limits) := goodIn_app (goodIn_of _ (by decide +kernel)) ggX1_fetch_X1_limits
set_option maxRecDepth 20000 in
theorem ggX1_fetch_X1_limited : GoodIn wsX1_fetch wsX1_limited := goodIn_r _ [22, 17, 18, 5, 19] (by decide +kernel) (by decide +kernel)
set_option maxRecDepth 20000 in
theorem gX1_fetch_X1_limited : GoodIn wsX1_fetch (va_wsS RX1 49 yX1_limited wsX1_limited) := goodIn_app (goodIn_of _ (by decide +kernel)) ggX1_fetch_X1_limited
set_option maxRecDepth 20000 in
theorem ggX1_fetch_X1_put : GoodIn wsX1_fetch wsX1_put := goodIn_r _ [26, 1, 27, 28, 29, 30, 31, 32, 33, 34, 35] (by decide +kernel) (by decide +kernel)
set_option maxRecDepth 20000 in
theorem gX1_fetch_X1_put : GoodIn wsX1_fetch (wsV RX1 35 RX1 yX1_put wsX1_put) := goodIn_app (goodIn_of _ (by decide +kernel)) ggX1_fetch_X1_put
theorem dX1_fetch_0 : decode cX1_fetch 0 = .ok (.aload_n 0, 1) := by decide +kernel
theorem dX1_fetch_1 : decode cX1_fetch 1 = .ok (.iload_n 1, 1) := by decide +kernel
theorem dX1_fetch_2 : decode cX1_fetch 2 = .ok (.iload_n 2, 1) := by decide +kernel
theorem dX1_fetch_3 : decode cX1_fetch 3 = .ok (.iload_n 3, 1) := by decide +kernel
theorem dX1_fetch_4 : decode cX1_fetch 4 = .ok (.iconst 0, 1) := by decide +kernel
theorem dX1_fetch_5 : decode cX1_fetch 5 = .ok (.iconst 0, 1) := by decide +kernel
theorem dX1_fetch_6 : decode cX1_fetch 6 = .ok (.invokevirtual 45, 3) := by decide +kernel
theorem dX1_fetch_9 : decode cX1_fetch 9 = .ok (.istore 5, 2) := by decide +kernel
theorem dX1_fetch_11 : decode cX1_fetch 11 = .ok (.iload 5, 2) := by decide +kernel
theorem dX1_fetch_13 : decode cX1_fetch 13 = .ok (.iconst (-1), 1) := by decide +kernel
theorem dX1_fetch_14 : decode cX1_fetch 14 = .ok (.if_icmp .eq 15, 3) := by decide +kernel
theorem dX1_fetch_17 : decode cX1_fetch 17 = .ok (.iload 4, 2) := by decide +kernel
theorem dX1_fetch_19 : decode cX1_fetch 19 = .ok (.invokestatic 31, 3) := by decide +kernel
theorem dX1_fetch_22 : decode cX1_fetch 22 = .ok (.ifCond .ne 7, 3) := by decide +kernel
theorem dX1_fetch_25 : decode cX1_fetch 25 = .ok (.bipush (-2), 2) := by decide +kernel
theorem dX1_fetch_27 : decode cX1_fetch 27 = .ok (.istore 5, 2) := by decide +kernel
theorem dX1_fetch_29 : decode cX1_fetch 29 = .ok (.iload 5, 2) := by decide +kernel
theorem dX1_fetch_31 : decode cX1_fetch 31 = .ok (.ifCond .eq 6, 3) := by decide +kernel
theorem dX1_fetch_34 : decode cX1_fetch 34 = .ok (.iload 5, 2) := by decide +kernel
theorem dX1_fetch_36 : decode cX1_fetch 36 = .ok (.ireturn, 1) := by decide +kernel
theorem dX1_fetch_37 : decode cX1_fetch 37 = .ok (.aload_n 0, 1) := by decide +kernel
theorem dX1_fetch_38 : decode cX1_fetch 38 = .ok (.getfield 7, 3) := by decide +kernel
theorem dX1_fetch_41 : decode cX1_fetch 41 = .ok (.bipush 8, 2) := by decide +kernel
theorem dX1_fetch_43 : decode cX1_fetch 43 = .ok (.iload_n 1, 1) := by decide +kernel
theorem dX1_fetch_44 : decode cX1_fetch 44 = .ok (.imul, 1) := by decide +kernel
theorem dX1_fetch_45 : decode cX1_fetch 45 = .ok (.iload_n 2, 1) := by decide +kernel
theorem dX1_fetch_46 : decode cX1_fetch 46 = .ok (.iadd, 1) := by decide +kernel
theorem dX1_fetch_47 : decode cX1_fetch 47 = .ok (.iaload, 1) := by decide +kernel
theorem dX1_fetch_48 : decode cX1_fetch 48 = .ok (.istore 6, 2) := by decide +kernel
theorem dX1_fetch_50 : decode cX1_fetch 50 = .ok (.aload_n 0, 1) := by decide +kernel
theorem dX1_fetch_51 : decode cX1_fetch 51 = .ok (.getfield 7, 3) := by decide +kernel
theorem dX1_fetch_54 : decode cX1_fetch 54 = .ok (.bipush 8, 2) := by decide +kernel
theorem dX1_fetch_56 : decode cX1_fetch 56 = .ok (.iload 6, 2) := by decide +kernel
theorem dX1_fetch_58 : decode cX1_fetch 58 = .ok (.invokestatic 42, 3) := by decide +kernel
theorem dX1_fetch_61 : decode cX1_fetch 61 = .ok (.imul, 1) := by decide +kernel
theorem dX1_fetch_62 : decode cX1_fetch 62 = .ok (.iload_n 3, 1) := by decide +kernel
theorem dX1_fetch_63 : decode cX1_fetch 63 = .ok (.iadd, 1) := by decide +kernel
theorem dX1_fetch_64 : decode cX1_fetch 64 = .ok (.iaload, 1) := by decide +kernel
theorem dX1_fetch_65 : decode cX1_fetch 65 = .ok (.istore 7, 2) := by decide +kernel
theorem dX1_fetch_67 : decode cX1_fetch 67 = .ok (.aload_n 0, 1) := by decide +kernel
theorem dX1_fetch_68 : decode cX1_fetch 68 = .ok (.iload_n 1, 1) := by decide +kernel
theorem dX1_fetch_69 : decode cX1_fetch 69 = .ok (.iload 4, 2) := by decide +kernel
theorem dX1_fetch_71 : decode cX1_fetch 71 = .ok (.iload 6, 2) := by decide +kernel
theorem dX1_fetch_73 : decode cX1_fetch 73 = .ok (.invokestatic 24, 3) := by decide +kernel
theorem dX1_fetch_76 : decode cX1_fetch 76 = .ok (.iconst 2, 1) := by decide +kernel
theorem dX1_fetch_77 : decode cX1_fetch 77 = .ok (.if_icmp .lt 12, 3) := by decide +kernel
theorem dX1_fetch_80 : decode cX1_fetch 80 = .ok (.iload 7, 2) := by decide +kernel
theorem dX1_fetch_82 : decode cX1_fetch 82 = .ok (.iconst 3, 1) := by decide +kernel
theorem dX1_fetch_83 : decode cX1_fetch 83 = .ok (.invokestatic 49, 3) := by decide +kernel
theorem dX1_fetch_86 : decode cX1_fetch 86 = .ok (.goto 5, 3) := by decide +kernel
theorem dX1_fetch_89 : decode cX1_fetch 89 = .ok (.iload 7, 2) := by decide +kernel
theorem dX1_fetch_91 : decode cX1_fetch 91 = .ok (.invokevirtual 35, 3) := by decide +kernel
theorem dX1_fetch_94 : decode cX1_fetch 94 = .ok (.iconst 0, 1) := by decide +kernel
theorem dX1_fetch_95 : decode cX1_fetch 95 = .ok (.ireturn, 1) := by decide +kernel
set_option maxRecDepth 20000 in
theorem ggX1_store_X1_refusal : GoodIn wsX1_store wsX1_refusal := goodIn_r _ [6, 7, 1, 8, 9, 5, 10, 11, 12, 13, 14, 15, 16, 17, 18, 19, 25, 26, 27, 28, 29, 30, 31, 32] (by decide +kernel) (by decide +kernel)
set_option maxRecDepth 20000 in
theorem gX1_store_X1_refusal : GoodIn wsX1_store (wsV RX1 45 RX1 yX1_refusal wsX1_refusal) := goodIn_app (goodIn_of _ (by decide +kernel)) ggX1_store_X1_refusal
set_option maxRecDepth 20000 in
theorem ggX1_store_X1_eight : GoodIn wsX1_store wsX1_eight := goodIn_r _ [13] (by decide +kernel) (by decide +kernel)
set_option maxRecDepth 20000 in
theorem gX1_store_X1_eight : GoodIn wsX1_store (va_wsS RX1 31 yX1_eight wsX1_eight) := goodIn_app (goodIn_of _ (by decide +kernel)) ggX1_store_X1_eight
set_option maxRecDepth 20000 in
theorem ggX1_store_X1_object : GoodIn wsX1_store wsX1_object := goodIn_r _ [16] (by decide +kernel) (by decide +kernel)
set_option maxRecDepth 20000 in
theorem gX1_store_X1_object : GoodIn wsX1_store (va_wsS RX1 42 yX1_object wsX1_object) := goodIn_app (goodIn_of _ (by decide +kernel)) ggX1_store_X1_object
set_option maxRecDepth 20000 in
theorem ggX1_store_X1_put : GoodIn wsX1_store wsX1_put := goodIn_r _ [23, 1, 24, 25, 26, 27, 28, 29, 30, 31, 32] (by decide +kernel) (by decide +kernel)
set_option maxRecDepth 20000 in
theorem gX1_store_X1_put : GoodIn wsX1_store (wsV RX1 35 RX1 yX1_put wsX1_put) := goodIn_app (goodIn_of _ (by decide +kernel)) ggX1_store_X1_put
theorem dX1_store_0 : decode cX1_store 0 = .ok (.aload_n 0, 1) := by decide +kernel
theorem dX1_store_1 : decode cX1_store 1 = .ok (.iload_n 1, 1) := by decide +kernel
theorem dX1_store_2 : decode cX1_store 2 = .ok (.iload_n 2, 1) := by decide +kernel
theorem dX1_store_3 : decode cX1_store 3 = .ok (.iload_n 3, 1) := by decide +kernel
theorem dX1_store_4 : decode cX1_store 4 = .ok (.iconst 0, 1) := by decide +kernel
theorem dX1_store_5 : decode cX1_store 5 = .ok (.iconst 1, 1) := by decide +kernel
theorem dX1_store_6 : decode cX1_store 6 = .ok (.invokevirtual 45, 3) := by decide +kernel
theorem dX1_store_9 : decode cX1_store 9 = .ok (.istore 5, 2) := by decide +kernel
theorem dX1_store_11 : decode cX1_store 11 = .ok (.iload 5, 2) := by decide +kernel
theorem dX1_store_13 : decode cX1_store 13 = .ok (.iconst (-1), 1) := by decide +kernel
theorem dX1_store_14 : decode cX1_store 14 = .ok (.if_icmp .eq 15, 3) := by decide +kernel
theorem dX1_store_17 : decode cX1_store 17 = .ok (.iload 4, 2) := by decide +kernel
theorem dX1_store_19 : decode cX1_store 19 = .ok (.invokestatic 31, 3) := by decide +kernel
theorem dX1_store_22 : decode cX1_store 22 = .ok (.ifCond .ne 7, 3) := by decide +kernel
theorem dX1_store_25 : decode cX1_store 25 = .ok (.bipush (-2), 2) := by decide +kernel
theorem dX1_store_27 : decode cX1_store 27 = .ok (.istore 5, 2) := by decide +kernel
theorem dX1_store_29 : decode cX1_store 29 = .ok (.iload 5, 2) := by decide +kernel
theorem dX1_store_31 : decode cX1_store 31 = .ok (.ifCond .eq 6, 3) := by decide +kernel
theorem dX1_store_34 : decode cX1_store 34 = .ok (.iload 5, 2) := by decide +kernel
theorem dX1_store_36 : decode cX1_store 36 = .ok (.ireturn, 1) := by decide +kernel
theorem dX1_store_37 : decode cX1_store 37 = .ok (.aload_n 0, 1) := by decide +kernel
theorem dX1_store_38 : decode cX1_store 38 = .ok (.aload_n 0, 1) := by decide +kernel
theorem dX1_store_39 : decode cX1_store 39 = .ok (.getfield 7, 3) := by decide +kernel
theorem dX1_store_42 : decode cX1_store 42 = .ok (.bipush 8, 2) := by decide +kernel
theorem dX1_store_44 : decode cX1_store 44 = .ok (.iload_n 1, 1) := by decide +kernel
theorem dX1_store_45 : decode cX1_store 45 = .ok (.imul, 1) := by decide +kernel
theorem dX1_store_46 : decode cX1_store 46 = .ok (.iload_n 2, 1) := by decide +kernel
theorem dX1_store_47 : decode cX1_store 47 = .ok (.iadd, 1) := by decide +kernel
theorem dX1_store_48 : decode cX1_store 48 = .ok (.iaload, 1) := by decide +kernel
theorem dX1_store_49 : decode cX1_store 49 = .ok (.invokestatic 42, 3) := by decide +kernel
theorem dX1_store_52 : decode cX1_store 52 = .ok (.iload_n 3, 1) := by decide +kernel
theorem dX1_store_53 : decode cX1_store 53 = .ok (.aload_n 0, 1) := by decide +kernel
theorem dX1_store_54 : decode cX1_store 54 = .ok (.getfield 7, 3) := by decide +kernel
theorem dX1_store_57 : decode cX1_store 57 = .ok (.bipush 8, 2) := by decide +kernel
theorem dX1_store_59 : decode cX1_store 59 = .ok (.iload_n 1, 1) := by decide +kernel
theorem dX1_store_60 : decode cX1_store 60 = .ok (.imul, 1) := by decide +kernel
theorem dX1_store_61 : decode cX1_store 61 = .ok (.iload 4, 2) := by decide +kernel
theorem dX1_store_63 : decode cX1_store 63 = .ok (.iadd, 1) := by decide +kernel
theorem dX1_store_64 : decode cX1_store 64 = .ok (.iaload, 1) := by decide +kernel
theorem dX1_store_65 : decode cX1_store 65 = .ok (.invokevirtual 35, 3) := by decide +kernel
theorem dX1_store_68 : decode cX1_store 68 = .ok (.iconst 0, 1) := by decide +kernel
theorem dX1_store_69 : decode cX1_store 69 = .ok (.ireturn, 1) := by decide +kernel
set_option maxRecDepth 20000 in
theorem ggX1_read_X1_refusal : GoodIn wsX1_read wsX1_refusal := goodIn_r _ [7, 8, 2, 9, 10, 6, 11, 12, 13, 14, 15, 16, 17, 18, 19, 20, 21, 22, 23, 24, 25, 26, 27, 28] (by decide +kernel) (by decide +kernel)
set_option maxRecDepth 20000 in
theorem gX1_read_X1_refusal : GoodIn wsX1_read (wsV RX1 45 RX1 yX1_refusal wsX1_refusal) := goodIn_app (goodIn_of _ (by decide +kernel)) ggX1_read_X1_refusal
set_option maxRecDepth 20000 in
theorem ggX1_read_X1_object : GoodIn wsX1_read wsX1_object := goodIn_r _ [17] (by decide +kernel) (by decide +kernel)
set_option maxRecDepth 20000 in
theorem gX1_read_X1_object : GoodIn wsX1_read (va_wsS RX1 42 yX1_object wsX1_object) := goodIn_app (goodIn_of _ (by decide +kernel)) ggX1_read_X1_object
theorem dX1_read_0 : decode cX1_read 0 = .ok (.aload_n 0, 1) := by decide +kernel
theorem dX1_read_1 : decode cX1_read 1 = .ok (.iload_n 1, 1) := by decide +kernel
theorem dX1_read_2 : decode cX1_read 2 = .ok (.iload_n 2, 1) := by decide +kernel
theorem dX1_read_3 : decode cX1_read 3 = .ok (.iload_n 3, 1) := by decide +kernel
theorem dX1_read_4 : decode cX1_read 4 = .ok (.iconst 1, 1) := by decide +kernel
theorem dX1_read_5 : decode cX1_read 5 = .ok (.iconst 0, 1) := by decide +kernel
theorem dX1_read_6 : decode cX1_read 6 = .ok (.invokevirtual 45, 3) := by decide +kernel
theorem dX1_read_9 : decode cX1_read 9 = .ok (.istore 4, 2) := by decide +kernel
theorem dX1_read_11 : decode cX1_read 11 = .ok (.iload 4, 2) := by decide +kernel
theorem dX1_read_13 : decode cX1_read 13 = .ok (.ifCond .eq 13, 3) := by decide +kernel
theorem dX1_read_16 : decode cX1_read 16 = .ok (.ldc2_w 53, 3) := by decide +kernel
theorem dX1_read_19 : decode cX1_read 19 = .ok (.iload 4, 2) := by decide +kernel
theorem dX1_read_21 : decode cX1_read 21 = .ok (.i2l, 1) := by decide +kernel
theorem dX1_read_22 : decode cX1_read 22 = .ok (.ladd, 1) := by decide +kernel
theorem dX1_read_23 : decode cX1_read 23 = .ok (.goto 28, 3) := by decide +kernel
theorem dX1_read_26 : decode cX1_read 26 = .ok (.aload_n 0, 1) := by decide +kernel
theorem dX1_read_27 : decode cX1_read 27 = .ok (.getfield 7, 3) := by decide +kernel
theorem dX1_read_30 : decode cX1_read 30 = .ok (.bipush 8, 2) := by decide +kernel
theorem dX1_read_32 : decode cX1_read 32 = .ok (.aload_n 0, 1) := by decide +kernel
theorem dX1_read_33 : decode cX1_read 33 = .ok (.getfield 7, 3) := by decide +kernel
theorem dX1_read_36 : decode cX1_read 36 = .ok (.bipush 8, 2) := by decide +kernel
theorem dX1_read_38 : decode cX1_read 38 = .ok (.iload_n 1, 1) := by decide +kernel
theorem dX1_read_39 : decode cX1_read 39 = .ok (.imul, 1) := by decide +kernel
theorem dX1_read_40 : decode cX1_read 40 = .ok (.iload_n 2, 1) := by decide +kernel
theorem dX1_read_41 : decode cX1_read 41 = .ok (.iadd, 1) := by decide +kernel
theorem dX1_read_42 : decode cX1_read 42 = .ok (.iaload, 1) := by decide +kernel
theorem dX1_read_43 : decode cX1_read 43 = .ok (.invokestatic 42, 3) := by decide +kernel
theorem dX1_read_46 : decode cX1_read 46 = .ok (.imul, 1) := by decide +kernel
theorem dX1_read_47 : decode cX1_read 47 = .ok (.iload_n 3, 1) := by decide +kernel
theorem dX1_read_48 : decode cX1_read 48 = .ok (.iadd, 1) := by decide +kernel
theorem dX1_read_49 : decode cX1_read 49 = .ok (.iaload, 1) := by decide +kernel
theorem dX1_read_50 : decode cX1_read 50 = .ok (.i2l, 1) := by decide +kernel
theorem dX1_read_51 : decode cX1_read 51 = .ok (.lreturn, 1) := by decide +kernel
set_option maxRecDepth 20000 in
theorem ggX1_write_X1_refusal : GoodIn wsX1_write wsX1_refusal := goodIn_r _ [6, 7, 1, 8, 9, 5, 10, 11, 12, 13, 14, 15, 16, 17, 18, 19, 25, 26, 27, 28, 29, 30, 31, 32] (by decide +kernel) (by decide +kernel)
set_option maxRecDepth 20000 in
theorem gX1_write_X1_refusal : GoodIn wsX1_write (wsV RX1 45 RX1 yX1_refusal wsX1_refusal) := goodIn_app (goodIn_of _ (by decide +kernel)) ggX1_write_X1_refusal
set_option maxRecDepth 20000 in
theorem ggX1_write_X1_object : GoodIn wsX1_write wsX1_object := goodIn_r _ [16] (by decide +kernel) (by decide +kernel)
set_option maxRecDepth 20000 in
theorem gX1_write_X1_object : GoodIn wsX1_write (va_wsS RX1 42 yX1_object wsX1_object) := goodIn_app (goodIn_of _ (by decide +kernel)) ggX1_write_X1_object
set_option maxRecDepth 20000 in
theorem ggX1_write_X1_put : GoodIn wsX1_write wsX1_put := goodIn_r _ [23, 1, 24, 25, 26, 27, 28, 29, 30, 31, 32] (by decide +kernel) (by decide +kernel)
set_option maxRecDepth 20000 in
theorem gX1_write_X1_put : GoodIn wsX1_write (wsV RX1 35 RX1 yX1_put wsX1_put) := goodIn_app (goodIn_of _ (by decide +kernel)) ggX1_write_X1_put
theorem dX1_write_0 : decode cX1_write 0 = .ok (.aload_n 0, 1) := by decide +kernel
theorem dX1_write_1 : decode cX1_write 1 = .ok (.iload_n 1, 1) := by decide +kernel
theorem dX1_write_2 : decode cX1_write 2 = .ok (.iload_n 2, 1) := by decide +kernel
theorem dX1_write_3 : decode cX1_write 3 = .ok (.iload_n 3, 1) := by decide +kernel
theorem dX1_write_4 : decode cX1_write 4 = .ok (.iconst 1, 1) := by decide +kernel
theorem dX1_write_5 : decode cX1_write 5 = .ok (.iconst 1, 1) := by decide +kernel
theorem dX1_write_6 : decode cX1_write 6 = .ok (.invokevirtual 45, 3) := by decide +kernel
theorem dX1_write_9 : decode cX1_write 9 = .ok (.istore 5, 2) := by decide +kernel
theorem dX1_write_11 : decode cX1_write 11 = .ok (.iload 5, 2) := by decide +kernel
theorem dX1_write_13 : decode cX1_write 13 = .ok (.ifCond .ne 24, 3) := by decide +kernel
theorem dX1_write_16 : decode cX1_write 16 = .ok (.aload_n 0, 1) := by decide +kernel
theorem dX1_write_17 : decode cX1_write 17 = .ok (.aload_n 0, 1) := by decide +kernel
theorem dX1_write_18 : decode cX1_write 18 = .ok (.getfield 7, 3) := by decide +kernel
theorem dX1_write_21 : decode cX1_write 21 = .ok (.bipush 8, 2) := by decide +kernel
theorem dX1_write_23 : decode cX1_write 23 = .ok (.iload_n 1, 1) := by decide +kernel
theorem dX1_write_24 : decode cX1_write 24 = .ok (.imul, 1) := by decide +kernel
theorem dX1_write_25 : decode cX1_write 25 = .ok (.iload_n 2, 1) := by decide +kernel
theorem dX1_write_26 : decode cX1_write 26 = .ok (.iadd, 1) := by decide +kernel
theorem dX1_write_27 : decode cX1_write 27 = .ok (.iaload, 1) := by decide +kernel
theorem dX1_write_28 : decode cX1_write 28 = .ok (.invokestatic 42, 3) := by decide +kernel
theorem dX1_write_31 : decode cX1_write 31 = .ok (.iload_n 3, 1) := by decide +kernel
theorem dX1_write_32 : decode cX1_write 32 = .ok (.iload 4, 2) := by decide +kernel
theorem dX1_write_34 : decode cX1_write 34 = .ok (.invokevirtual 35, 3) := by decide +kernel
theorem dX1_write_37 : decode cX1_write 37 = .ok (.iload 5, 2) := by decide +kernel
theorem dX1_write_39 : decode cX1_write 39 = .ok (.ireturn, 1) := by decide +kernel
set_option maxRecDepth 20000 in
theorem ggX1_restrict_X1_third : GoodIn wsX1_restrict wsX1_third := goodIn_r _ [6] (by decide +kernel) (by decide +kernel)
set_option maxRecDepth 20000 in
theorem gX1_restrict_X1_third : GoodIn wsX1_restrict (va_wsS RX1 39 yX1_third wsX1_third) := goodIn_app (goodIn_of _ (by decide +kernel)) ggX1_restrict_X1_third
set_option maxRecDepth 20000 in
theorem ggX1_restrict_X1_eight : GoodIn wsX1_restrict wsX1_eight := goodIn_r _ [9] (by decide +kernel) (by decide +kernel)
set_option maxRecDepth 20000 in
theorem gX1_restrict_X1_eight : GoodIn wsX1_restrict (va_wsS RX1 31 yX1_eight wsX1_eight) := goodIn_app (goodIn_of _ (by decide +kernel)) ggX1_restrict_X1_eight
set_option maxRecDepth 20000 in
theorem ggX1_restrict_X1_limited : GoodIn wsX1_restrict wsX1_limited := goodIn_r _ [12, 13, 14, 5, 15] (by decide +kernel) (by decide +kernel)
set_option maxRecDepth 20000 in
theorem gX1_restrict_X1_limited : GoodIn wsX1_restrict (va_wsS RX1 49 yX1_limited wsX1_limited) := goodIn_app (goodIn_of _ (by decide +kernel)) ggX1_restrict_X1_limited
set_option maxRecDepth 20000 in
theorem ggX1_restrict_X1_put : GoodIn wsX1_restrict wsX1_put := goodIn_r _ [19, 2, 20, 21, 22, 23, 24, 25, 26, 27, 28] (by decide +kernel) (by decide +kernel)
set_option maxRecDepth 20000 in
theorem gX1_restrict_X1_put : GoodIn wsX1_restrict (wsV RX1 35 RX1 yX1_put wsX1_put) := goodIn_app (goodIn_of _ (by decide +kernel)) ggX1_restrict_X1_put
theorem dX1_restrict_0 : decode cX1_restrict 0 = .ok (.aload_n 0, 1) := by decide +kernel
theorem dX1_restrict_1 : decode cX1_restrict 1 = .ok (.getfield 28, 3) := by decide +kernel
theorem dX1_restrict_4 : decode cX1_restrict 4 = .ok (.ifCond .eq 5, 3) := by decide +kernel
theorem dX1_restrict_7 : decode cX1_restrict 7 = .ok (.iconst (-1), 1) := by decide +kernel
theorem dX1_restrict_8 : decode cX1_restrict 8 = .ok (.ireturn, 1) := by decide +kernel
theorem dX1_restrict_9 : decode cX1_restrict 9 = .ok (.iload_n 1, 1) := by decide +kernel
theorem dX1_restrict_10 : decode cX1_restrict 10 = .ok (.invokestatic 39, 3) := by decide +kernel
theorem dX1_restrict_13 : decode cX1_restrict 13 = .ok (.ifCond .eq 27, 3) := by decide +kernel
theorem dX1_restrict_16 : decode cX1_restrict 16 = .ok (.iload_n 2, 1) := by decide +kernel
theorem dX1_restrict_17 : decode cX1_restrict 17 = .ok (.invokestatic 31, 3) := by decide +kernel
theorem dX1_restrict_20 : decode cX1_restrict 20 = .ok (.ifCond .eq 20, 3) := by decide +kernel
theorem dX1_restrict_23 : decode cX1_restrict 23 = .ok (.iload 4, 2) := by decide +kernel
theorem dX1_restrict_25 : decode cX1_restrict 25 = .ok (.invokestatic 31, 3) := by decide +kernel
theorem dX1_restrict_28 : decode cX1_restrict 28 = .ok (.ifCond .eq 12, 3) := by decide +kernel
theorem dX1_restrict_31 : decode cX1_restrict 31 = .ok (.iload_n 3, 1) := by decide +kernel
theorem dX1_restrict_32 : decode cX1_restrict 32 = .ok (.ifCond .lt 8, 3) := by decide +kernel
theorem dX1_restrict_35 : decode cX1_restrict 35 = .ok (.iload_n 3, 1) := by decide +kernel
theorem dX1_restrict_36 : decode cX1_restrict 36 = .ok (.iconst 3, 1) := by decide +kernel
theorem dX1_restrict_37 : decode cX1_restrict 37 = .ok (.if_icmp .le 6, 3) := by decide +kernel
theorem dX1_restrict_40 : decode cX1_restrict 40 = .ok (.bipush (-2), 2) := by decide +kernel
theorem dX1_restrict_42 : decode cX1_restrict 42 = .ok (.ireturn, 1) := by decide +kernel
theorem dX1_restrict_43 : decode cX1_restrict 43 = .ok (.aload_n 0, 1) := by decide +kernel
theorem dX1_restrict_44 : decode cX1_restrict 44 = .ok (.iload_n 1, 1) := by decide +kernel
theorem dX1_restrict_45 : decode cX1_restrict 45 = .ok (.iload 4, 2) := by decide +kernel
theorem dX1_restrict_47 : decode cX1_restrict 47 = .ok (.aload_n 0, 1) := by decide +kernel
theorem dX1_restrict_48 : decode cX1_restrict 48 = .ok (.getfield 7, 3) := by decide +kernel
theorem dX1_restrict_51 : decode cX1_restrict 51 = .ok (.bipush 8, 2) := by decide +kernel
theorem dX1_restrict_53 : decode cX1_restrict 53 = .ok (.iload_n 1, 1) := by decide +kernel
theorem dX1_restrict_54 : decode cX1_restrict 54 = .ok (.imul, 1) := by decide +kernel
theorem dX1_restrict_55 : decode cX1_restrict 55 = .ok (.iload_n 2, 1) := by decide +kernel
theorem dX1_restrict_56 : decode cX1_restrict 56 = .ok (.iadd, 1) := by decide +kernel
theorem dX1_restrict_57 : decode cX1_restrict 57 = .ok (.iaload, 1) := by decide +kernel
theorem dX1_restrict_58 : decode cX1_restrict 58 = .ok (.iload_n 3, 1) := by decide +kernel
theorem dX1_restrict_59 : decode cX1_restrict 59 = .ok (.invokestatic 49, 3) := by decide +kernel
theorem dX1_restrict_62 : decode cX1_restrict 62 = .ok (.invokevirtual 35, 3) := by decide +kernel
theorem dX1_restrict_65 : decode cX1_restrict 65 = .ok (.iconst 0, 1) := by decide +kernel
theorem dX1_restrict_66 : decode cX1_restrict 66 = .ok (.ireturn, 1) := by decide +kernel
set_option maxRecDepth 20000 in
theorem ggX1_clear_X1_third : GoodIn wsX1_clear wsX1_third := goodIn_r _ [5] (by decide +kernel) (by decide +kernel)
set_option maxRecDepth 20000 in
theorem gX1_clear_X1_third : GoodIn wsX1_clear (va_wsS RX1 39 yX1_third wsX1_third) := goodIn_app (goodIn_of _ (by decide +kernel)) ggX1_clear_X1_third
set_option maxRecDepth 20000 in
theorem ggX1_clear_X1_eight : GoodIn wsX1_clear wsX1_eight := goodIn_r _ [8] (by decide +kernel) (by decide +kernel)
set_option maxRecDepth 20000 in
theorem gX1_clear_X1_eight : GoodIn wsX1_clear (va_wsS RX1 31 yX1_eight wsX1_eight) := goodIn_app (goodIn_of _ (by decide +kernel)) ggX1_clear_X1_eight
set_option maxRecDepth 20000 in
theorem ggX1_clear_X1_put : GoodIn wsX1_clear wsX1_put := goodIn_r _ [12, 13, 14, 15, 16, 17, 18, 19, 20, 21, 22] (by decide +kernel) (by decide +kernel)
set_option maxRecDepth 20000 in
theorem gX1_clear_X1_put : GoodIn wsX1_clear (wsV RX1 35 RX1 yX1_put wsX1_put) := goodIn_app (goodIn_of _ (by decide +kernel)) ggX1_clear_X1_put
theorem dX1_clear_0 : decode cX1_clear 0 = .ok (.aload_n 0, 1) := by decide +kernel
theorem dX1_clear_1 : decode cX1_clear 1 = .ok (.getfield 28, 3) := by decide +kernel
theorem dX1_clear_4 : decode cX1_clear 4 = .ok (.ifCond .eq 5, 3) := by decide +kernel
theorem dX1_clear_7 : decode cX1_clear 7 = .ok (.iconst (-1), 1) := by decide +kernel
theorem dX1_clear_8 : decode cX1_clear 8 = .ok (.ireturn, 1) := by decide +kernel
theorem dX1_clear_9 : decode cX1_clear 9 = .ok (.iload_n 1, 1) := by decide +kernel
theorem dX1_clear_10 : decode cX1_clear 10 = .ok (.invokestatic 39, 3) := by decide +kernel
theorem dX1_clear_13 : decode cX1_clear 13 = .ok (.ifCond .eq 10, 3) := by decide +kernel
theorem dX1_clear_16 : decode cX1_clear 16 = .ok (.iload_n 2, 1) := by decide +kernel
theorem dX1_clear_17 : decode cX1_clear 17 = .ok (.invokestatic 31, 3) := by decide +kernel
theorem dX1_clear_20 : decode cX1_clear 20 = .ok (.ifCond .ne 6, 3) := by decide +kernel
theorem dX1_clear_23 : decode cX1_clear 23 = .ok (.bipush (-2), 2) := by decide +kernel
theorem dX1_clear_25 : decode cX1_clear 25 = .ok (.ireturn, 1) := by decide +kernel
theorem dX1_clear_26 : decode cX1_clear 26 = .ok (.aload_n 0, 1) := by decide +kernel
theorem dX1_clear_27 : decode cX1_clear 27 = .ok (.iload_n 1, 1) := by decide +kernel
theorem dX1_clear_28 : decode cX1_clear 28 = .ok (.iload_n 2, 1) := by decide +kernel
theorem dX1_clear_29 : decode cX1_clear 29 = .ok (.iconst 0, 1) := by decide +kernel
theorem dX1_clear_30 : decode cX1_clear 30 = .ok (.invokevirtual 35, 3) := by decide +kernel
theorem dX1_clear_33 : decode cX1_clear 33 = .ok (.iconst 0, 1) := by decide +kernel
theorem dX1_clear_34 : decode cX1_clear 34 = .ok (.ireturn, 1) := by decide +kernel
theorem dX1_inSet_0 : decode cX1_inSet 0 = .ok (.iconst 0, 1) := by decide +kernel
theorem dX1_inSet_1 : decode cX1_inSet 1 = .ok (.istore_n 2, 1) := by decide +kernel
theorem dX1_inSet_2 : decode cX1_inSet 2 = .ok (.iconst 0, 1) := by decide +kernel
theorem dX1_inSet_3 : decode cX1_inSet 3 = .ok (.istore_n 3, 1) := by decide +kernel
theorem dX1_inSet_4 : decode cX1_inSet 4 = .ok (.iload_n 3, 1) := by decide +kernel
theorem dX1_inSet_5 : decode cX1_inSet 5 = .ok (.bipush 12, 2) := by decide +kernel
theorem dX1_inSet_7 : decode cX1_inSet 7 = .ok (.if_icmp .ge 17, 3) := by decide +kernel
theorem dX1_inSet_10 : decode cX1_inSet 10 = .ok (.iload_n 2, 1) := by decide +kernel
theorem dX1_inSet_11 : decode cX1_inSet 11 = .ok (.iload_n 1, 1) := by decide +kernel
theorem dX1_inSet_12 : decode cX1_inSet 12 = .ok (.iload_n 3, 1) := by decide +kernel
theorem dX1_inSet_13 : decode cX1_inSet 13 = .ok (.ishr, 1) := by decide +kernel
theorem dX1_inSet_14 : decode cX1_inSet 14 = .ok (.iconst 1, 1) := by decide +kernel
theorem dX1_inSet_15 : decode cX1_inSet 15 = .ok (.iand, 1) := by decide +kernel
theorem dX1_inSet_16 : decode cX1_inSet 16 = .ok (.iadd, 1) := by decide +kernel
theorem dX1_inSet_17 : decode cX1_inSet 17 = .ok (.istore_n 2, 1) := by decide +kernel
theorem dX1_inSet_18 : decode cX1_inSet 18 = .ok (.iinc 3 1, 3) := by decide +kernel
theorem dX1_inSet_21 : decode cX1_inSet 21 = .ok (.goto (-17), 3) := by decide +kernel
theorem dX1_inSet_24 : decode cX1_inSet 24 = .ok (.iload_n 2, 1) := by decide +kernel
theorem dX1_inSet_25 : decode cX1_inSet 25 = .ok (.ireturn, 1) := by decide +kernel
theorem dX1_member_0 : decode cX1_member 0 = .ok (.iload_n 2, 1) := by decide +kernel
theorem dX1_member_1 : decode cX1_member 1 = .ok (.istore_n 3, 1) := by decide +kernel
theorem dX1_member_2 : decode cX1_member 2 = .ok (.iconst 0, 1) := by decide +kernel
theorem dX1_member_3 : decode cX1_member 3 = .ok (.istore 4, 2) := by decide +kernel
theorem dX1_member_5 : decode cX1_member 5 = .ok (.iload 4, 2) := by decide +kernel
theorem dX1_member_7 : decode cX1_member 7 = .ok (.bipush 12, 2) := by decide +kernel
theorem dX1_member_9 : decode cX1_member 9 = .ok (.if_icmp .ge 29, 3) := by decide +kernel
theorem dX1_member_12 : decode cX1_member 12 = .ok (.iload_n 1, 1) := by decide +kernel
theorem dX1_member_13 : decode cX1_member 13 = .ok (.iload 4, 2) := by decide +kernel
theorem dX1_member_15 : decode cX1_member 15 = .ok (.ishr, 1) := by decide +kernel
theorem dX1_member_16 : decode cX1_member 16 = .ok (.iconst 1, 1) := by decide +kernel
theorem dX1_member_17 : decode cX1_member 17 = .ok (.iand, 1) := by decide +kernel
theorem dX1_member_18 : decode cX1_member 18 = .ok (.iconst 1, 1) := by decide +kernel
theorem dX1_member_19 : decode cX1_member 19 = .ok (.if_icmp .ne 13, 3) := by decide +kernel
theorem dX1_member_22 : decode cX1_member 22 = .ok (.iload_n 3, 1) := by decide +kernel
theorem dX1_member_23 : decode cX1_member 23 = .ok (.ifCond .ne 6, 3) := by decide +kernel
theorem dX1_member_26 : decode cX1_member 26 = .ok (.iload 4, 2) := by decide +kernel
theorem dX1_member_28 : decode cX1_member 28 = .ok (.ireturn, 1) := by decide +kernel
theorem dX1_member_29 : decode cX1_member 29 = .ok (.iinc 3 (-1), 3) := by decide +kernel
theorem dX1_member_32 : decode cX1_member 32 = .ok (.iinc 4 1, 3) := by decide +kernel
theorem dX1_member_35 : decode cX1_member 35 = .ok (.goto (-30), 3) := by decide +kernel
theorem dX1_member_38 : decode cX1_member 38 = .ok (.iconst 0, 1) := by decide +kernel
theorem dX1_member_39 : decode cX1_member 39 = .ok (.ireturn, 1) := by decide +kernel
theorem dX1_may_0 : decode cX1_may 0 = .ok (.aload_n 0, 1) := by decide +kernel
theorem dX1_may_1 : decode cX1_may 1 = .ok (.getfield 20, 3) := by decide +kernel
theorem dX1_may_4 : decode cX1_may 4 = .ok (.ifCond .ne 17, 3) := by decide +kernel
theorem dX1_may_7 : decode cX1_may 7 = .ok (.aload_n 0, 1) := by decide +kernel
theorem dX1_may_8 : decode cX1_may 8 = .ok (.getfield 55, 3) := by decide +kernel
theorem dX1_may_11 : decode cX1_may 11 = .ok (.ifCond .ne 10, 3) := by decide +kernel
theorem dX1_may_14 : decode cX1_may 14 = .ok (.aload_n 0, 1) := by decide +kernel
theorem dX1_may_15 : decode cX1_may 15 = .ok (.iconst 1, 1) := by decide +kernel
theorem dX1_may_16 : decode cX1_may 16 = .ok (.putfield 28, 3) := by decide +kernel
theorem dX1_may_19 : decode cX1_may 19 = .ok (.iconst 0, 1) := by decide +kernel
theorem dX1_may_20 : decode cX1_may 20 = .ok (.ireturn, 1) := by decide +kernel
theorem dX1_may_21 : decode cX1_may 21 = .ok (.aload_n 0, 1) := by decide +kernel
theorem dX1_may_22 : decode cX1_may 22 = .ok (.getfield 20, 3) := by decide +kernel
theorem dX1_may_25 : decode cX1_may 25 = .ok (.ifCond .ne 13, 3) := by decide +kernel
theorem dX1_may_28 : decode cX1_may 28 = .ok (.aload_n 0, 1) := by decide +kernel
theorem dX1_may_29 : decode cX1_may 29 = .ok (.dup, 1) := by decide +kernel
theorem dX1_may_30 : decode cX1_may 30 = .ok (.getfield 55, 3) := by decide +kernel
theorem dX1_may_33 : decode cX1_may 33 = .ok (.iconst 1, 1) := by decide +kernel
theorem dX1_may_34 : decode cX1_may 34 = .ok (.isub, 1) := by decide +kernel
theorem dX1_may_35 : decode cX1_may 35 = .ok (.putfield 55, 3) := by decide +kernel
theorem dX1_may_38 : decode cX1_may 38 = .ok (.aload_n 0, 1) := by decide +kernel
theorem dX1_may_39 : decode cX1_may 39 = .ok (.dup, 1) := by decide +kernel
theorem dX1_may_40 : decode cX1_may 40 = .ok (.getfield 59, 3) := by decide +kernel
theorem dX1_may_43 : decode cX1_may 43 = .ok (.iconst 1, 1) := by decide +kernel
theorem dX1_may_44 : decode cX1_may 44 = .ok (.iadd, 1) := by decide +kernel
theorem dX1_may_45 : decode cX1_may 45 = .ok (.putfield 59, 3) := by decide +kernel
theorem dX1_may_48 : decode cX1_may 48 = .ok (.iconst 1, 1) := by decide +kernel
theorem dX1_may_49 : decode cX1_may 49 = .ok (.ireturn, 1) := by decide +kernel
theorem dX1_header_0 : decode cX1_header 0 = .ok (.aload_n 0, 1) := by decide +kernel
theorem dX1_header_1 : decode cX1_header 1 = .ok (.getfield 13, 3) := by decide +kernel
theorem dX1_header_4 : decode cX1_header 4 = .ok (.sipush 192, 3) := by decide +kernel
theorem dX1_header_7 : decode cX1_header 7 = .ok (.iload_n 1, 1) := by decide +kernel
theorem dX1_header_8 : decode cX1_header 8 = .ok (.iastore, 1) := by decide +kernel
theorem dX1_header_9 : decode cX1_header 9 = .ok (.return_, 1) := by decide +kernel
set_option maxRecDepth 20000 in
theorem ggX1_checkpoint_X1_dirty : GoodIn wsX1_checkpoint wsX1_dirty := goodIn_r _ [10, 1, 5, 30, 31, 32, 33, 34, 35, 36, 37] (by decide +kernel) (by decide +kernel)
set_option maxRecDepth 20000 in
theorem gX1_checkpoint_X1_dirty : GoodIn wsX1_checkpoint (wsV RX1 62 RX1 yX1_dirty wsX1_dirty) := goodIn_app (goodIn_of _ (by decide +kernel)) ggX1_checkpoint_X1_dirty
set_option maxRecDepth 20000 in
theorem ggX1_checkpoint_X1_inSet : GoodIn wsX1_checkpoint wsX1_inSet := goodIn_r _ [14] (by decide +kernel) (by decide +kernel)
set_option maxRecDepth 20000 in
theorem gX1_checkpoint_X1_inSet : GoodIn wsX1_checkpoint (wsV RX1 66 RX1 yX1_inSet wsX1_inSet) := goodIn_app (goodIn_of _ (by decide +kernel)) ggX1_checkpoint_X1_inSet
set_option maxRecDepth 20000 in
theorem ggX1_checkpoint_X1_may : GoodIn wsX1_checkpoint wsX1_may := goodIn_r _ [18, 19, 20, 1, 21, 30, 31, 32, 33, 34, 35, 36, 37] (by decide +kernel) (by decide +kernel)
set_option maxRecDepth 20000 in
theorem gX1_checkpoint_X1_may : GoodIn wsX1_checkpoint (wsV RX1 69 RX1 yX1_may wsX1_may) := goodIn_app (goodIn_of _ (by decide +kernel)) ggX1_checkpoint_X1_may
set_option maxRecDepth 20000 in
theorem ggX1_checkpoint_X1_header : GoodIn wsX1_checkpoint wsX1_header := goodIn_r _ [25, 3, 30, 31, 32, 33, 34, 35, 36, 37] (by decide +kernel) (by decide +kernel)
set_option maxRecDepth 20000 in
theorem gX1_checkpoint_X1_header : GoodIn wsX1_checkpoint (wsV RX1 73 RX1 yX1_header wsX1_header) := goodIn_app (goodIn_of _ (by decide +kernel)) ggX1_checkpoint_X1_header
set_option maxRecDepth 20000 in
theorem ggX1_checkpoint_X1_member : GoodIn wsX1_checkpoint wsX1_member := goodIn_r _ [29] (by decide +kernel) (by decide +kernel)
set_option maxRecDepth 20000 in
theorem gX1_checkpoint_X1_member : GoodIn wsX1_checkpoint (wsV RX1 80 RX1 yX1_member wsX1_member) := goodIn_app (goodIn_of _ (by decide +kernel)) ggX1_checkpoint_X1_member
theorem dX1_checkpoint_0 : decode cX1_checkpoint 0 = .ok (.aload_n 0, 1) := by decide +kernel
theorem dX1_checkpoint_1 : decode cX1_checkpoint 1 = .ok (.getfield 28, 3) := by decide +kernel
theorem dX1_checkpoint_4 : decode cX1_checkpoint 4 = .ok (.ifCond .eq 5, 3) := by decide +kernel
theorem dX1_checkpoint_7 : decode cX1_checkpoint 7 = .ok (.iconst (-1), 1) := by decide +kernel
theorem dX1_checkpoint_8 : decode cX1_checkpoint 8 = .ok (.ireturn, 1) := by decide +kernel
theorem dX1_checkpoint_9 : decode cX1_checkpoint 9 = .ok (.aload_n 0, 1) := by decide +kernel
theorem dX1_checkpoint_10 : decode cX1_checkpoint 10 = .ok (.invokevirtual 62, 3) := by decide +kernel
theorem dX1_checkpoint_13 : decode cX1_checkpoint 13 = .ok (.istore_n 1, 1) := by decide +kernel
theorem dX1_checkpoint_14 : decode cX1_checkpoint 14 = .ok (.aload_n 0, 1) := by decide +kernel
theorem dX1_checkpoint_15 : decode cX1_checkpoint 15 = .ok (.iload_n 1, 1) := by decide +kernel
theorem dX1_checkpoint_16 : decode cX1_checkpoint 16 = .ok (.invokevirtual 66, 3) := by decide +kernel
theorem dX1_checkpoint_19 : decode cX1_checkpoint 19 = .ok (.istore_n 2, 1) := by decide +kernel
theorem dX1_checkpoint_20 : decode cX1_checkpoint 20 = .ok (.iload_n 2, 1) := by decide +kernel
theorem dX1_checkpoint_21 : decode cX1_checkpoint 21 = .ok (.ifCond .ne 5, 3) := by decide +kernel
theorem dX1_checkpoint_24 : decode cX1_checkpoint 24 = .ok (.iconst 0, 1) := by decide +kernel
theorem dX1_checkpoint_25 : decode cX1_checkpoint 25 = .ok (.ireturn, 1) := by decide +kernel
theorem dX1_checkpoint_26 : decode cX1_checkpoint 26 = .ok (.iconst 0, 1) := by decide +kernel
theorem dX1_checkpoint_27 : decode cX1_checkpoint 27 = .ok (.istore_n 3, 1) := by decide +kernel
theorem dX1_checkpoint_28 : decode cX1_checkpoint 28 = .ok (.iload_n 3, 1) := by decide +kernel
theorem dX1_checkpoint_29 : decode cX1_checkpoint 29 = .ok (.iconst 2, 1) := by decide +kernel
theorem dX1_checkpoint_30 : decode cX1_checkpoint 30 = .ok (.iload_n 2, 1) := by decide +kernel
theorem dX1_checkpoint_31 : decode cX1_checkpoint 31 = .ok (.imul, 1) := by decide +kernel
theorem dX1_checkpoint_32 : decode cX1_checkpoint 32 = .ok (.iconst 2, 1) := by decide +kernel
theorem dX1_checkpoint_33 : decode cX1_checkpoint 33 = .ok (.iadd, 1) := by decide +kernel
theorem dX1_checkpoint_34 : decode cX1_checkpoint 34 = .ok (.if_icmp .ge 137, 3) := by decide +kernel
theorem dX1_checkpoint_37 : decode cX1_checkpoint 37 = .ok (.aload_n 0, 1) := by decide +kernel
theorem dX1_checkpoint_38 : decode cX1_checkpoint 38 = .ok (.invokevirtual 69, 3) := by decide +kernel
theorem dX1_checkpoint_41 : decode cX1_checkpoint 41 = .ok (.ifCond .ne 6, 3) := by decide +kernel
theorem dX1_checkpoint_44 : decode cX1_checkpoint 44 = .ok (.bipush (-2), 2) := by decide +kernel
theorem dX1_checkpoint_46 : decode cX1_checkpoint 46 = .ok (.ireturn, 1) := by decide +kernel
theorem dX1_checkpoint_47 : decode cX1_checkpoint 47 = .ok (.iload_n 3, 1) := by decide +kernel
theorem dX1_checkpoint_48 : decode cX1_checkpoint 48 = .ok (.iload_n 2, 1) := by decide +kernel
theorem dX1_checkpoint_49 : decode cX1_checkpoint 49 = .ok (.if_icmp .ne 21, 3) := by decide +kernel
theorem dX1_checkpoint_52 : decode cX1_checkpoint 52 = .ok (.aload_n 0, 1) := by decide +kernel
theorem dX1_checkpoint_53 : decode cX1_checkpoint 53 = .ok (.iload_n 1, 1) := by decide +kernel
theorem dX1_checkpoint_54 : decode cX1_checkpoint 54 = .ok (.invokevirtual 73, 3) := by decide +kernel
theorem dX1_checkpoint_57 : decode cX1_checkpoint 57 = .ok (.aload_n 0, 1) := by decide +kernel
theorem dX1_checkpoint_58 : decode cX1_checkpoint 58 = .ok (.dup, 1) := by decide +kernel
theorem dX1_checkpoint_59 : decode cX1_checkpoint 59 = .ok (.getfield 77, 3) := by decide +kernel
theorem dX1_checkpoint_62 : decode cX1_checkpoint 62 = .ok (.iconst 1, 1) := by decide +kernel
theorem dX1_checkpoint_63 : decode cX1_checkpoint 63 = .ok (.iadd, 1) := by decide +kernel
theorem dX1_checkpoint_64 : decode cX1_checkpoint 64 = .ok (.putfield 77, 3) := by decide +kernel
theorem dX1_checkpoint_67 : decode cX1_checkpoint 67 = .ok (.goto 98, 3) := by decide +kernel
theorem dX1_checkpoint_70 : decode cX1_checkpoint 70 = .ok (.iload_n 3, 1) := by decide +kernel
theorem dX1_checkpoint_71 : decode cX1_checkpoint 71 = .ok (.iconst 2, 1) := by decide +kernel
theorem dX1_checkpoint_72 : decode cX1_checkpoint 72 = .ok (.iload_n 2, 1) := by decide +kernel
theorem dX1_checkpoint_73 : decode cX1_checkpoint 73 = .ok (.imul, 1) := by decide +kernel
theorem dX1_checkpoint_74 : decode cX1_checkpoint 74 = .ok (.if_icmp .le 11, 3) := by decide +kernel
theorem dX1_checkpoint_77 : decode cX1_checkpoint 77 = .ok (.aload_n 0, 1) := by decide +kernel
theorem dX1_checkpoint_78 : decode cX1_checkpoint 78 = .ok (.iconst 0, 1) := by decide +kernel
theorem dX1_checkpoint_79 : decode cX1_checkpoint 79 = .ok (.invokevirtual 73, 3) := by decide +kernel
theorem dX1_checkpoint_82 : decode cX1_checkpoint 82 = .ok (.goto 83, 3) := by decide +kernel
theorem dX1_checkpoint_85 : decode cX1_checkpoint 85 = .ok (.aload_n 0, 1) := by decide +kernel
theorem dX1_checkpoint_86 : decode cX1_checkpoint 86 = .ok (.iload_n 1, 1) := by decide +kernel
theorem dX1_checkpoint_87 : decode cX1_checkpoint 87 = .ok (.iload_n 3, 1) := by decide +kernel
theorem dX1_checkpoint_88 : decode cX1_checkpoint 88 = .ok (.iload_n 2, 1) := by decide +kernel
theorem dX1_checkpoint_89 : decode cX1_checkpoint 89 = .ok (.if_icmp .ge 7, 3) := by decide +kernel
theorem dX1_checkpoint_92 : decode cX1_checkpoint 92 = .ok (.iload_n 3, 1) := by decide +kernel
theorem dX1_checkpoint_93 : decode cX1_checkpoint 93 = .ok (.goto 8, 3) := by decide +kernel
theorem dX1_checkpoint_96 : decode cX1_checkpoint 96 = .ok (.iload_n 3, 1) := by decide +kernel
theorem dX1_checkpoint_97 : decode cX1_checkpoint 97 = .ok (.iload_n 2, 1) := by decide +kernel
theorem dX1_checkpoint_98 : decode cX1_checkpoint 98 = .ok (.isub, 1) := by decide +kernel
theorem dX1_checkpoint_99 : decode cX1_checkpoint 99 = .ok (.iconst 1, 1) := by decide +kernel
theorem dX1_checkpoint_100 : decode cX1_checkpoint 100 = .ok (.isub, 1) := by decide +kernel
theorem dX1_checkpoint_101 : decode cX1_checkpoint 101 = .ok (.invokevirtual 80, 3) := by decide +kernel
theorem dX1_checkpoint_104 : decode cX1_checkpoint 104 = .ok (.istore 4, 2) := by decide +kernel
theorem dX1_checkpoint_106 : decode cX1_checkpoint 106 = .ok (.iload_n 3, 1) := by decide +kernel
theorem dX1_checkpoint_107 : decode cX1_checkpoint 107 = .ok (.iload_n 2, 1) := by decide +kernel
theorem dX1_checkpoint_108 : decode cX1_checkpoint 108 = .ok (.if_icmp .ge 11, 3) := by decide +kernel
theorem dX1_checkpoint_111 : decode cX1_checkpoint 111 = .ok (.bipush 12, 2) := by decide +kernel
theorem dX1_checkpoint_113 : decode cX1_checkpoint 113 = .ok (.iload 4, 2) := by decide +kernel
theorem dX1_checkpoint_115 : decode cX1_checkpoint 115 = .ok (.iadd, 1) := by decide +kernel
theorem dX1_checkpoint_116 : decode cX1_checkpoint 116 = .ok (.goto 5, 3) := by decide +kernel
theorem dX1_checkpoint_119 : decode cX1_checkpoint 119 = .ok (.iload 4, 2) := by decide +kernel
theorem dX1_checkpoint_121 : decode cX1_checkpoint 121 = .ok (.istore 5, 2) := by decide +kernel
theorem dX1_checkpoint_123 : decode cX1_checkpoint 123 = .ok (.iconst 0, 1) := by decide +kernel
theorem dX1_checkpoint_124 : decode cX1_checkpoint 124 = .ok (.istore 6, 2) := by decide +kernel
theorem dX1_checkpoint_126 : decode cX1_checkpoint 126 = .ok (.iload 6, 2) := by decide +kernel
theorem dX1_checkpoint_128 : decode cX1_checkpoint 128 = .ok (.bipush 8, 2) := by decide +kernel
theorem dX1_checkpoint_130 : decode cX1_checkpoint 130 = .ok (.if_icmp .ge 35, 3) := by decide +kernel
theorem dX1_checkpoint_133 : decode cX1_checkpoint 133 = .ok (.aload_n 0, 1) := by decide +kernel
theorem dX1_checkpoint_134 : decode cX1_checkpoint 134 = .ok (.getfield 13, 3) := by decide +kernel
theorem dX1_checkpoint_137 : decode cX1_checkpoint 137 = .ok (.bipush 8, 2) := by decide +kernel
theorem dX1_checkpoint_139 : decode cX1_checkpoint 139 = .ok (.iload 5, 2) := by decide +kernel
theorem dX1_checkpoint_141 : decode cX1_checkpoint 141 = .ok (.imul, 1) := by decide +kernel
theorem dX1_checkpoint_142 : decode cX1_checkpoint 142 = .ok (.iload 6, 2) := by decide +kernel
theorem dX1_checkpoint_144 : decode cX1_checkpoint 144 = .ok (.iadd, 1) := by decide +kernel
theorem dX1_checkpoint_145 : decode cX1_checkpoint 145 = .ok (.aload_n 0, 1) := by decide +kernel
theorem dX1_checkpoint_146 : decode cX1_checkpoint 146 = .ok (.getfield 7, 3) := by decide +kernel
theorem dX1_checkpoint_149 : decode cX1_checkpoint 149 = .ok (.bipush 8, 2) := by decide +kernel
theorem dX1_checkpoint_151 : decode cX1_checkpoint 151 = .ok (.iload 4, 2) := by decide +kernel
theorem dX1_checkpoint_153 : decode cX1_checkpoint 153 = .ok (.imul, 1) := by decide +kernel
theorem dX1_checkpoint_154 : decode cX1_checkpoint 154 = .ok (.iload 6, 2) := by decide +kernel
theorem dX1_checkpoint_156 : decode cX1_checkpoint 156 = .ok (.iadd, 1) := by decide +kernel
theorem dX1_checkpoint_157 : decode cX1_checkpoint 157 = .ok (.iaload, 1) := by decide +kernel
theorem dX1_checkpoint_158 : decode cX1_checkpoint 158 = .ok (.iastore, 1) := by decide +kernel
theorem dX1_checkpoint_159 : decode cX1_checkpoint 159 = .ok (.iinc 6 1, 3) := by decide +kernel
theorem dX1_checkpoint_162 : decode cX1_checkpoint 162 = .ok (.goto (-36), 3) := by decide +kernel
theorem dX1_checkpoint_165 : decode cX1_checkpoint 165 = .ok (.iinc 3 1, 3) := by decide +kernel
theorem dX1_checkpoint_168 : decode cX1_checkpoint 168 = .ok (.goto (-140), 3) := by decide +kernel
theorem dX1_checkpoint_171 : decode cX1_checkpoint 171 = .ok (.iconst 0, 1) := by decide +kernel
theorem dX1_checkpoint_172 : decode cX1_checkpoint 172 = .ok (.istore_n 3, 1) := by decide +kernel
theorem dX1_checkpoint_173 : decode cX1_checkpoint 173 = .ok (.iload_n 3, 1) := by decide +kernel
theorem dX1_checkpoint_174 : decode cX1_checkpoint 174 = .ok (.bipush 12, 2) := by decide +kernel
theorem dX1_checkpoint_176 : decode cX1_checkpoint 176 = .ok (.if_icmp .ge 16, 3) := by decide +kernel
theorem dX1_checkpoint_179 : decode cX1_checkpoint 179 = .ok (.aload_n 0, 1) := by decide +kernel
theorem dX1_checkpoint_180 : decode cX1_checkpoint 180 = .ok (.getfield 16, 3) := by decide +kernel
theorem dX1_checkpoint_183 : decode cX1_checkpoint 183 = .ok (.iload_n 3, 1) := by decide +kernel
theorem dX1_checkpoint_184 : decode cX1_checkpoint 184 = .ok (.iconst 0, 1) := by decide +kernel
theorem dX1_checkpoint_185 : decode cX1_checkpoint 185 = .ok (.bastore, 1) := by decide +kernel
theorem dX1_checkpoint_186 : decode cX1_checkpoint 186 = .ok (.iinc 3 1, 3) := by decide +kernel
theorem dX1_checkpoint_189 : decode cX1_checkpoint 189 = .ok (.goto (-16), 3) := by decide +kernel
theorem dX1_checkpoint_192 : decode cX1_checkpoint 192 = .ok (.iconst 2, 1) := by decide +kernel
theorem dX1_checkpoint_193 : decode cX1_checkpoint 193 = .ok (.iload_n 2, 1) := by decide +kernel
theorem dX1_checkpoint_194 : decode cX1_checkpoint 194 = .ok (.imul, 1) := by decide +kernel
theorem dX1_checkpoint_195 : decode cX1_checkpoint 195 = .ok (.iconst 2, 1) := by decide +kernel
theorem dX1_checkpoint_196 : decode cX1_checkpoint 196 = .ok (.iadd, 1) := by decide +kernel
theorem dX1_checkpoint_197 : decode cX1_checkpoint 197 = .ok (.ireturn, 1) := by decide +kernel
theorem dX1_power_0 : decode cX1_power 0 = .ok (.aload_n 0, 1) := by decide +kernel
theorem dX1_power_1 : decode cX1_power 1 = .ok (.getfield 28, 3) := by decide +kernel
theorem dX1_power_4 : decode cX1_power 4 = .ok (.ifCond .eq 5, 3) := by decide +kernel
theorem dX1_power_7 : decode cX1_power 7 = .ok (.iconst (-1), 1) := by decide +kernel
theorem dX1_power_8 : decode cX1_power 8 = .ok (.ireturn, 1) := by decide +kernel
theorem dX1_power_9 : decode cX1_power 9 = .ok (.iload_n 1, 1) := by decide +kernel
theorem dX1_power_10 : decode cX1_power 10 = .ok (.iconst (-1), 1) := by decide +kernel
theorem dX1_power_11 : decode cX1_power 11 = .ok (.if_icmp .lt 9, 3) := by decide +kernel
theorem dX1_power_14 : decode cX1_power 14 = .ok (.iload_n 1, 1) := by decide +kernel
theorem dX1_power_15 : decode cX1_power 15 = .ok (.bipush 63, 2) := by decide +kernel
theorem dX1_power_17 : decode cX1_power 17 = .ok (.if_icmp .le 6, 3) := by decide +kernel
theorem dX1_power_20 : decode cX1_power 20 = .ok (.bipush (-2), 2) := by decide +kernel
theorem dX1_power_22 : decode cX1_power 22 = .ok (.ireturn, 1) := by decide +kernel
theorem dX1_power_23 : decode cX1_power 23 = .ok (.aload_n 0, 1) := by decide +kernel
theorem dX1_power_24 : decode cX1_power 24 = .ok (.iload_n 1, 1) := by decide +kernel
theorem dX1_power_25 : decode cX1_power 25 = .ok (.iconst (-1), 1) := by decide +kernel
theorem dX1_power_26 : decode cX1_power 26 = .ok (.if_icmp .ne 7, 3) := by decide +kernel
theorem dX1_power_29 : decode cX1_power 29 = .ok (.iconst 1, 1) := by decide +kernel
theorem dX1_power_30 : decode cX1_power 30 = .ok (.goto 4, 3) := by decide +kernel
theorem dX1_power_33 : decode cX1_power 33 = .ok (.iconst 0, 1) := by decide +kernel
theorem dX1_power_34 : decode cX1_power 34 = .ok (.putfield 20, 3) := by decide +kernel
theorem dX1_power_37 : decode cX1_power 37 = .ok (.aload_n 0, 1) := by decide +kernel
theorem dX1_power_38 : decode cX1_power 38 = .ok (.iload_n 1, 1) := by decide +kernel
theorem dX1_power_39 : decode cX1_power 39 = .ok (.putfield 55, 3) := by decide +kernel
theorem dX1_power_42 : decode cX1_power 42 = .ok (.iconst 0, 1) := by decide +kernel
theorem dX1_power_43 : decode cX1_power 43 = .ok (.ireturn, 1) := by decide +kernel
theorem dX1_crash_0 : decode cX1_crash 0 = .ok (.aload_n 0, 1) := by decide +kernel
theorem dX1_crash_1 : decode cX1_crash 1 = .ok (.getfield 28, 3) := by decide +kernel
theorem dX1_crash_4 : decode cX1_crash 4 = .ok (.istore_n 1, 1) := by decide +kernel
theorem dX1_crash_5 : decode cX1_crash 5 = .ok (.aload_n 0, 1) := by decide +kernel
theorem dX1_crash_6 : decode cX1_crash 6 = .ok (.iconst 1, 1) := by decide +kernel
theorem dX1_crash_7 : decode cX1_crash 7 = .ok (.putfield 28, 3) := by decide +kernel
theorem dX1_crash_10 : decode cX1_crash 10 = .ok (.iload_n 1, 1) := by decide +kernel
theorem dX1_crash_11 : decode cX1_crash 11 = .ok (.ifCond .ne 7, 3) := by decide +kernel
theorem dX1_crash_14 : decode cX1_crash 14 = .ok (.iconst 1, 1) := by decide +kernel
theorem dX1_crash_15 : decode cX1_crash 15 = .ok (.goto 4, 3) := by decide +kernel
theorem dX1_crash_18 : decode cX1_crash 18 = .ok (.iconst 0, 1) := by decide +kernel
theorem dX1_crash_19 : decode cX1_crash 19 = .ok (.ireturn, 1) := by decide +kernel
set_option maxRecDepth 20000 in
theorem ggX1_start_X1_inSet : GoodIn wsX1_start wsX1_inSet := goodIn_r _ [11] (by decide +kernel) (by decide +kernel)
set_option maxRecDepth 20000 in
theorem gX1_start_X1_inSet : GoodIn wsX1_start (wsV RX1 66 RX1 yX1_inSet wsX1_inSet) := goodIn_app (goodIn_of _ (by decide +kernel)) ggX1_start_X1_inSet
set_option maxRecDepth 20000 in
theorem ggX1_start_X1_may : GoodIn wsX1_start wsX1_may := goodIn_r _ [15, 2, 3, 1, 16, 25, 26, 27, 28, 29, 30, 31, 32] (by decide +kernel) (by decide +kernel)
set_option maxRecDepth 20000 in
theorem gX1_start_X1_may : GoodIn wsX1_start (wsV RX1 69 RX1 yX1_may wsX1_may) := goodIn_app (goodIn_of _ (by decide +kernel)) ggX1_start_X1_may
set_option maxRecDepth 20000 in
theorem ggX1_start_X1_header : GoodIn wsX1_start wsX1_header := goodIn_r _ [20, 4, 25, 26, 27, 28, 29, 30, 31, 32] (by decide +kernel) (by decide +kernel)
set_option maxRecDepth 20000 in
theorem gX1_start_X1_header : GoodIn wsX1_start (wsV RX1 73 RX1 yX1_header wsX1_header) := goodIn_app (goodIn_of _ (by decide +kernel)) ggX1_start_X1_header
set_option maxRecDepth 20000 in
theorem ggX1_start_X1_member : GoodIn wsX1_start wsX1_member := goodIn_r _ [24] (by decide +kernel) (by decide +kernel)
set_option maxRecDepth 20000 in
theorem gX1_start_X1_member : GoodIn wsX1_start (wsV RX1 80 RX1 yX1_member wsX1_member) := goodIn_app (goodIn_of _ (by decide +kernel)) ggX1_start_X1_member
theorem dX1_start_0 : decode cX1_start 0 = .ok (.aload_n 0, 1) := by decide +kernel
theorem dX1_start_1 : decode cX1_start 1 = .ok (.getfield 28, 3) := by decide +kernel
theorem dX1_start_4 : decode cX1_start 4 = .ok (.ifCond .ne 5, 3) := by decide +kernel
theorem dX1_start_7 : decode cX1_start 7 = .ok (.iconst (-1), 1) := by decide +kernel
theorem dX1_start_8 : decode cX1_start 8 = .ok (.ireturn, 1) := by decide +kernel
theorem dX1_start_9 : decode cX1_start 9 = .ok (.iload_n 1, 1) := by decide +kernel
theorem dX1_start_10 : decode cX1_start 10 = .ok (.iconst (-1), 1) := by decide +kernel
theorem dX1_start_11 : decode cX1_start 11 = .ok (.if_icmp .lt 9, 3) := by decide +kernel
theorem dX1_start_14 : decode cX1_start 14 = .ok (.iload_n 1, 1) := by decide +kernel
theorem dX1_start_15 : decode cX1_start 15 = .ok (.bipush 63, 2) := by decide +kernel
theorem dX1_start_17 : decode cX1_start 17 = .ok (.if_icmp .le 6, 3) := by decide +kernel
theorem dX1_start_20 : decode cX1_start 20 = .ok (.bipush (-2), 2) := by decide +kernel
theorem dX1_start_22 : decode cX1_start 22 = .ok (.ireturn, 1) := by decide +kernel
theorem dX1_start_23 : decode cX1_start 23 = .ok (.aload_n 0, 1) := by decide +kernel
theorem dX1_start_24 : decode cX1_start 24 = .ok (.iload_n 1, 1) := by decide +kernel
theorem dX1_start_25 : decode cX1_start 25 = .ok (.iconst (-1), 1) := by decide +kernel
theorem dX1_start_26 : decode cX1_start 26 = .ok (.if_icmp .ne 7, 3) := by decide +kernel
theorem dX1_start_29 : decode cX1_start 29 = .ok (.iconst 1, 1) := by decide +kernel
theorem dX1_start_30 : decode cX1_start 30 = .ok (.goto 4, 3) := by decide +kernel
theorem dX1_start_33 : decode cX1_start 33 = .ok (.iconst 0, 1) := by decide +kernel
theorem dX1_start_34 : decode cX1_start 34 = .ok (.putfield 20, 3) := by decide +kernel
theorem dX1_start_37 : decode cX1_start 37 = .ok (.aload_n 0, 1) := by decide +kernel
theorem dX1_start_38 : decode cX1_start 38 = .ok (.iload_n 1, 1) := by decide +kernel
theorem dX1_start_39 : decode cX1_start 39 = .ok (.putfield 55, 3) := by decide +kernel
theorem dX1_start_42 : decode cX1_start 42 = .ok (.aload_n 0, 1) := by decide +kernel
theorem dX1_start_43 : decode cX1_start 43 = .ok (.getfield 13, 3) := by decide +kernel
theorem dX1_start_46 : decode cX1_start 46 = .ok (.sipush 192, 3) := by decide +kernel
theorem dX1_start_49 : decode cX1_start 49 = .ok (.iaload, 1) := by decide +kernel
theorem dX1_start_50 : decode cX1_start 50 = .ok (.istore_n 2, 1) := by decide +kernel
theorem dX1_start_51 : decode cX1_start 51 = .ok (.iload_n 2, 1) := by decide +kernel
theorem dX1_start_52 : decode cX1_start 52 = .ok (.ifCond .ne 7, 3) := by decide +kernel
theorem dX1_start_55 : decode cX1_start 55 = .ok (.iconst 0, 1) := by decide +kernel
theorem dX1_start_56 : decode cX1_start 56 = .ok (.goto 10, 3) := by decide +kernel
theorem dX1_start_59 : decode cX1_start 59 = .ok (.aload_n 0, 1) := by decide +kernel
theorem dX1_start_60 : decode cX1_start 60 = .ok (.iload_n 2, 1) := by decide +kernel
theorem dX1_start_61 : decode cX1_start 61 = .ok (.invokevirtual 66, 3) := by decide +kernel
theorem dX1_start_64 : decode cX1_start 64 = .ok (.iconst 1, 1) := by decide +kernel
theorem dX1_start_65 : decode cX1_start 65 = .ok (.iadd, 1) := by decide +kernel
theorem dX1_start_66 : decode cX1_start 66 = .ok (.istore_n 3, 1) := by decide +kernel
theorem dX1_start_67 : decode cX1_start 67 = .ok (.iconst 0, 1) := by decide +kernel
theorem dX1_start_68 : decode cX1_start 68 = .ok (.istore 4, 2) := by decide +kernel
theorem dX1_start_70 : decode cX1_start 70 = .ok (.iload 4, 2) := by decide +kernel
theorem dX1_start_72 : decode cX1_start 72 = .ok (.iload_n 3, 1) := by decide +kernel
theorem dX1_start_73 : decode cX1_start 73 = .ok (.if_icmp .ge 89, 3) := by decide +kernel
theorem dX1_start_76 : decode cX1_start 76 = .ok (.aload_n 0, 1) := by decide +kernel
theorem dX1_start_77 : decode cX1_start 77 = .ok (.invokevirtual 69, 3) := by decide +kernel
theorem dX1_start_80 : decode cX1_start 80 = .ok (.ifCond .ne 6, 3) := by decide +kernel
theorem dX1_start_83 : decode cX1_start 83 = .ok (.bipush (-3), 2) := by decide +kernel
theorem dX1_start_85 : decode cX1_start 85 = .ok (.ireturn, 1) := by decide +kernel
theorem dX1_start_86 : decode cX1_start 86 = .ok (.iload 4, 2) := by decide +kernel
theorem dX1_start_88 : decode cX1_start 88 = .ok (.iload_n 3, 1) := by decide +kernel
theorem dX1_start_89 : decode cX1_start 89 = .ok (.iconst 1, 1) := by decide +kernel
theorem dX1_start_90 : decode cX1_start 90 = .ok (.isub, 1) := by decide +kernel
theorem dX1_start_91 : decode cX1_start 91 = .ok (.if_icmp .ne 11, 3) := by decide +kernel
theorem dX1_start_94 : decode cX1_start 94 = .ok (.aload_n 0, 1) := by decide +kernel
theorem dX1_start_95 : decode cX1_start 95 = .ok (.iconst 0, 1) := by decide +kernel
theorem dX1_start_96 : decode cX1_start 96 = .ok (.invokevirtual 73, 3) := by decide +kernel
theorem dX1_start_99 : decode cX1_start 99 = .ok (.goto 57, 3) := by decide +kernel
theorem dX1_start_102 : decode cX1_start 102 = .ok (.aload_n 0, 1) := by decide +kernel
theorem dX1_start_103 : decode cX1_start 103 = .ok (.iload_n 2, 1) := by decide +kernel
theorem dX1_start_104 : decode cX1_start 104 = .ok (.iload 4, 2) := by decide +kernel
theorem dX1_start_106 : decode cX1_start 106 = .ok (.invokevirtual 80, 3) := by decide +kernel
theorem dX1_start_109 : decode cX1_start 109 = .ok (.istore 5, 2) := by decide +kernel
theorem dX1_start_111 : decode cX1_start 111 = .ok (.iconst 0, 1) := by decide +kernel
theorem dX1_start_112 : decode cX1_start 112 = .ok (.istore 6, 2) := by decide +kernel
theorem dX1_start_114 : decode cX1_start 114 = .ok (.iload 6, 2) := by decide +kernel
theorem dX1_start_116 : decode cX1_start 116 = .ok (.bipush 8, 2) := by decide +kernel
theorem dX1_start_118 : decode cX1_start 118 = .ok (.if_icmp .ge 38, 3) := by decide +kernel
theorem dX1_start_121 : decode cX1_start 121 = .ok (.aload_n 0, 1) := by decide +kernel
theorem dX1_start_122 : decode cX1_start 122 = .ok (.getfield 13, 3) := by decide +kernel
theorem dX1_start_125 : decode cX1_start 125 = .ok (.bipush 8, 2) := by decide +kernel
theorem dX1_start_127 : decode cX1_start 127 = .ok (.iload 5, 2) := by decide +kernel
theorem dX1_start_129 : decode cX1_start 129 = .ok (.imul, 1) := by decide +kernel
theorem dX1_start_130 : decode cX1_start 130 = .ok (.iload 6, 2) := by decide +kernel
theorem dX1_start_132 : decode cX1_start 132 = .ok (.iadd, 1) := by decide +kernel
theorem dX1_start_133 : decode cX1_start 133 = .ok (.aload_n 0, 1) := by decide +kernel
theorem dX1_start_134 : decode cX1_start 134 = .ok (.getfield 13, 3) := by decide +kernel
theorem dX1_start_137 : decode cX1_start 137 = .ok (.bipush 96, 2) := by decide +kernel
theorem dX1_start_139 : decode cX1_start 139 = .ok (.bipush 8, 2) := by decide +kernel
theorem dX1_start_141 : decode cX1_start 141 = .ok (.iload 5, 2) := by decide +kernel
theorem dX1_start_143 : decode cX1_start 143 = .ok (.imul, 1) := by decide +kernel
theorem dX1_start_144 : decode cX1_start 144 = .ok (.iadd, 1) := by decide +kernel
theorem dX1_start_145 : decode cX1_start 145 = .ok (.iload 6, 2) := by decide +kernel
theorem dX1_start_147 : decode cX1_start 147 = .ok (.iadd, 1) := by decide +kernel
theorem dX1_start_148 : decode cX1_start 148 = .ok (.iaload, 1) := by decide +kernel
theorem dX1_start_149 : decode cX1_start 149 = .ok (.iastore, 1) := by decide +kernel
theorem dX1_start_150 : decode cX1_start 150 = .ok (.iinc 6 1, 3) := by decide +kernel
theorem dX1_start_153 : decode cX1_start 153 = .ok (.goto (-39), 3) := by decide +kernel
theorem dX1_start_156 : decode cX1_start 156 = .ok (.iinc 4 1, 3) := by decide +kernel
theorem dX1_start_159 : decode cX1_start 159 = .ok (.goto (-89), 3) := by decide +kernel
theorem dX1_start_162 : decode cX1_start 162 = .ok (.iconst 0, 1) := by decide +kernel
theorem dX1_start_163 : decode cX1_start 163 = .ok (.istore 4, 2) := by decide +kernel
theorem dX1_start_165 : decode cX1_start 165 = .ok (.iload 4, 2) := by decide +kernel
theorem dX1_start_167 : decode cX1_start 167 = .ok (.bipush 96, 2) := by decide +kernel
theorem dX1_start_169 : decode cX1_start 169 = .ok (.if_icmp .ge 23, 3) := by decide +kernel
theorem dX1_start_172 : decode cX1_start 172 = .ok (.aload_n 0, 1) := by decide +kernel
theorem dX1_start_173 : decode cX1_start 173 = .ok (.getfield 7, 3) := by decide +kernel
theorem dX1_start_176 : decode cX1_start 176 = .ok (.iload 4, 2) := by decide +kernel
theorem dX1_start_178 : decode cX1_start 178 = .ok (.aload_n 0, 1) := by decide +kernel
theorem dX1_start_179 : decode cX1_start 179 = .ok (.getfield 13, 3) := by decide +kernel
theorem dX1_start_182 : decode cX1_start 182 = .ok (.iload 4, 2) := by decide +kernel
theorem dX1_start_184 : decode cX1_start 184 = .ok (.iaload, 1) := by decide +kernel
theorem dX1_start_185 : decode cX1_start 185 = .ok (.iastore, 1) := by decide +kernel
theorem dX1_start_186 : decode cX1_start 186 = .ok (.iinc 4 1, 3) := by decide +kernel
theorem dX1_start_189 : decode cX1_start 189 = .ok (.goto (-24), 3) := by decide +kernel
theorem dX1_start_192 : decode cX1_start 192 = .ok (.iconst 0, 1) := by decide +kernel
theorem dX1_start_193 : decode cX1_start 193 = .ok (.istore 4, 2) := by decide +kernel
theorem dX1_start_195 : decode cX1_start 195 = .ok (.iload 4, 2) := by decide +kernel
theorem dX1_start_197 : decode cX1_start 197 = .ok (.bipush 12, 2) := by decide +kernel
theorem dX1_start_199 : decode cX1_start 199 = .ok (.if_icmp .ge 17, 3) := by decide +kernel
theorem dX1_start_202 : decode cX1_start 202 = .ok (.aload_n 0, 1) := by decide +kernel
theorem dX1_start_203 : decode cX1_start 203 = .ok (.getfield 16, 3) := by decide +kernel
theorem dX1_start_206 : decode cX1_start 206 = .ok (.iload 4, 2) := by decide +kernel
theorem dX1_start_208 : decode cX1_start 208 = .ok (.iconst 0, 1) := by decide +kernel
theorem dX1_start_209 : decode cX1_start 209 = .ok (.bastore, 1) := by decide +kernel
theorem dX1_start_210 : decode cX1_start 210 = .ok (.iinc 4 1, 3) := by decide +kernel
theorem dX1_start_213 : decode cX1_start 213 = .ok (.goto (-18), 3) := by decide +kernel
theorem dX1_start_216 : decode cX1_start 216 = .ok (.aload_n 0, 1) := by decide +kernel
theorem dX1_start_217 : decode cX1_start 217 = .ok (.iconst 0, 1) := by decide +kernel
theorem dX1_start_218 : decode cX1_start 218 = .ok (.putfield 28, 3) := by decide +kernel
theorem dX1_start_221 : decode cX1_start 221 = .ok (.iload_n 3, 1) := by decide +kernel
theorem dX1_start_222 : decode cX1_start 222 = .ok (.ireturn, 1) := by decide +kernel
theorem dX1_isUp_0 : decode cX1_isUp 0 = .ok (.aload_n 0, 1) := by decide +kernel
theorem dX1_isUp_1 : decode cX1_isUp 1 = .ok (.getfield 28, 3) := by decide +kernel
theorem dX1_isUp_4 : decode cX1_isUp 4 = .ok (.ifCond .ne 7, 3) := by decide +kernel
theorem dX1_isUp_7 : decode cX1_isUp 7 = .ok (.iconst 1, 1) := by decide +kernel
theorem dX1_isUp_8 : decode cX1_isUp 8 = .ok (.goto 4, 3) := by decide +kernel
theorem dX1_isUp_11 : decode cX1_isUp 11 = .ok (.iconst 0, 1) := by decide +kernel
theorem dX1_isUp_12 : decode cX1_isUp 12 = .ok (.ireturn, 1) := by decide +kernel
set_option maxRecDepth 20000 in
theorem ggX1_key_X1_eight : GoodIn wsX1_key wsX1_eight := goodIn_r _ [6] (by decide +kernel) (by decide +kernel)
set_option maxRecDepth 20000 in
theorem gX1_key_X1_eight : GoodIn wsX1_key (va_wsS RX1 31 yX1_eight wsX1_eight) := goodIn_app (goodIn_of _ (by decide +kernel)) ggX1_key_X1_eight
theorem dX1_key_0 : decode cX1_key 0 = .ok (.aload_n 0, 1) := by decide +kernel
theorem dX1_key_1 : decode cX1_key 1 = .ok (.getfield 28, 3) := by decide +kernel
theorem dX1_key_4 : decode cX1_key 4 = .ok (.ifCond .eq 5, 3) := by decide +kernel
theorem dX1_key_7 : decode cX1_key 7 = .ok (.iconst (-1), 1) := by decide +kernel
theorem dX1_key_8 : decode cX1_key 8 = .ok (.ireturn, 1) := by decide +kernel
theorem dX1_key_9 : decode cX1_key 9 = .ok (.iload_n 1, 1) := by decide +kernel
theorem dX1_key_10 : decode cX1_key 10 = .ok (.invokestatic 31, 3) := by decide +kernel
theorem dX1_key_13 : decode cX1_key 13 = .ok (.ifCond .eq 24, 3) := by decide +kernel
theorem dX1_key_16 : decode cX1_key 16 = .ok (.iload_n 2, 1) := by decide +kernel
theorem dX1_key_17 : decode cX1_key 17 = .ok (.invokestatic 31, 3) := by decide +kernel
theorem dX1_key_20 : decode cX1_key 20 = .ok (.ifCond .eq 17, 3) := by decide +kernel
theorem dX1_key_23 : decode cX1_key 23 = .ok (.aload_n 0, 1) := by decide +kernel
theorem dX1_key_24 : decode cX1_key 24 = .ok (.getfield 7, 3) := by decide +kernel
theorem dX1_key_27 : decode cX1_key 27 = .ok (.bipush 8, 2) := by decide +kernel
theorem dX1_key_29 : decode cX1_key 29 = .ok (.iload_n 1, 1) := by decide +kernel
theorem dX1_key_30 : decode cX1_key 30 = .ok (.imul, 1) := by decide +kernel
theorem dX1_key_31 : decode cX1_key 31 = .ok (.iload_n 2, 1) := by decide +kernel
theorem dX1_key_32 : decode cX1_key 32 = .ok (.iadd, 1) := by decide +kernel
theorem dX1_key_33 : decode cX1_key 33 = .ok (.iaload, 1) := by decide +kernel
theorem dX1_key_34 : decode cX1_key 34 = .ok (.goto 5, 3) := by decide +kernel
theorem dX1_key_37 : decode cX1_key 37 = .ok (.bipush (-2), 2) := by decide +kernel
theorem dX1_key_39 : decode cX1_key 39 = .ok (.ireturn, 1) := by decide +kernel
set_option maxRecDepth 20000 in
theorem ggX1_word_X1_eight : GoodIn wsX1_word wsX1_eight := goodIn_r _ [8] (by decide +kernel) (by decide +kernel)
set_option maxRecDepth 20000 in
theorem gX1_word_X1_eight : GoodIn wsX1_word (va_wsS RX1 31 yX1_eight wsX1_eight) := goodIn_app (goodIn_of _ (by decide +kernel)) ggX1_word_X1_eight
theorem dX1_word_0 : decode cX1_word 0 = .ok (.aload_n 0, 1) := by decide +kernel
theorem dX1_word_1 : decode cX1_word 1 = .ok (.getfield 28, 3) := by decide +kernel
theorem dX1_word_4 : decode cX1_word 4 = .ok (.ifCond .eq 7, 3) := by decide +kernel
theorem dX1_word_7 : decode cX1_word 7 = .ok (.ldc2_w 83, 3) := by decide +kernel
theorem dX1_word_10 : decode cX1_word 10 = .ok (.lreturn, 1) := by decide +kernel
theorem dX1_word_11 : decode cX1_word 11 = .ok (.iload_n 1, 1) := by decide +kernel
theorem dX1_word_12 : decode cX1_word 12 = .ok (.bipush 8, 2) := by decide +kernel
theorem dX1_word_14 : decode cX1_word 14 = .ok (.if_icmp .lt 31, 3) := by decide +kernel
theorem dX1_word_17 : decode cX1_word 17 = .ok (.iload_n 1, 1) := by decide +kernel
theorem dX1_word_18 : decode cX1_word 18 = .ok (.bipush 11, 2) := by decide +kernel
theorem dX1_word_20 : decode cX1_word 20 = .ok (.if_icmp .gt 25, 3) := by decide +kernel
theorem dX1_word_23 : decode cX1_word 23 = .ok (.iload_n 2, 1) := by decide +kernel
theorem dX1_word_24 : decode cX1_word 24 = .ok (.invokestatic 31, 3) := by decide +kernel
theorem dX1_word_27 : decode cX1_word 27 = .ok (.ifCond .eq 18, 3) := by decide +kernel
theorem dX1_word_30 : decode cX1_word 30 = .ok (.aload_n 0, 1) := by decide +kernel
theorem dX1_word_31 : decode cX1_word 31 = .ok (.getfield 7, 3) := by decide +kernel
theorem dX1_word_34 : decode cX1_word 34 = .ok (.bipush 8, 2) := by decide +kernel
theorem dX1_word_36 : decode cX1_word 36 = .ok (.iload_n 1, 1) := by decide +kernel
theorem dX1_word_37 : decode cX1_word 37 = .ok (.imul, 1) := by decide +kernel
theorem dX1_word_38 : decode cX1_word 38 = .ok (.iload_n 2, 1) := by decide +kernel
theorem dX1_word_39 : decode cX1_word 39 = .ok (.iadd, 1) := by decide +kernel
theorem dX1_word_40 : decode cX1_word 40 = .ok (.iaload, 1) := by decide +kernel
theorem dX1_word_41 : decode cX1_word 41 = .ok (.i2l, 1) := by decide +kernel
theorem dX1_word_42 : decode cX1_word 42 = .ok (.goto 6, 3) := by decide +kernel
theorem dX1_word_45 : decode cX1_word 45 = .ok (.ldc2_w 85, 3) := by decide +kernel
theorem dX1_word_48 : decode cX1_word 48 = .ok (.lreturn, 1) := by decide +kernel
theorem dX1_dirty_0 : decode cX1_dirty 0 = .ok (.aload_n 0, 1) := by decide +kernel
theorem dX1_dirty_1 : decode cX1_dirty 1 = .ok (.getfield 28, 3) := by decide +kernel
theorem dX1_dirty_4 : decode cX1_dirty 4 = .ok (.ifCond .eq 5, 3) := by decide +kernel
theorem dX1_dirty_7 : decode cX1_dirty 7 = .ok (.iconst (-1), 1) := by decide +kernel
theorem dX1_dirty_8 : decode cX1_dirty 8 = .ok (.ireturn, 1) := by decide +kernel
theorem dX1_dirty_9 : decode cX1_dirty 9 = .ok (.iconst 0, 1) := by decide +kernel
theorem dX1_dirty_10 : decode cX1_dirty 10 = .ok (.istore_n 1, 1) := by decide +kernel
theorem dX1_dirty_11 : decode cX1_dirty 11 = .ok (.iconst 0, 1) := by decide +kernel
theorem dX1_dirty_12 : decode cX1_dirty 12 = .ok (.istore_n 2, 1) := by decide +kernel
theorem dX1_dirty_13 : decode cX1_dirty 13 = .ok (.iload_n 2, 1) := by decide +kernel
theorem dX1_dirty_14 : decode cX1_dirty 14 = .ok (.bipush 12, 2) := by decide +kernel
theorem dX1_dirty_16 : decode cX1_dirty 16 = .ok (.if_icmp .ge 24, 3) := by decide +kernel
theorem dX1_dirty_19 : decode cX1_dirty 19 = .ok (.aload_n 0, 1) := by decide +kernel
theorem dX1_dirty_20 : decode cX1_dirty 20 = .ok (.getfield 16, 3) := by decide +kernel
theorem dX1_dirty_23 : decode cX1_dirty 23 = .ok (.iload_n 2, 1) := by decide +kernel
theorem dX1_dirty_24 : decode cX1_dirty 24 = .ok (.baload, 1) := by decide +kernel
theorem dX1_dirty_25 : decode cX1_dirty 25 = .ok (.ifCond .eq 9, 3) := by decide +kernel
theorem dX1_dirty_28 : decode cX1_dirty 28 = .ok (.iload_n 1, 1) := by decide +kernel
theorem dX1_dirty_29 : decode cX1_dirty 29 = .ok (.iconst 1, 1) := by decide +kernel
theorem dX1_dirty_30 : decode cX1_dirty 30 = .ok (.iload_n 2, 1) := by decide +kernel
theorem dX1_dirty_31 : decode cX1_dirty 31 = .ok (.ishl, 1) := by decide +kernel
theorem dX1_dirty_32 : decode cX1_dirty 32 = .ok (.iadd, 1) := by decide +kernel
theorem dX1_dirty_33 : decode cX1_dirty 33 = .ok (.istore_n 1, 1) := by decide +kernel
theorem dX1_dirty_34 : decode cX1_dirty 34 = .ok (.iinc 2 1, 3) := by decide +kernel
theorem dX1_dirty_37 : decode cX1_dirty 37 = .ok (.goto (-24), 3) := by decide +kernel
theorem dX1_dirty_40 : decode cX1_dirty 40 = .ok (.iload_n 1, 1) := by decide +kernel
theorem dX1_dirty_41 : decode cX1_dirty 41 = .ok (.ireturn, 1) := by decide +kernel
set_option maxRecDepth 20000 in
theorem ggX1_disk_X1_eight : GoodIn wsX1_disk wsX1_eight := goodIn_r _ [5] (by decide +kernel) (by decide +kernel)
set_option maxRecDepth 20000 in
theorem gX1_disk_X1_eight : GoodIn wsX1_disk (va_wsS RX1 31 yX1_eight wsX1_eight) := goodIn_app (goodIn_of _ (by decide +kernel)) ggX1_disk_X1_eight
theorem dX1_disk_0 : decode cX1_disk 0 = .ok (.iload_n 1, 1) := by decide +kernel
theorem dX1_disk_1 : decode cX1_disk 1 = .ok (.ifCond .lt 30, 3) := by decide +kernel
theorem dX1_disk_4 : decode cX1_disk 4 = .ok (.iload_n 1, 1) := by decide +kernel
theorem dX1_disk_5 : decode cX1_disk 5 = .ok (.bipush 24, 2) := by decide +kernel
theorem dX1_disk_7 : decode cX1_disk 7 = .ok (.if_icmp .gt 24, 3) := by decide +kernel
theorem dX1_disk_10 : decode cX1_disk 10 = .ok (.iload_n 2, 1) := by decide +kernel
theorem dX1_disk_11 : decode cX1_disk 11 = .ok (.invokestatic 31, 3) := by decide +kernel
theorem dX1_disk_14 : decode cX1_disk 14 = .ok (.ifCond .eq 17, 3) := by decide +kernel
theorem dX1_disk_17 : decode cX1_disk 17 = .ok (.aload_n 0, 1) := by decide +kernel
theorem dX1_disk_18 : decode cX1_disk 18 = .ok (.getfield 13, 3) := by decide +kernel
theorem dX1_disk_21 : decode cX1_disk 21 = .ok (.bipush 8, 2) := by decide +kernel
theorem dX1_disk_23 : decode cX1_disk 23 = .ok (.iload_n 1, 1) := by decide +kernel
theorem dX1_disk_24 : decode cX1_disk 24 = .ok (.imul, 1) := by decide +kernel
theorem dX1_disk_25 : decode cX1_disk 25 = .ok (.iload_n 2, 1) := by decide +kernel
theorem dX1_disk_26 : decode cX1_disk 26 = .ok (.iadd, 1) := by decide +kernel
theorem dX1_disk_27 : decode cX1_disk 27 = .ok (.iaload, 1) := by decide +kernel
theorem dX1_disk_28 : decode cX1_disk 28 = .ok (.goto 4, 3) := by decide +kernel
theorem dX1_disk_31 : decode cX1_disk 31 = .ok (.iconst 0, 1) := by decide +kernel
theorem dX1_disk_32 : decode cX1_disk 32 = .ok (.ireturn, 1) := by decide +kernel
theorem dX1_writes_0 : decode cX1_writes 0 = .ok (.aload_n 0, 1) := by decide +kernel
theorem dX1_writes_1 : decode cX1_writes 1 = .ok (.getfield 59, 3) := by decide +kernel
theorem dX1_writes_4 : decode cX1_writes 4 = .ok (.ireturn, 1) := by decide +kernel
theorem dX1_commits_0 : decode cX1_commits 0 = .ok (.aload_n 0, 1) := by decide +kernel
theorem dX1_commits_1 : decode cX1_commits 1 = .ok (.getfield 77, 3) := by decide +kernel
theorem dX1_commits_4 : decode cX1_commits 4 = .ok (.ireturn, 1) := by decide +kernel

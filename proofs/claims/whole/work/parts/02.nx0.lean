theorem dX0_init_0 : decode cX0_init 0 = .ok (.aload_n 0, 1) := by decide +kernel
theorem dX0_init_1 : decode cX0_init 1 = .ok (.invokespecial 3, 3) := by decide +kernel
theorem dX0_init_4 : decode cX0_init 4 = .ok (.aload_n 0, 1) := by decide +kernel
theorem dX0_init_5 : decode cX0_init 5 = .ok (.bipush 96, 2) := by decide +kernel
theorem dX0_init_7 : decode cX0_init 7 = .ok (.newarray .int, 2) := by decide +kernel
theorem dX0_init_9 : decode cX0_init 9 = .ok (.putfield 9, 3) := by decide +kernel
theorem dX0_init_12 : decode cX0_init 12 = .ok (.aload_n 0, 1) := by decide +kernel
theorem dX0_init_13 : decode cX0_init 13 = .ok (.sipush 200, 3) := by decide +kernel
theorem dX0_init_16 : decode cX0_init 16 = .ok (.newarray .int, 2) := by decide +kernel
theorem dX0_init_18 : decode cX0_init 18 = .ok (.putfield 13, 3) := by decide +kernel
theorem dX0_init_21 : decode cX0_init 21 = .ok (.aload_n 0, 1) := by decide +kernel
theorem dX0_init_22 : decode cX0_init 22 = .ok (.bipush 8, 2) := by decide +kernel
theorem dX0_init_24 : decode cX0_init 24 = .ok (.newarray .int, 2) := by decide +kernel
theorem dX0_init_26 : decode cX0_init 26 = .ok (.putfield 16, 3) := by decide +kernel
theorem dX0_init_29 : decode cX0_init 29 = .ok (.aload_n 0, 1) := by decide +kernel
theorem dX0_init_30 : decode cX0_init 30 = .ok (.iconst 0, 1) := by decide +kernel
theorem dX0_init_31 : decode cX0_init 31 = .ok (.putfield 19, 3) := by decide +kernel
theorem dX0_init_34 : decode cX0_init 34 = .ok (.aload_n 0, 1) := by decide +kernel
theorem dX0_init_35 : decode cX0_init 35 = .ok (.iconst (-1), 1) := by decide +kernel
theorem dX0_init_36 : decode cX0_init 36 = .ok (.putfield 23, 3) := by decide +kernel
theorem dX0_init_39 : decode cX0_init 39 = .ok (.aload_n 0, 1) := by decide +kernel
theorem dX0_init_40 : decode cX0_init 40 = .ok (.iconst 1, 1) := by decide +kernel
theorem dX0_init_41 : decode cX0_init 41 = .ok (.putfield 26, 3) := by decide +kernel
theorem dX0_init_44 : decode cX0_init 44 = .ok (.aload_n 0, 1) := by decide +kernel
theorem dX0_init_45 : decode cX0_init 45 = .ok (.iconst 0, 1) := by decide +kernel
theorem dX0_init_46 : decode cX0_init 46 = .ok (.putfield 30, 3) := by decide +kernel
theorem dX0_init_49 : decode cX0_init 49 = .ok (.aload_n 0, 1) := by decide +kernel
theorem dX0_init_50 : decode cX0_init 50 = .ok (.iconst 0, 1) := by decide +kernel
theorem dX0_init_51 : decode cX0_init 51 = .ok (.putfield 33, 3) := by decide +kernel
theorem dX0_init_54 : decode cX0_init 54 = .ok (.return_, 1) := by decide +kernel
set_option maxRecDepth 20000 in
theorem ggX0_place_X0_isNode : GoodIn wsX0_place wsX0_isNode := goodIn_r _ [4] (by decide +kernel) (by decide +kernel)
set_option maxRecDepth 20000 in
theorem gX0_place_X0_isNode : GoodIn wsX0_place (va_wsS RX0 36 yX0_isNode wsX0_isNode) := goodIn_app (goodIn_of _ (by decide +kernel)) ggX0_place_X0_isNode
set_option maxRecDepth 20000 in
theorem ggX0_place_X0_isInRow : GoodIn wsX0_place wsX0_isInRow := goodIn_r _ [7] (by decide +kernel) (by decide +kernel)
set_option maxRecDepth 20000 in
theorem gX0_place_X0_isInRow : GoodIn wsX0_place (va_wsS RX0 40 yX0_isInRow wsX0_isInRow) := goodIn_app (goodIn_of _ (by decide +kernel)) ggX0_place_X0_isInRow
set_option maxRecDepth 20000 in
theorem ggX0_place_X0_isKey : GoodIn wsX0_place wsX0_isKey := goodIn_r _ [10] (by decide +kernel) (by decide +kernel)
set_option maxRecDepth 20000 in
theorem gX0_place_X0_isKey : GoodIn wsX0_place (va_wsS RX0 43 yX0_isKey wsX0_isKey) := goodIn_app (goodIn_of _ (by decide +kernel)) ggX0_place_X0_isKey
set_option maxRecDepth 20000 in
theorem ggX0_place_X0_refusal : GoodIn wsX0_place wsX0_refusal := goodIn_r _ [14, 15, 22, 23, 24, 25, 26, 27, 28, 29] (by decide +kernel) (by decide +kernel)
set_option maxRecDepth 20000 in
theorem gX0_place_X0_refusal : GoodIn wsX0_place (wsV RX0 46 RX0 yX0_refusal wsX0_refusal) := goodIn_app (goodIn_of _ (by decide +kernel)) ggX0_place_X0_refusal
set_option maxRecDepth 20000 in
theorem ggX0_place_X0_put : GoodIn wsX0_place wsX0_put := goodIn_r _ [19, 20, 21, 22, 23, 24, 25, 26, 27, 28, 29] (by decide +kernel) (by decide +kernel)
set_option maxRecDepth 20000 in
theorem gX0_place_X0_put : GoodIn wsX0_place (wsV RX0 50 RX0 yX0_put wsX0_put) := goodIn_app (goodIn_of _ (by decide +kernel)) ggX0_place_X0_put
theorem dX0_place_0 : decode cX0_place 0 = .ok (.aload_n 0, 1) := by decide +kernel
theorem dX0_place_1 : decode cX0_place 1 = .ok (.iload_n 1, 1) := by decide +kernel
theorem dX0_place_2 : decode cX0_place 2 = .ok (.invokestatic 36, 3) := by decide +kernel
theorem dX0_place_5 : decode cX0_place 5 = .ok (.ifCond .eq 21, 3) := by decide +kernel
theorem dX0_place_8 : decode cX0_place 8 = .ok (.iload_n 2, 1) := by decide +kernel
theorem dX0_place_9 : decode cX0_place 9 = .ok (.invokestatic 40, 3) := by decide +kernel
theorem dX0_place_12 : decode cX0_place 12 = .ok (.ifCond .eq 14, 3) := by decide +kernel
theorem dX0_place_15 : decode cX0_place 15 = .ok (.iload_n 3, 1) := by decide +kernel
theorem dX0_place_16 : decode cX0_place 16 = .ok (.invokestatic 43, 3) := by decide +kernel
theorem dX0_place_19 : decode cX0_place 19 = .ok (.ifCond .eq 7, 3) := by decide +kernel
theorem dX0_place_22 : decode cX0_place 22 = .ok (.iconst 1, 1) := by decide +kernel
theorem dX0_place_23 : decode cX0_place 23 = .ok (.goto 4, 3) := by decide +kernel
theorem dX0_place_26 : decode cX0_place 26 = .ok (.iconst 0, 1) := by decide +kernel
theorem dX0_place_27 : decode cX0_place 27 = .ok (.invokevirtual 46, 3) := by decide +kernel
theorem dX0_place_30 : decode cX0_place 30 = .ok (.istore 4, 2) := by decide +kernel
theorem dX0_place_32 : decode cX0_place 32 = .ok (.iload 4, 2) := by decide +kernel
theorem dX0_place_34 : decode cX0_place 34 = .ok (.ifCond .eq 6, 3) := by decide +kernel
theorem dX0_place_37 : decode cX0_place 37 = .ok (.iload 4, 2) := by decide +kernel
theorem dX0_place_39 : decode cX0_place 39 = .ok (.ireturn, 1) := by decide +kernel
theorem dX0_place_40 : decode cX0_place 40 = .ok (.aload_n 0, 1) := by decide +kernel
theorem dX0_place_41 : decode cX0_place 41 = .ok (.iload_n 1, 1) := by decide +kernel
theorem dX0_place_42 : decode cX0_place 42 = .ok (.iload_n 2, 1) := by decide +kernel
theorem dX0_place_43 : decode cX0_place 43 = .ok (.iload_n 3, 1) := by decide +kernel
theorem dX0_place_44 : decode cX0_place 44 = .ok (.invokevirtual 50, 3) := by decide +kernel
theorem dX0_place_47 : decode cX0_place 47 = .ok (.iconst 0, 1) := by decide +kernel
theorem dX0_place_48 : decode cX0_place 48 = .ok (.ireturn, 1) := by decide +kernel
set_option maxRecDepth 20000 in
theorem ggX0_fetch_X0_isInRow : GoodIn wsX0_fetch wsX0_isInRow := goodIn_r _ [4] (by decide +kernel) (by decide +kernel)
set_option maxRecDepth 20000 in
theorem gX0_fetch_X0_isInRow : GoodIn wsX0_fetch (va_wsS RX0 40 yX0_isInRow wsX0_isInRow) := goodIn_app (goodIn_of _ (by decide +kernel)) ggX0_fetch_X0_isInRow
set_option maxRecDepth 20000 in
theorem ggX0_fetch_X0_nodeRefusal : GoodIn wsX0_fetch wsX0_nodeRefusal := goodIn_r _ [8, 9, 10, 3, 11, 1, 2, 4, 12, 13, 14, 15, 16, 17, 18, 19, 20, 21, 22, 23, 24, 42, 43, 44, 45, 46, 47, 48, 49] (by decide +kernel) (by decide +kernel)
set_option maxRecDepth 20000 in
theorem gX0_fetch_X0_nodeRefusal : GoodIn wsX0_fetch (wsV RX0 54 RX0 yX0_nodeRefusal wsX0_nodeRefusal) := goodIn_app (goodIn_of _ (by decide +kernel)) ggX0_fetch_X0_nodeRefusal
set_option maxRecDepth 20000 in
theorem ggX0_fetch_X0_get : GoodIn wsX0_fetch wsX0_get := goodIn_r _ [20, 21, 42, 43, 44, 45, 46, 47, 48, 49] (by decide +kernel) (by decide +kernel)
set_option maxRecDepth 20000 in
theorem gX0_fetch_X0_get : GoodIn wsX0_fetch (wsV RX0 58 RX0 yX0_get wsX0_get) := goodIn_app (goodIn_of _ (by decide +kernel)) ggX0_fetch_X0_get
set_option maxRecDepth 20000 in
theorem ggX0_fetch_X0_objectOf : GoodIn wsX0_fetch wsX0_objectOf := goodIn_r _ [27] (by decide +kernel) (by decide +kernel)
set_option maxRecDepth 20000 in
theorem gX0_fetch_X0_objectOf : GoodIn wsX0_fetch (va_wsS RX0 62 yX0_objectOf wsX0_objectOf) := goodIn_app (goodIn_of _ (by decide +kernel)) ggX0_fetch_X0_objectOf
set_option maxRecDepth 20000 in
theorem ggX0_fetch_X0_isWeak : GoodIn wsX0_fetch wsX0_isWeak := goodIn_r _ [30, 31, 32, 3, 33] (by decide +kernel) (by decide +kernel)
set_option maxRecDepth 20000 in
theorem gX0_fetch_X0_isWeak : GoodIn wsX0_fetch (va_wsS RX0 66 yX0_isWeak wsX0_isWeak) := goodIn_app (goodIn_of _ (by decide +kernel)) ggX0_fetch_X0_isWeak
set_option maxRecDepth 20000 in
theorem ggX0_fetch_X0_limited : GoodIn wsX0_fetch wsX0_limited := goodIn_r _ [36, 25, 26, 3, 27, 31, 32, 33] (by decide +kernel) (by decide +kernel)
set_option maxRecDepth 20000 in
theorem gX0_fetch_X0_limited : GoodIn wsX0_fetch (va_wsS RX0 69 yX0_limited wsX0_limited) := goodIn_app (goodIn_of _ (by decide +kernel)) ggX0_fetch_X0_limited
set_option maxRecDepth 20000 in
theorem ggX0_fetch_X0_put : GoodIn wsX0_fetch wsX0_put := goodIn_r _ [40, 21, 41, 42, 43, 44, 45, 46, 47, 48, 49] (by decide +kernel) (by decide +kernel)
set_option maxRecDepth 20000 in
theorem gX0_fetch_X0_put : GoodIn wsX0_fetch (wsV RX0 50 RX0 yX0_put wsX0_put) := goodIn_app (goodIn_of _ (by decide +kernel)) ggX0_fetch_X0_put
theorem dX0_fetch_0 : decode cX0_fetch 0 = .ok (.aload_n 0, 1) := by decide +kernel
theorem dX0_fetch_1 : decode cX0_fetch 1 = .ok (.iload_n 1, 1) := by decide +kernel
theorem dX0_fetch_2 : decode cX0_fetch 2 = .ok (.iload_n 2, 1) := by decide +kernel
theorem dX0_fetch_3 : decode cX0_fetch 3 = .ok (.iload_n 3, 1) := by decide +kernel
theorem dX0_fetch_4 : decode cX0_fetch 4 = .ok (.invokestatic 40, 3) := by decide +kernel
theorem dX0_fetch_7 : decode cX0_fetch 7 = .ok (.ifCond .eq 15, 3) := by decide +kernel
theorem dX0_fetch_10 : decode cX0_fetch 10 = .ok (.iload 4, 2) := by decide +kernel
theorem dX0_fetch_12 : decode cX0_fetch 12 = .ok (.invokestatic 40, 3) := by decide +kernel
theorem dX0_fetch_15 : decode cX0_fetch 15 = .ok (.ifCond .eq 7, 3) := by decide +kernel
theorem dX0_fetch_18 : decode cX0_fetch 18 = .ok (.iconst 1, 1) := by decide +kernel
theorem dX0_fetch_19 : decode cX0_fetch 19 = .ok (.goto 4, 3) := by decide +kernel
theorem dX0_fetch_22 : decode cX0_fetch 22 = .ok (.iconst 0, 1) := by decide +kernel
theorem dX0_fetch_23 : decode cX0_fetch 23 = .ok (.invokevirtual 54, 3) := by decide +kernel
theorem dX0_fetch_26 : decode cX0_fetch 26 = .ok (.istore 5, 2) := by decide +kernel
theorem dX0_fetch_28 : decode cX0_fetch 28 = .ok (.iload 5, 2) := by decide +kernel
theorem dX0_fetch_30 : decode cX0_fetch 30 = .ok (.ifCond .eq 6, 3) := by decide +kernel
theorem dX0_fetch_33 : decode cX0_fetch 33 = .ok (.iload 5, 2) := by decide +kernel
theorem dX0_fetch_35 : decode cX0_fetch 35 = .ok (.ireturn, 1) := by decide +kernel
theorem dX0_fetch_36 : decode cX0_fetch 36 = .ok (.aload_n 0, 1) := by decide +kernel
theorem dX0_fetch_37 : decode cX0_fetch 37 = .ok (.iload_n 1, 1) := by decide +kernel
theorem dX0_fetch_38 : decode cX0_fetch 38 = .ok (.iload_n 2, 1) := by decide +kernel
theorem dX0_fetch_39 : decode cX0_fetch 39 = .ok (.invokevirtual 58, 3) := by decide +kernel
theorem dX0_fetch_42 : decode cX0_fetch 42 = .ok (.istore 6, 2) := by decide +kernel
theorem dX0_fetch_44 : decode cX0_fetch 44 = .ok (.aload_n 0, 1) := by decide +kernel
theorem dX0_fetch_45 : decode cX0_fetch 45 = .ok (.iload 6, 2) := by decide +kernel
theorem dX0_fetch_47 : decode cX0_fetch 47 = .ok (.invokestatic 62, 3) := by decide +kernel
theorem dX0_fetch_50 : decode cX0_fetch 50 = .ok (.iload_n 3, 1) := by decide +kernel
theorem dX0_fetch_51 : decode cX0_fetch 51 = .ok (.invokevirtual 58, 3) := by decide +kernel
theorem dX0_fetch_54 : decode cX0_fetch 54 = .ok (.istore 7, 2) := by decide +kernel
theorem dX0_fetch_56 : decode cX0_fetch 56 = .ok (.aload_n 0, 1) := by decide +kernel
theorem dX0_fetch_57 : decode cX0_fetch 57 = .ok (.iload_n 1, 1) := by decide +kernel
theorem dX0_fetch_58 : decode cX0_fetch 58 = .ok (.iload 4, 2) := by decide +kernel
theorem dX0_fetch_60 : decode cX0_fetch 60 = .ok (.iload 6, 2) := by decide +kernel
theorem dX0_fetch_62 : decode cX0_fetch 62 = .ok (.invokestatic 66, 3) := by decide +kernel
theorem dX0_fetch_65 : decode cX0_fetch 65 = .ok (.ifCond .eq 12, 3) := by decide +kernel
theorem dX0_fetch_68 : decode cX0_fetch 68 = .ok (.iload 7, 2) := by decide +kernel
theorem dX0_fetch_70 : decode cX0_fetch 70 = .ok (.iconst 3, 1) := by decide +kernel
theorem dX0_fetch_71 : decode cX0_fetch 71 = .ok (.invokestatic 69, 3) := by decide +kernel
theorem dX0_fetch_74 : decode cX0_fetch 74 = .ok (.goto 5, 3) := by decide +kernel
theorem dX0_fetch_77 : decode cX0_fetch 77 = .ok (.iload 7, 2) := by decide +kernel
theorem dX0_fetch_79 : decode cX0_fetch 79 = .ok (.invokevirtual 50, 3) := by decide +kernel
theorem dX0_fetch_82 : decode cX0_fetch 82 = .ok (.iconst 0, 1) := by decide +kernel
theorem dX0_fetch_83 : decode cX0_fetch 83 = .ok (.ireturn, 1) := by decide +kernel
set_option maxRecDepth 20000 in
theorem ggX0_store_X0_isInRow : GoodIn wsX0_store wsX0_isInRow := goodIn_r _ [4] (by decide +kernel) (by decide +kernel)
set_option maxRecDepth 20000 in
theorem gX0_store_X0_isInRow : GoodIn wsX0_store (va_wsS RX0 40 yX0_isInRow wsX0_isInRow) := goodIn_app (goodIn_of _ (by decide +kernel)) ggX0_store_X0_isInRow
set_option maxRecDepth 20000 in
theorem ggX0_store_X0_nodeRefusal : GoodIn wsX0_store wsX0_nodeRefusal := goodIn_r _ [8, 9, 10, 3, 11, 1, 2, 4, 12, 13, 14, 15, 16, 17, 18, 19, 20, 21, 22, 23, 24, 39, 40, 41, 42, 43, 44, 45, 46] (by decide +kernel) (by decide +kernel)
set_option maxRecDepth 20000 in
theorem gX0_store_X0_nodeRefusal : GoodIn wsX0_store (wsV RX0 54 RX0 yX0_nodeRefusal wsX0_nodeRefusal) := goodIn_app (goodIn_of _ (by decide +kernel)) ggX0_store_X0_nodeRefusal
set_option maxRecDepth 20000 in
theorem ggX0_store_X0_get : GoodIn wsX0_store wsX0_get := goodIn_r _ [20, 21, 39, 40, 41, 42, 43, 44, 45, 46] (by decide +kernel) (by decide +kernel)
set_option maxRecDepth 20000 in
theorem gX0_store_X0_get : GoodIn wsX0_store (wsV RX0 58 RX0 yX0_get wsX0_get) := goodIn_app (goodIn_of _ (by decide +kernel)) ggX0_store_X0_get
set_option maxRecDepth 20000 in
theorem ggX0_store_X0_isWriting : GoodIn wsX0_store wsX0_isWriting := goodIn_r _ [27, 28, 29, 3, 30] (by decide +kernel) (by decide +kernel)
set_option maxRecDepth 20000 in
theorem gX0_store_X0_isWriting : GoodIn wsX0_store (va_wsS RX0 72 yX0_isWriting wsX0_isWriting) := goodIn_app (goodIn_of _ (by decide +kernel)) ggX0_store_X0_isWriting
set_option maxRecDepth 20000 in
theorem ggX0_store_X0_objectOf : GoodIn wsX0_store wsX0_objectOf := goodIn_r _ [33] (by decide +kernel) (by decide +kernel)
set_option maxRecDepth 20000 in
theorem gX0_store_X0_objectOf : GoodIn wsX0_store (va_wsS RX0 62 yX0_objectOf wsX0_objectOf) := goodIn_app (goodIn_of _ (by decide +kernel)) ggX0_store_X0_objectOf
set_option maxRecDepth 20000 in
theorem ggX0_store_X0_put : GoodIn wsX0_store wsX0_put := goodIn_r _ [37, 21, 38, 39, 40, 41, 42, 43, 44, 45, 46] (by decide +kernel) (by decide +kernel)
set_option maxRecDepth 20000 in
theorem gX0_store_X0_put : GoodIn wsX0_store (wsV RX0 50 RX0 yX0_put wsX0_put) := goodIn_app (goodIn_of _ (by decide +kernel)) ggX0_store_X0_put
theorem dX0_store_0 : decode cX0_store 0 = .ok (.aload_n 0, 1) := by decide +kernel
theorem dX0_store_1 : decode cX0_store 1 = .ok (.iload_n 1, 1) := by decide +kernel
theorem dX0_store_2 : decode cX0_store 2 = .ok (.iload_n 2, 1) := by decide +kernel
theorem dX0_store_3 : decode cX0_store 3 = .ok (.iload_n 3, 1) := by decide +kernel
theorem dX0_store_4 : decode cX0_store 4 = .ok (.invokestatic 40, 3) := by decide +kernel
theorem dX0_store_7 : decode cX0_store 7 = .ok (.ifCond .eq 15, 3) := by decide +kernel
theorem dX0_store_10 : decode cX0_store 10 = .ok (.iload 4, 2) := by decide +kernel
theorem dX0_store_12 : decode cX0_store 12 = .ok (.invokestatic 40, 3) := by decide +kernel
theorem dX0_store_15 : decode cX0_store 15 = .ok (.ifCond .eq 7, 3) := by decide +kernel
theorem dX0_store_18 : decode cX0_store 18 = .ok (.iconst 1, 1) := by decide +kernel
theorem dX0_store_19 : decode cX0_store 19 = .ok (.goto 4, 3) := by decide +kernel
theorem dX0_store_22 : decode cX0_store 22 = .ok (.iconst 0, 1) := by decide +kernel
theorem dX0_store_23 : decode cX0_store 23 = .ok (.invokevirtual 54, 3) := by decide +kernel
theorem dX0_store_26 : decode cX0_store 26 = .ok (.istore 5, 2) := by decide +kernel
theorem dX0_store_28 : decode cX0_store 28 = .ok (.iload 5, 2) := by decide +kernel
theorem dX0_store_30 : decode cX0_store 30 = .ok (.ifCond .eq 6, 3) := by decide +kernel
theorem dX0_store_33 : decode cX0_store 33 = .ok (.iload 5, 2) := by decide +kernel
theorem dX0_store_35 : decode cX0_store 35 = .ok (.ireturn, 1) := by decide +kernel
theorem dX0_store_36 : decode cX0_store 36 = .ok (.aload_n 0, 1) := by decide +kernel
theorem dX0_store_37 : decode cX0_store 37 = .ok (.iload_n 1, 1) := by decide +kernel
theorem dX0_store_38 : decode cX0_store 38 = .ok (.iload_n 2, 1) := by decide +kernel
theorem dX0_store_39 : decode cX0_store 39 = .ok (.invokevirtual 58, 3) := by decide +kernel
theorem dX0_store_42 : decode cX0_store 42 = .ok (.istore 6, 2) := by decide +kernel
theorem dX0_store_44 : decode cX0_store 44 = .ok (.iload 6, 2) := by decide +kernel
theorem dX0_store_46 : decode cX0_store 46 = .ok (.invokestatic 72, 3) := by decide +kernel
theorem dX0_store_49 : decode cX0_store 49 = .ok (.ifCond .ne 6, 3) := by decide +kernel
theorem dX0_store_52 : decode cX0_store 52 = .ok (.bipush (-4), 2) := by decide +kernel
theorem dX0_store_54 : decode cX0_store 54 = .ok (.ireturn, 1) := by decide +kernel
theorem dX0_store_55 : decode cX0_store 55 = .ok (.aload_n 0, 1) := by decide +kernel
theorem dX0_store_56 : decode cX0_store 56 = .ok (.iload 6, 2) := by decide +kernel
theorem dX0_store_58 : decode cX0_store 58 = .ok (.invokestatic 62, 3) := by decide +kernel
theorem dX0_store_61 : decode cX0_store 61 = .ok (.iload_n 3, 1) := by decide +kernel
theorem dX0_store_62 : decode cX0_store 62 = .ok (.aload_n 0, 1) := by decide +kernel
theorem dX0_store_63 : decode cX0_store 63 = .ok (.iload_n 1, 1) := by decide +kernel
theorem dX0_store_64 : decode cX0_store 64 = .ok (.iload 4, 2) := by decide +kernel
theorem dX0_store_66 : decode cX0_store 66 = .ok (.invokevirtual 58, 3) := by decide +kernel
theorem dX0_store_69 : decode cX0_store 69 = .ok (.invokevirtual 50, 3) := by decide +kernel
theorem dX0_store_72 : decode cX0_store 72 = .ok (.iconst 0, 1) := by decide +kernel
theorem dX0_store_73 : decode cX0_store 73 = .ok (.ireturn, 1) := by decide +kernel
set_option maxRecDepth 20000 in
theorem ggX0_read_X0_isInRow : GoodIn wsX0_read wsX0_isInRow := goodIn_r _ [5] (by decide +kernel) (by decide +kernel)
set_option maxRecDepth 20000 in
theorem gX0_read_X0_isInRow : GoodIn wsX0_read (va_wsS RX0 40 yX0_isInRow wsX0_isInRow) := goodIn_app (goodIn_of _ (by decide +kernel)) ggX0_read_X0_isInRow
set_option maxRecDepth 20000 in
theorem ggX0_read_X0_pageRefusal : GoodIn wsX0_read wsX0_pageRefusal := goodIn_r _ [9, 10, 11, 4, 12, 2, 3, 5, 13, 14, 15, 16, 17, 18, 19, 20, 21, 22, 23, 24, 25, 29, 30, 31, 32, 33, 34, 35, 36] (by decide +kernel) (by decide +kernel)
set_option maxRecDepth 20000 in
theorem gX0_read_X0_pageRefusal : GoodIn wsX0_read (wsV RX0 75 RX0 yX0_pageRefusal wsX0_pageRefusal) := goodIn_app (goodIn_of _ (by decide +kernel)) ggX0_read_X0_pageRefusal
set_option maxRecDepth 20000 in
theorem ggX0_read_X0_get : GoodIn wsX0_read wsX0_get := goodIn_r _ [21, 22, 29, 30, 31, 32, 33, 34, 35, 36] (by decide +kernel) (by decide +kernel)
set_option maxRecDepth 20000 in
theorem gX0_read_X0_get : GoodIn wsX0_read (wsV RX0 58 RX0 yX0_get wsX0_get) := goodIn_app (goodIn_of _ (by decide +kernel)) ggX0_read_X0_get
set_option maxRecDepth 20000 in
theorem ggX0_read_X0_objectOf : GoodIn wsX0_read wsX0_objectOf := goodIn_r _ [28] (by decide +kernel) (by decide +kernel)
set_option maxRecDepth 20000 in
theorem gX0_read_X0_objectOf : GoodIn wsX0_read (va_wsS RX0 62 yX0_objectOf wsX0_objectOf) := goodIn_app (goodIn_of _ (by decide +kernel)) ggX0_read_X0_objectOf
theorem dX0_read_0 : decode cX0_read 0 = .ok (.aload_n 0, 1) := by decide +kernel
theorem dX0_read_1 : decode cX0_read 1 = .ok (.iload_n 1, 1) := by decide +kernel
theorem dX0_read_2 : decode cX0_read 2 = .ok (.iload_n 2, 1) := by decide +kernel
theorem dX0_read_3 : decode cX0_read 3 = .ok (.iload_n 3, 1) := by decide +kernel
theorem dX0_read_4 : decode cX0_read 4 = .ok (.invokestatic 40, 3) := by decide +kernel
theorem dX0_read_7 : decode cX0_read 7 = .ok (.invokevirtual 75, 3) := by decide +kernel
theorem dX0_read_10 : decode cX0_read 10 = .ok (.istore 4, 2) := by decide +kernel
theorem dX0_read_12 : decode cX0_read 12 = .ok (.iload 4, 2) := by decide +kernel
theorem dX0_read_14 : decode cX0_read 14 = .ok (.ifCond .eq 11, 3) := by decide +kernel
theorem dX0_read_17 : decode cX0_read 17 = .ok (.ldc2_w 78, 3) := by decide +kernel
theorem dX0_read_20 : decode cX0_read 20 = .ok (.iload 4, 2) := by decide +kernel
theorem dX0_read_22 : decode cX0_read 22 = .ok (.i2l, 1) := by decide +kernel
theorem dX0_read_23 : decode cX0_read 23 = .ok (.ladd, 1) := by decide +kernel
theorem dX0_read_24 : decode cX0_read 24 = .ok (.lreturn, 1) := by decide +kernel
theorem dX0_read_25 : decode cX0_read 25 = .ok (.aload_n 0, 1) := by decide +kernel
theorem dX0_read_26 : decode cX0_read 26 = .ok (.aload_n 0, 1) := by decide +kernel
theorem dX0_read_27 : decode cX0_read 27 = .ok (.iload_n 1, 1) := by decide +kernel
theorem dX0_read_28 : decode cX0_read 28 = .ok (.iload_n 2, 1) := by decide +kernel
theorem dX0_read_29 : decode cX0_read 29 = .ok (.invokevirtual 58, 3) := by decide +kernel
theorem dX0_read_32 : decode cX0_read 32 = .ok (.invokestatic 62, 3) := by decide +kernel
theorem dX0_read_35 : decode cX0_read 35 = .ok (.iload_n 3, 1) := by decide +kernel
theorem dX0_read_36 : decode cX0_read 36 = .ok (.invokevirtual 58, 3) := by decide +kernel
theorem dX0_read_39 : decode cX0_read 39 = .ok (.i2l, 1) := by decide +kernel
theorem dX0_read_40 : decode cX0_read 40 = .ok (.lreturn, 1) := by decide +kernel
set_option maxRecDepth 20000 in
theorem ggX0_write_X0_isInRow : GoodIn wsX0_write wsX0_isInRow := goodIn_r _ [4] (by decide +kernel) (by decide +kernel)
set_option maxRecDepth 20000 in
theorem gX0_write_X0_isInRow : GoodIn wsX0_write (va_wsS RX0 40 yX0_isInRow wsX0_isInRow) := goodIn_app (goodIn_of _ (by decide +kernel)) ggX0_write_X0_isInRow
set_option maxRecDepth 20000 in
theorem ggX0_write_X0_pageRefusal : GoodIn wsX0_write wsX0_pageRefusal := goodIn_r _ [8, 9, 10, 3, 11, 1, 2, 4, 12, 13, 14, 15, 16, 17, 18, 19, 20, 21, 22, 23, 24, 39, 40, 41, 42, 43, 44, 45, 46] (by decide +kernel) (by decide +kernel)
set_option maxRecDepth 20000 in
theorem gX0_write_X0_pageRefusal : GoodIn wsX0_write (wsV RX0 75 RX0 yX0_pageRefusal wsX0_pageRefusal) := goodIn_app (goodIn_of _ (by decide +kernel)) ggX0_write_X0_pageRefusal
set_option maxRecDepth 20000 in
theorem ggX0_write_X0_get : GoodIn wsX0_write wsX0_get := goodIn_r _ [20, 21, 39, 40, 41, 42, 43, 44, 45, 46] (by decide +kernel) (by decide +kernel)
set_option maxRecDepth 20000 in
theorem gX0_write_X0_get : GoodIn wsX0_write (wsV RX0 58 RX0 yX0_get wsX0_get) := goodIn_app (goodIn_of _ (by decide +kernel)) ggX0_write_X0_get
set_option maxRecDepth 20000 in
theorem ggX0_write_X0_isWriting : GoodIn wsX0_write wsX0_isWriting := goodIn_r _ [27, 28, 29, 3, 30] (by decide +kernel) (by decide +kernel)
set_option maxRecDepth 20000 in
theorem gX0_write_X0_isWriting : GoodIn wsX0_write (va_wsS RX0 72 yX0_isWriting wsX0_isWriting) := goodIn_app (goodIn_of _ (by decide +kernel)) ggX0_write_X0_isWriting
set_option maxRecDepth 20000 in
theorem ggX0_write_X0_objectOf : GoodIn wsX0_write wsX0_objectOf := goodIn_r _ [33] (by decide +kernel) (by decide +kernel)
set_option maxRecDepth 20000 in
theorem gX0_write_X0_objectOf : GoodIn wsX0_write (va_wsS RX0 62 yX0_objectOf wsX0_objectOf) := goodIn_app (goodIn_of _ (by decide +kernel)) ggX0_write_X0_objectOf
set_option maxRecDepth 20000 in
theorem ggX0_write_X0_put : GoodIn wsX0_write wsX0_put := goodIn_r _ [37, 21, 38, 39, 40, 41, 42, 43, 44, 45, 46] (by decide +kernel) (by decide +kernel)
set_option maxRecDepth 20000 in
theorem gX0_write_X0_put : GoodIn wsX0_write (wsV RX0 50 RX0 yX0_put wsX0_put) := goodIn_app (goodIn_of _ (by decide +kernel)) ggX0_write_X0_put
theorem dX0_write_0 : decode cX0_write 0 = .ok (.aload_n 0, 1) := by decide +kernel
theorem dX0_write_1 : decode cX0_write 1 = .ok (.iload_n 1, 1) := by decide +kernel
theorem dX0_write_2 : decode cX0_write 2 = .ok (.iload_n 2, 1) := by decide +kernel
theorem dX0_write_3 : decode cX0_write 3 = .ok (.iload_n 3, 1) := by decide +kernel
theorem dX0_write_4 : decode cX0_write 4 = .ok (.invokestatic 40, 3) := by decide +kernel
theorem dX0_write_7 : decode cX0_write 7 = .ok (.invokevirtual 75, 3) := by decide +kernel
theorem dX0_write_10 : decode cX0_write 10 = .ok (.istore 5, 2) := by decide +kernel
theorem dX0_write_12 : decode cX0_write 12 = .ok (.iload 5, 2) := by decide +kernel
theorem dX0_write_14 : decode cX0_write 14 = .ok (.ifCond .eq 6, 3) := by decide +kernel
theorem dX0_write_17 : decode cX0_write 17 = .ok (.iload 5, 2) := by decide +kernel
theorem dX0_write_19 : decode cX0_write 19 = .ok (.ireturn, 1) := by decide +kernel
theorem dX0_write_20 : decode cX0_write 20 = .ok (.aload_n 0, 1) := by decide +kernel
theorem dX0_write_21 : decode cX0_write 21 = .ok (.iload_n 1, 1) := by decide +kernel
theorem dX0_write_22 : decode cX0_write 22 = .ok (.iload_n 2, 1) := by decide +kernel
theorem dX0_write_23 : decode cX0_write 23 = .ok (.invokevirtual 58, 3) := by decide +kernel
theorem dX0_write_26 : decode cX0_write 26 = .ok (.istore 6, 2) := by decide +kernel
theorem dX0_write_28 : decode cX0_write 28 = .ok (.iload 6, 2) := by decide +kernel
theorem dX0_write_30 : decode cX0_write 30 = .ok (.invokestatic 72, 3) := by decide +kernel
theorem dX0_write_33 : decode cX0_write 33 = .ok (.ifCond .ne 6, 3) := by decide +kernel
theorem dX0_write_36 : decode cX0_write 36 = .ok (.bipush (-4), 2) := by decide +kernel
theorem dX0_write_38 : decode cX0_write 38 = .ok (.ireturn, 1) := by decide +kernel
theorem dX0_write_39 : decode cX0_write 39 = .ok (.aload_n 0, 1) := by decide +kernel
theorem dX0_write_40 : decode cX0_write 40 = .ok (.iload 6, 2) := by decide +kernel
theorem dX0_write_42 : decode cX0_write 42 = .ok (.invokestatic 62, 3) := by decide +kernel
theorem dX0_write_45 : decode cX0_write 45 = .ok (.iload_n 3, 1) := by decide +kernel
theorem dX0_write_46 : decode cX0_write 46 = .ok (.iload 4, 2) := by decide +kernel
theorem dX0_write_48 : decode cX0_write 48 = .ok (.invokevirtual 50, 3) := by decide +kernel
theorem dX0_write_51 : decode cX0_write 51 = .ok (.iconst 0, 1) := by decide +kernel
theorem dX0_write_52 : decode cX0_write 52 = .ok (.ireturn, 1) := by decide +kernel
set_option maxRecDepth 20000 in
theorem ggX0_restrict_X0_isRegister : GoodIn wsX0_restrict wsX0_isRegister := goodIn_r _ [4, 5, 6, 3, 7] (by decide +kernel) (by decide +kernel)
set_option maxRecDepth 20000 in
theorem gX0_restrict_X0_isRegister : GoodIn wsX0_restrict (va_wsS RX0 80 yX0_isRegister wsX0_isRegister) := goodIn_app (goodIn_of _ (by decide +kernel)) ggX0_restrict_X0_isRegister
set_option maxRecDepth 20000 in
theorem ggX0_restrict_X0_isLimits : GoodIn wsX0_restrict wsX0_isLimits := goodIn_r _ [10] (by decide +kernel) (by decide +kernel)
set_option maxRecDepth 20000 in
theorem gX0_restrict_X0_isLimits : GoodIn wsX0_restrict (va_wsS RX0 84 yX0_isLimits wsX0_isLimits) := goodIn_app (goodIn_of _ (by decide +kernel)) ggX0_restrict_X0_isLimits
set_option maxRecDepth 20000 in
theorem ggX0_restrict_X0_isInRow : GoodIn wsX0_restrict wsX0_isInRow := goodIn_r _ [7] (by decide +kernel) (by decide +kernel)
set_option maxRecDepth 20000 in
theorem gX0_restrict_X0_isInRow : GoodIn wsX0_restrict (va_wsS RX0 40 yX0_isInRow wsX0_isInRow) := goodIn_app (goodIn_of _ (by decide +kernel)) ggX0_restrict_X0_isInRow
set_option maxRecDepth 20000 in
theorem ggX0_restrict_X0_refusal : GoodIn wsX0_restrict wsX0_refusal := goodIn_r _ [14, 15, 35, 36, 37, 38, 39, 40, 41, 42] (by decide +kernel) (by decide +kernel)
set_option maxRecDepth 20000 in
theorem gX0_restrict_X0_refusal : GoodIn wsX0_restrict (wsV RX0 46 RX0 yX0_refusal wsX0_refusal) := goodIn_app (goodIn_of _ (by decide +kernel)) ggX0_restrict_X0_refusal
set_option maxRecDepth 20000 in
theorem ggX0_restrict_X0_get : GoodIn wsX0_restrict wsX0_get := goodIn_r _ [19, 20, 35, 36, 37, 38, 39, 40, 41, 42] (by decide +kernel) (by decide +kernel)
set_option maxRecDepth 20000 in
theorem gX0_restrict_X0_get : GoodIn wsX0_restrict (wsV RX0 58 RX0 yX0_get wsX0_get) := goodIn_app (goodIn_of _ (by decide +kernel)) ggX0_restrict_X0_get
set_option maxRecDepth 20000 in
theorem ggX0_restrict_X0_limited : GoodIn wsX0_restrict wsX0_limited := goodIn_r _ [23, 24, 25, 3, 26, 27, 28, 29] (by decide +kernel) (by decide +kernel)
set_option maxRecDepth 20000 in
theorem gX0_restrict_X0_limited : GoodIn wsX0_restrict (va_wsS RX0 69 yX0_limited wsX0_limited) := goodIn_app (goodIn_of _ (by decide +kernel)) ggX0_restrict_X0_limited
set_option maxRecDepth 20000 in
theorem ggX0_restrict_X0_put : GoodIn wsX0_restrict wsX0_put := goodIn_r _ [33, 20, 34, 35, 36, 37, 38, 39, 40, 41, 42] (by decide +kernel) (by decide +kernel)
set_option maxRecDepth 20000 in
theorem gX0_restrict_X0_put : GoodIn wsX0_restrict (wsV RX0 50 RX0 yX0_put wsX0_put) := goodIn_app (goodIn_of _ (by decide +kernel)) ggX0_restrict_X0_put
theorem dX0_restrict_0 : decode cX0_restrict 0 = .ok (.aload_n 0, 1) := by decide +kernel
theorem dX0_restrict_1 : decode cX0_restrict 1 = .ok (.iload_n 1, 1) := by decide +kernel
theorem dX0_restrict_2 : decode cX0_restrict 2 = .ok (.iload_n 2, 1) := by decide +kernel
theorem dX0_restrict_3 : decode cX0_restrict 3 = .ok (.invokestatic 80, 3) := by decide +kernel
theorem dX0_restrict_6 : decode cX0_restrict 6 = .ok (.ifCond .eq 22, 3) := by decide +kernel
theorem dX0_restrict_9 : decode cX0_restrict 9 = .ok (.iload_n 3, 1) := by decide +kernel
theorem dX0_restrict_10 : decode cX0_restrict 10 = .ok (.invokestatic 84, 3) := by decide +kernel
theorem dX0_restrict_13 : decode cX0_restrict 13 = .ok (.ifCond .eq 15, 3) := by decide +kernel
theorem dX0_restrict_16 : decode cX0_restrict 16 = .ok (.iload 4, 2) := by decide +kernel
theorem dX0_restrict_18 : decode cX0_restrict 18 = .ok (.invokestatic 40, 3) := by decide +kernel
theorem dX0_restrict_21 : decode cX0_restrict 21 = .ok (.ifCond .eq 7, 3) := by decide +kernel
theorem dX0_restrict_24 : decode cX0_restrict 24 = .ok (.iconst 1, 1) := by decide +kernel
theorem dX0_restrict_25 : decode cX0_restrict 25 = .ok (.goto 4, 3) := by decide +kernel
theorem dX0_restrict_28 : decode cX0_restrict 28 = .ok (.iconst 0, 1) := by decide +kernel
theorem dX0_restrict_29 : decode cX0_restrict 29 = .ok (.invokevirtual 46, 3) := by decide +kernel
theorem dX0_restrict_32 : decode cX0_restrict 32 = .ok (.istore 5, 2) := by decide +kernel
theorem dX0_restrict_34 : decode cX0_restrict 34 = .ok (.iload 5, 2) := by decide +kernel
theorem dX0_restrict_36 : decode cX0_restrict 36 = .ok (.ifCond .eq 6, 3) := by decide +kernel
theorem dX0_restrict_39 : decode cX0_restrict 39 = .ok (.iload 5, 2) := by decide +kernel
theorem dX0_restrict_41 : decode cX0_restrict 41 = .ok (.ireturn, 1) := by decide +kernel
theorem dX0_restrict_42 : decode cX0_restrict 42 = .ok (.aload_n 0, 1) := by decide +kernel
theorem dX0_restrict_43 : decode cX0_restrict 43 = .ok (.iload_n 1, 1) := by decide +kernel
theorem dX0_restrict_44 : decode cX0_restrict 44 = .ok (.iload 4, 2) := by decide +kernel
theorem dX0_restrict_46 : decode cX0_restrict 46 = .ok (.aload_n 0, 1) := by decide +kernel
theorem dX0_restrict_47 : decode cX0_restrict 47 = .ok (.iload_n 1, 1) := by decide +kernel
theorem dX0_restrict_48 : decode cX0_restrict 48 = .ok (.iload_n 2, 1) := by decide +kernel
theorem dX0_restrict_49 : decode cX0_restrict 49 = .ok (.invokevirtual 58, 3) := by decide +kernel
theorem dX0_restrict_52 : decode cX0_restrict 52 = .ok (.iload_n 3, 1) := by decide +kernel
theorem dX0_restrict_53 : decode cX0_restrict 53 = .ok (.invokestatic 69, 3) := by decide +kernel
theorem dX0_restrict_56 : decode cX0_restrict 56 = .ok (.invokevirtual 50, 3) := by decide +kernel
theorem dX0_restrict_59 : decode cX0_restrict 59 = .ok (.iconst 0, 1) := by decide +kernel
theorem dX0_restrict_60 : decode cX0_restrict 60 = .ok (.ireturn, 1) := by decide +kernel
set_option maxRecDepth 20000 in
theorem ggX0_clear_X0_isRegister : GoodIn wsX0_clear wsX0_isRegister := goodIn_r _ [4, 5, 6, 3, 7] (by decide +kernel) (by decide +kernel)
set_option maxRecDepth 20000 in
theorem gX0_clear_X0_isRegister : GoodIn wsX0_clear (va_wsS RX0 80 yX0_isRegister wsX0_isRegister) := goodIn_app (goodIn_of _ (by decide +kernel)) ggX0_clear_X0_isRegister
set_option maxRecDepth 20000 in
theorem ggX0_clear_X0_refusal : GoodIn wsX0_clear wsX0_refusal := goodIn_r _ [11, 12, 19, 20, 21, 22, 23, 24, 25, 26] (by decide +kernel) (by decide +kernel)
set_option maxRecDepth 20000 in
theorem gX0_clear_X0_refusal : GoodIn wsX0_clear (wsV RX0 46 RX0 yX0_refusal wsX0_refusal) := goodIn_app (goodIn_of _ (by decide +kernel)) ggX0_clear_X0_refusal
set_option maxRecDepth 20000 in
theorem ggX0_clear_X0_put : GoodIn wsX0_clear wsX0_put := goodIn_r _ [16, 17, 18, 19, 20, 21, 22, 23, 24, 25, 26] (by decide +kernel) (by decide +kernel)
set_option maxRecDepth 20000 in
theorem gX0_clear_X0_put : GoodIn wsX0_clear (wsV RX0 50 RX0 yX0_put wsX0_put) := goodIn_app (goodIn_of _ (by decide +kernel)) ggX0_clear_X0_put
theorem dX0_clear_0 : decode cX0_clear 0 = .ok (.aload_n 0, 1) := by decide +kernel
theorem dX0_clear_1 : decode cX0_clear 1 = .ok (.iload_n 1, 1) := by decide +kernel
theorem dX0_clear_2 : decode cX0_clear 2 = .ok (.iload_n 2, 1) := by decide +kernel
theorem dX0_clear_3 : decode cX0_clear 3 = .ok (.invokestatic 80, 3) := by decide +kernel
theorem dX0_clear_6 : decode cX0_clear 6 = .ok (.invokevirtual 46, 3) := by decide +kernel
theorem dX0_clear_9 : decode cX0_clear 9 = .ok (.istore_n 3, 1) := by decide +kernel
theorem dX0_clear_10 : decode cX0_clear 10 = .ok (.iload_n 3, 1) := by decide +kernel
theorem dX0_clear_11 : decode cX0_clear 11 = .ok (.ifCond .eq 5, 3) := by decide +kernel
theorem dX0_clear_14 : decode cX0_clear 14 = .ok (.iload_n 3, 1) := by decide +kernel
theorem dX0_clear_15 : decode cX0_clear 15 = .ok (.ireturn, 1) := by decide +kernel
theorem dX0_clear_16 : decode cX0_clear 16 = .ok (.aload_n 0, 1) := by decide +kernel
theorem dX0_clear_17 : decode cX0_clear 17 = .ok (.iload_n 1, 1) := by decide +kernel
theorem dX0_clear_18 : decode cX0_clear 18 = .ok (.iload_n 2, 1) := by decide +kernel
theorem dX0_clear_19 : decode cX0_clear 19 = .ok (.iconst 0, 1) := by decide +kernel
theorem dX0_clear_20 : decode cX0_clear 20 = .ok (.invokevirtual 50, 3) := by decide +kernel
theorem dX0_clear_23 : decode cX0_clear 23 = .ok (.iconst 0, 1) := by decide +kernel
theorem dX0_clear_24 : decode cX0_clear 24 = .ok (.ireturn, 1) := by decide +kernel
set_option maxRecDepth 20000 in
theorem ggX0_checkpoint_X0_saveDirty : GoodIn wsX0_checkpoint wsX0_saveDirty := goodIn_r _ [8, 3, 9, 10, 11, 12, 13, 7, 14, 15, 16, 17, 18, 19, 20, 21, 22, 1, 23, 24, 25, 26, 27, 2, 28, 29, 30, 31, 32, 33, 34, 35, 36, 37, 38, 39, 40] (by decide +kernel) (by decide +kernel)
set_option maxRecDepth 20000 in
theorem gX0_checkpoint_X0_saveDirty : GoodIn wsX0_checkpoint (wsV RX0 87 RX0 yX0_saveDirty wsX0_saveDirty) := goodIn_app (goodIn_of _ (by decide +kernel)) ggX0_checkpoint_X0_saveDirty
theorem dX0_checkpoint_0 : decode cX0_checkpoint 0 = .ok (.aload_n 0, 1) := by decide +kernel
theorem dX0_checkpoint_1 : decode cX0_checkpoint 1 = .ok (.getfield 26, 3) := by decide +kernel
theorem dX0_checkpoint_4 : decode cX0_checkpoint 4 = .ok (.ifCond .ne 5, 3) := by decide +kernel
theorem dX0_checkpoint_7 : decode cX0_checkpoint 7 = .ok (.iconst (-1), 1) := by decide +kernel
theorem dX0_checkpoint_8 : decode cX0_checkpoint 8 = .ok (.ireturn, 1) := by decide +kernel
theorem dX0_checkpoint_9 : decode cX0_checkpoint 9 = .ok (.aload_n 0, 1) := by decide +kernel
theorem dX0_checkpoint_10 : decode cX0_checkpoint 10 = .ok (.getfield 30, 3) := by decide +kernel
theorem dX0_checkpoint_13 : decode cX0_checkpoint 13 = .ok (.istore_n 1, 1) := by decide +kernel
theorem dX0_checkpoint_14 : decode cX0_checkpoint 14 = .ok (.aload_n 0, 1) := by decide +kernel
theorem dX0_checkpoint_15 : decode cX0_checkpoint 15 = .ok (.invokevirtual 87, 3) := by decide +kernel
theorem dX0_checkpoint_18 : decode cX0_checkpoint 18 = .ok (.ifCond .ne 6, 3) := by decide +kernel
theorem dX0_checkpoint_21 : decode cX0_checkpoint 21 = .ok (.bipush (-2), 2) := by decide +kernel
theorem dX0_checkpoint_23 : decode cX0_checkpoint 23 = .ok (.ireturn, 1) := by decide +kernel
theorem dX0_checkpoint_24 : decode cX0_checkpoint 24 = .ok (.aload_n 0, 1) := by decide +kernel
theorem dX0_checkpoint_25 : decode cX0_checkpoint 25 = .ok (.iconst 0, 1) := by decide +kernel
theorem dX0_checkpoint_26 : decode cX0_checkpoint 26 = .ok (.putfield 19, 3) := by decide +kernel
theorem dX0_checkpoint_29 : decode cX0_checkpoint 29 = .ok (.aload_n 0, 1) := by decide +kernel
theorem dX0_checkpoint_30 : decode cX0_checkpoint 30 = .ok (.getfield 30, 3) := by decide +kernel
theorem dX0_checkpoint_33 : decode cX0_checkpoint 33 = .ok (.iload_n 1, 1) := by decide +kernel
theorem dX0_checkpoint_34 : decode cX0_checkpoint 34 = .ok (.isub, 1) := by decide +kernel
theorem dX0_checkpoint_35 : decode cX0_checkpoint 35 = .ok (.ireturn, 1) := by decide +kernel
set_option maxRecDepth 20000 in
theorem ggX0_power_X0_isPower : GoodIn wsX0_power wsX0_isPower := goodIn_r _ [5] (by decide +kernel) (by decide +kernel)
set_option maxRecDepth 20000 in
theorem gX0_power_X0_isPower : GoodIn wsX0_power (va_wsS RX0 91 yX0_isPower wsX0_isPower) := goodIn_app (goodIn_of _ (by decide +kernel)) ggX0_power_X0_isPower
set_option maxRecDepth 20000 in
theorem ggX0_power_X0_refusal : GoodIn wsX0_power wsX0_refusal := goodIn_r _ [9, 10, 11, 12, 13, 14, 15, 16, 17, 18] (by decide +kernel) (by decide +kernel)
set_option maxRecDepth 20000 in
theorem gX0_power_X0_refusal : GoodIn wsX0_power (wsV RX0 46 RX0 yX0_refusal wsX0_refusal) := goodIn_app (goodIn_of _ (by decide +kernel)) ggX0_power_X0_refusal
theorem dX0_power_0 : decode cX0_power 0 = .ok (.aload_n 0, 1) := by decide +kernel
theorem dX0_power_1 : decode cX0_power 1 = .ok (.iload_n 1, 1) := by decide +kernel
theorem dX0_power_2 : decode cX0_power 2 = .ok (.invokestatic 91, 3) := by decide +kernel
theorem dX0_power_5 : decode cX0_power 5 = .ok (.invokevirtual 46, 3) := by decide +kernel
theorem dX0_power_8 : decode cX0_power 8 = .ok (.istore_n 2, 1) := by decide +kernel
theorem dX0_power_9 : decode cX0_power 9 = .ok (.iload_n 2, 1) := by decide +kernel
theorem dX0_power_10 : decode cX0_power 10 = .ok (.ifCond .eq 5, 3) := by decide +kernel
theorem dX0_power_13 : decode cX0_power 13 = .ok (.iload_n 2, 1) := by decide +kernel
theorem dX0_power_14 : decode cX0_power 14 = .ok (.ireturn, 1) := by decide +kernel
theorem dX0_power_15 : decode cX0_power 15 = .ok (.aload_n 0, 1) := by decide +kernel
theorem dX0_power_16 : decode cX0_power 16 = .ok (.iload_n 1, 1) := by decide +kernel
theorem dX0_power_17 : decode cX0_power 17 = .ok (.putfield 23, 3) := by decide +kernel
theorem dX0_power_20 : decode cX0_power 20 = .ok (.iconst 0, 1) := by decide +kernel
theorem dX0_power_21 : decode cX0_power 21 = .ok (.ireturn, 1) := by decide +kernel
theorem dX0_crash_0 : decode cX0_crash 0 = .ok (.aload_n 0, 1) := by decide +kernel
theorem dX0_crash_1 : decode cX0_crash 1 = .ok (.getfield 26, 3) := by decide +kernel
theorem dX0_crash_4 : decode cX0_crash 4 = .ok (.istore_n 1, 1) := by decide +kernel
theorem dX0_crash_5 : decode cX0_crash 5 = .ok (.aload_n 0, 1) := by decide +kernel
theorem dX0_crash_6 : decode cX0_crash 6 = .ok (.iconst 0, 1) := by decide +kernel
theorem dX0_crash_7 : decode cX0_crash 7 = .ok (.putfield 26, 3) := by decide +kernel
theorem dX0_crash_10 : decode cX0_crash 10 = .ok (.iload_n 1, 1) := by decide +kernel
theorem dX0_crash_11 : decode cX0_crash 11 = .ok (.ireturn, 1) := by decide +kernel
set_option maxRecDepth 20000 in
theorem ggX0_start_X0_isPower : GoodIn wsX0_start wsX0_isPower := goodIn_r _ [7] (by decide +kernel) (by decide +kernel)
set_option maxRecDepth 20000 in
theorem gX0_start_X0_isPower : GoodIn wsX0_start (va_wsS RX0 91 yX0_isPower wsX0_isPower) := goodIn_app (goodIn_of _ (by decide +kernel)) ggX0_start_X0_isPower
set_option maxRecDepth 20000 in
theorem ggX0_start_X0_finishCommitted : GoodIn wsX0_start wsX0_finishCommitted := goodIn_r _ [11, 12, 13, 14, 15, 6, 16, 17, 18, 19, 20, 21, 22, 23, 2, 1, 24, 25, 26, 27, 3, 28, 29, 30, 31, 32, 39, 40, 41, 42, 43, 44, 45, 46] (by decide +kernel) (by decide +kernel)
set_option maxRecDepth 20000 in
theorem gX0_start_X0_finishCommitted : GoodIn wsX0_start (wsV RX0 94 RX0 yX0_finishCommitted wsX0_finishCommitted) := goodIn_app (goodIn_of _ (by decide +kernel)) ggX0_start_X0_finishCommitted
set_option maxRecDepth 20000 in
theorem ggX0_start_X0_loadHomes : GoodIn wsX0_start wsX0_loadHomes := goodIn_r _ [36, 12, 37, 24, 25, 26, 27, 38, 39, 40, 41, 42, 43, 44, 45, 46] (by decide +kernel) (by decide +kernel)
set_option maxRecDepth 20000 in
theorem gX0_start_X0_loadHomes : GoodIn wsX0_start (wsV RX0 97 RX0 yX0_loadHomes wsX0_loadHomes) := goodIn_app (goodIn_of _ (by decide +kernel)) ggX0_start_X0_loadHomes
theorem dX0_start_0 : decode cX0_start 0 = .ok (.aload_n 0, 1) := by decide +kernel
theorem dX0_start_1 : decode cX0_start 1 = .ok (.getfield 26, 3) := by decide +kernel
theorem dX0_start_4 : decode cX0_start 4 = .ok (.ifCond .eq 5, 3) := by decide +kernel
theorem dX0_start_7 : decode cX0_start 7 = .ok (.iconst (-1), 1) := by decide +kernel
theorem dX0_start_8 : decode cX0_start 8 = .ok (.ireturn, 1) := by decide +kernel
theorem dX0_start_9 : decode cX0_start 9 = .ok (.iload_n 1, 1) := by decide +kernel
theorem dX0_start_10 : decode cX0_start 10 = .ok (.invokestatic 91, 3) := by decide +kernel
theorem dX0_start_13 : decode cX0_start 13 = .ok (.ifCond .ne 6, 3) := by decide +kernel
theorem dX0_start_16 : decode cX0_start 16 = .ok (.bipush (-2), 2) := by decide +kernel
theorem dX0_start_18 : decode cX0_start 18 = .ok (.ireturn, 1) := by decide +kernel
theorem dX0_start_19 : decode cX0_start 19 = .ok (.aload_n 0, 1) := by decide +kernel
theorem dX0_start_20 : decode cX0_start 20 = .ok (.iload_n 1, 1) := by decide +kernel
theorem dX0_start_21 : decode cX0_start 21 = .ok (.putfield 23, 3) := by decide +kernel
theorem dX0_start_24 : decode cX0_start 24 = .ok (.aload_n 0, 1) := by decide +kernel
theorem dX0_start_25 : decode cX0_start 25 = .ok (.getfield 30, 3) := by decide +kernel
theorem dX0_start_28 : decode cX0_start 28 = .ok (.istore_n 2, 1) := by decide +kernel
theorem dX0_start_29 : decode cX0_start 29 = .ok (.aload_n 0, 1) := by decide +kernel
theorem dX0_start_30 : decode cX0_start 30 = .ok (.invokevirtual 94, 3) := by decide +kernel
theorem dX0_start_33 : decode cX0_start 33 = .ok (.ifCond .ne 6, 3) := by decide +kernel
theorem dX0_start_36 : decode cX0_start 36 = .ok (.bipush (-3), 2) := by decide +kernel
theorem dX0_start_38 : decode cX0_start 38 = .ok (.ireturn, 1) := by decide +kernel
theorem dX0_start_39 : decode cX0_start 39 = .ok (.aload_n 0, 1) := by decide +kernel
theorem dX0_start_40 : decode cX0_start 40 = .ok (.invokevirtual 97, 3) := by decide +kernel
theorem dX0_start_43 : decode cX0_start 43 = .ok (.aload_n 0, 1) := by decide +kernel
theorem dX0_start_44 : decode cX0_start 44 = .ok (.iconst 1, 1) := by decide +kernel
theorem dX0_start_45 : decode cX0_start 45 = .ok (.putfield 26, 3) := by decide +kernel
theorem dX0_start_48 : decode cX0_start 48 = .ok (.aload_n 0, 1) := by decide +kernel
theorem dX0_start_49 : decode cX0_start 49 = .ok (.getfield 30, 3) := by decide +kernel
theorem dX0_start_52 : decode cX0_start 52 = .ok (.iload_n 2, 1) := by decide +kernel
theorem dX0_start_53 : decode cX0_start 53 = .ok (.isub, 1) := by decide +kernel
theorem dX0_start_54 : decode cX0_start 54 = .ok (.ireturn, 1) := by decide +kernel
theorem dX0_isUp_0 : decode cX0_isUp 0 = .ok (.aload_n 0, 1) := by decide +kernel
theorem dX0_isUp_1 : decode cX0_isUp 1 = .ok (.getfield 26, 3) := by decide +kernel
theorem dX0_isUp_4 : decode cX0_isUp 4 = .ok (.ireturn, 1) := by decide +kernel
set_option maxRecDepth 20000 in
theorem ggX0_key_X0_isNode : GoodIn wsX0_key wsX0_isNode := goodIn_r _ [4] (by decide +kernel) (by decide +kernel)
set_option maxRecDepth 20000 in
theorem gX0_key_X0_isNode : GoodIn wsX0_key (va_wsS RX0 36 yX0_isNode wsX0_isNode) := goodIn_app (goodIn_of _ (by decide +kernel)) ggX0_key_X0_isNode
set_option maxRecDepth 20000 in
theorem ggX0_key_X0_isInRow : GoodIn wsX0_key wsX0_isInRow := goodIn_r _ [7] (by decide +kernel) (by decide +kernel)
set_option maxRecDepth 20000 in
theorem gX0_key_X0_isInRow : GoodIn wsX0_key (va_wsS RX0 40 yX0_isInRow wsX0_isInRow) := goodIn_app (goodIn_of _ (by decide +kernel)) ggX0_key_X0_isInRow
set_option maxRecDepth 20000 in
theorem ggX0_key_X0_refusal : GoodIn wsX0_key wsX0_refusal := goodIn_r _ [11, 12, 18, 19, 20, 21, 22, 23, 24, 25] (by decide +kernel) (by decide +kernel)
set_option maxRecDepth 20000 in
theorem gX0_key_X0_refusal : GoodIn wsX0_key (wsV RX0 46 RX0 yX0_refusal wsX0_refusal) := goodIn_app (goodIn_of _ (by decide +kernel)) ggX0_key_X0_refusal
set_option maxRecDepth 20000 in
theorem ggX0_key_X0_get : GoodIn wsX0_key wsX0_get := goodIn_r _ [16, 17, 18, 19, 20, 21, 22, 23, 24, 25] (by decide +kernel) (by decide +kernel)
set_option maxRecDepth 20000 in
theorem gX0_key_X0_get : GoodIn wsX0_key (wsV RX0 58 RX0 yX0_get wsX0_get) := goodIn_app (goodIn_of _ (by decide +kernel)) ggX0_key_X0_get
theorem dX0_key_0 : decode cX0_key 0 = .ok (.aload_n 0, 1) := by decide +kernel
theorem dX0_key_1 : decode cX0_key 1 = .ok (.iload_n 1, 1) := by decide +kernel
theorem dX0_key_2 : decode cX0_key 2 = .ok (.invokestatic 36, 3) := by decide +kernel
theorem dX0_key_5 : decode cX0_key 5 = .ok (.ifCond .eq 14, 3) := by decide +kernel
theorem dX0_key_8 : decode cX0_key 8 = .ok (.iload_n 2, 1) := by decide +kernel
theorem dX0_key_9 : decode cX0_key 9 = .ok (.invokestatic 40, 3) := by decide +kernel
theorem dX0_key_12 : decode cX0_key 12 = .ok (.ifCond .eq 7, 3) := by decide +kernel
theorem dX0_key_15 : decode cX0_key 15 = .ok (.iconst 1, 1) := by decide +kernel
theorem dX0_key_16 : decode cX0_key 16 = .ok (.goto 4, 3) := by decide +kernel
theorem dX0_key_19 : decode cX0_key 19 = .ok (.iconst 0, 1) := by decide +kernel
theorem dX0_key_20 : decode cX0_key 20 = .ok (.invokevirtual 46, 3) := by decide +kernel
theorem dX0_key_23 : decode cX0_key 23 = .ok (.istore_n 3, 1) := by decide +kernel
theorem dX0_key_24 : decode cX0_key 24 = .ok (.iload_n 3, 1) := by decide +kernel
theorem dX0_key_25 : decode cX0_key 25 = .ok (.ifCond .eq 7, 3) := by decide +kernel
theorem dX0_key_28 : decode cX0_key 28 = .ok (.iload_n 3, 1) := by decide +kernel
theorem dX0_key_29 : decode cX0_key 29 = .ok (.goto 9, 3) := by decide +kernel
theorem dX0_key_32 : decode cX0_key 32 = .ok (.aload_n 0, 1) := by decide +kernel
theorem dX0_key_33 : decode cX0_key 33 = .ok (.iload_n 1, 1) := by decide +kernel
theorem dX0_key_34 : decode cX0_key 34 = .ok (.iload_n 2, 1) := by decide +kernel
theorem dX0_key_35 : decode cX0_key 35 = .ok (.invokevirtual 58, 3) := by decide +kernel
theorem dX0_key_38 : decode cX0_key 38 = .ok (.ireturn, 1) := by decide +kernel
set_option maxRecDepth 20000 in
theorem ggX0_word_X0_isPage : GoodIn wsX0_word wsX0_isPage := goodIn_r _ [5] (by decide +kernel) (by decide +kernel)
set_option maxRecDepth 20000 in
theorem gX0_word_X0_isPage : GoodIn wsX0_word (va_wsS RX0 100 yX0_isPage wsX0_isPage) := goodIn_app (goodIn_of _ (by decide +kernel)) ggX0_word_X0_isPage
set_option maxRecDepth 20000 in
theorem ggX0_word_X0_isInRow : GoodIn wsX0_word wsX0_isInRow := goodIn_r _ [8] (by decide +kernel) (by decide +kernel)
set_option maxRecDepth 20000 in
theorem gX0_word_X0_isInRow : GoodIn wsX0_word (va_wsS RX0 40 yX0_isInRow wsX0_isInRow) := goodIn_app (goodIn_of _ (by decide +kernel)) ggX0_word_X0_isInRow
set_option maxRecDepth 20000 in
theorem ggX0_word_X0_refusal : GoodIn wsX0_word wsX0_refusal := goodIn_r _ [12, 13, 19, 20, 21, 22, 23, 24, 25, 26] (by decide +kernel) (by decide +kernel)
set_option maxRecDepth 20000 in
theorem gX0_word_X0_refusal : GoodIn wsX0_word (wsV RX0 46 RX0 yX0_refusal wsX0_refusal) := goodIn_app (goodIn_of _ (by decide +kernel)) ggX0_word_X0_refusal
set_option maxRecDepth 20000 in
theorem ggX0_word_X0_get : GoodIn wsX0_word wsX0_get := goodIn_r _ [17, 18, 19, 20, 21, 22, 23, 24, 25, 26] (by decide +kernel) (by decide +kernel)
set_option maxRecDepth 20000 in
theorem gX0_word_X0_get : GoodIn wsX0_word (wsV RX0 58 RX0 yX0_get wsX0_get) := goodIn_app (goodIn_of _ (by decide +kernel)) ggX0_word_X0_get
theorem dX0_word_0 : decode cX0_word 0 = .ok (.aload_n 0, 1) := by decide +kernel
theorem dX0_word_1 : decode cX0_word 1 = .ok (.iload_n 1, 1) := by decide +kernel
theorem dX0_word_2 : decode cX0_word 2 = .ok (.invokestatic 100, 3) := by decide +kernel
theorem dX0_word_5 : decode cX0_word 5 = .ok (.ifCond .eq 14, 3) := by decide +kernel
theorem dX0_word_8 : decode cX0_word 8 = .ok (.iload_n 2, 1) := by decide +kernel
theorem dX0_word_9 : decode cX0_word 9 = .ok (.invokestatic 40, 3) := by decide +kernel
theorem dX0_word_12 : decode cX0_word 12 = .ok (.ifCond .eq 7, 3) := by decide +kernel
theorem dX0_word_15 : decode cX0_word 15 = .ok (.iconst 1, 1) := by decide +kernel
theorem dX0_word_16 : decode cX0_word 16 = .ok (.goto 4, 3) := by decide +kernel
theorem dX0_word_19 : decode cX0_word 19 = .ok (.iconst 0, 1) := by decide +kernel
theorem dX0_word_20 : decode cX0_word 20 = .ok (.invokevirtual 46, 3) := by decide +kernel
theorem dX0_word_23 : decode cX0_word 23 = .ok (.istore_n 3, 1) := by decide +kernel
theorem dX0_word_24 : decode cX0_word 24 = .ok (.iload_n 3, 1) := by decide +kernel
theorem dX0_word_25 : decode cX0_word 25 = .ok (.ifCond .eq 12, 3) := by decide +kernel
theorem dX0_word_28 : decode cX0_word 28 = .ok (.ldc2_w 78, 3) := by decide +kernel
theorem dX0_word_31 : decode cX0_word 31 = .ok (.iload_n 3, 1) := by decide +kernel
theorem dX0_word_32 : decode cX0_word 32 = .ok (.i2l, 1) := by decide +kernel
theorem dX0_word_33 : decode cX0_word 33 = .ok (.ladd, 1) := by decide +kernel
theorem dX0_word_34 : decode cX0_word 34 = .ok (.goto 10, 3) := by decide +kernel
theorem dX0_word_37 : decode cX0_word 37 = .ok (.aload_n 0, 1) := by decide +kernel
theorem dX0_word_38 : decode cX0_word 38 = .ok (.iload_n 1, 1) := by decide +kernel
theorem dX0_word_39 : decode cX0_word 39 = .ok (.iload_n 2, 1) := by decide +kernel
theorem dX0_word_40 : decode cX0_word 40 = .ok (.invokevirtual 58, 3) := by decide +kernel
theorem dX0_word_43 : decode cX0_word 43 = .ok (.i2l, 1) := by decide +kernel
theorem dX0_word_44 : decode cX0_word 44 = .ok (.lreturn, 1) := by decide +kernel
theorem dX0_dirty_0 : decode cX0_dirty 0 = .ok (.aload_n 0, 1) := by decide +kernel
theorem dX0_dirty_1 : decode cX0_dirty 1 = .ok (.getfield 26, 3) := by decide +kernel
theorem dX0_dirty_4 : decode cX0_dirty 4 = .ok (.ifCond .eq 10, 3) := by decide +kernel
theorem dX0_dirty_7 : decode cX0_dirty 7 = .ok (.aload_n 0, 1) := by decide +kernel
theorem dX0_dirty_8 : decode cX0_dirty 8 = .ok (.getfield 19, 3) := by decide +kernel
theorem dX0_dirty_11 : decode cX0_dirty 11 = .ok (.goto 4, 3) := by decide +kernel
theorem dX0_dirty_14 : decode cX0_dirty 14 = .ok (.iconst (-1), 1) := by decide +kernel
theorem dX0_dirty_15 : decode cX0_dirty 15 = .ok (.ireturn, 1) := by decide +kernel
set_option maxRecDepth 20000 in
theorem ggX0_disk_X0_isBlock : GoodIn wsX0_disk wsX0_isBlock := goodIn_r _ [5] (by decide +kernel) (by decide +kernel)
set_option maxRecDepth 20000 in
theorem gX0_disk_X0_isBlock : GoodIn wsX0_disk (va_wsS RX0 103 yX0_isBlock wsX0_isBlock) := goodIn_app (goodIn_of _ (by decide +kernel)) ggX0_disk_X0_isBlock
set_option maxRecDepth 20000 in
theorem ggX0_disk_X0_isInRow : GoodIn wsX0_disk wsX0_isInRow := goodIn_r _ [8] (by decide +kernel) (by decide +kernel)
set_option maxRecDepth 20000 in
theorem gX0_disk_X0_isInRow : GoodIn wsX0_disk (va_wsS RX0 40 yX0_isInRow wsX0_isInRow) := goodIn_app (goodIn_of _ (by decide +kernel)) ggX0_disk_X0_isInRow
theorem dX0_disk_0 : decode cX0_disk 0 = .ok (.iload_n 1, 1) := by decide +kernel
theorem dX0_disk_1 : decode cX0_disk 1 = .ok (.invokestatic 103, 3) := by decide +kernel
theorem dX0_disk_4 : decode cX0_disk 4 = .ok (.ifCond .eq 24, 3) := by decide +kernel
theorem dX0_disk_7 : decode cX0_disk 7 = .ok (.iload_n 2, 1) := by decide +kernel
theorem dX0_disk_8 : decode cX0_disk 8 = .ok (.invokestatic 40, 3) := by decide +kernel
theorem dX0_disk_11 : decode cX0_disk 11 = .ok (.ifCond .eq 17, 3) := by decide +kernel
theorem dX0_disk_14 : decode cX0_disk 14 = .ok (.aload_n 0, 1) := by decide +kernel
theorem dX0_disk_15 : decode cX0_disk 15 = .ok (.getfield 13, 3) := by decide +kernel
theorem dX0_disk_18 : decode cX0_disk 18 = .ok (.iload_n 1, 1) := by decide +kernel
theorem dX0_disk_19 : decode cX0_disk 19 = .ok (.bipush 8, 2) := by decide +kernel
theorem dX0_disk_21 : decode cX0_disk 21 = .ok (.imul, 1) := by decide +kernel
theorem dX0_disk_22 : decode cX0_disk 22 = .ok (.iload_n 2, 1) := by decide +kernel
theorem dX0_disk_23 : decode cX0_disk 23 = .ok (.iadd, 1) := by decide +kernel
theorem dX0_disk_24 : decode cX0_disk 24 = .ok (.iaload, 1) := by decide +kernel
theorem dX0_disk_25 : decode cX0_disk 25 = .ok (.goto 4, 3) := by decide +kernel
theorem dX0_disk_28 : decode cX0_disk 28 = .ok (.iconst 0, 1) := by decide +kernel
theorem dX0_disk_29 : decode cX0_disk 29 = .ok (.ireturn, 1) := by decide +kernel
theorem dX0_writes_0 : decode cX0_writes 0 = .ok (.aload_n 0, 1) := by decide +kernel
theorem dX0_writes_1 : decode cX0_writes 1 = .ok (.getfield 30, 3) := by decide +kernel
theorem dX0_writes_4 : decode cX0_writes 4 = .ok (.ireturn, 1) := by decide +kernel
theorem dX0_commits_0 : decode cX0_commits 0 = .ok (.aload_n 0, 1) := by decide +kernel
theorem dX0_commits_1 : decode cX0_commits 1 = .ok (.getfield 33, 3) := by decide +kernel
theorem dX0_commits_4 : decode cX0_commits 4 = .ok (.ireturn, 1) := by decide +kernel
theorem dX0_refusal_0 : decode cX0_refusal 0 = .ok (.aload_n 0, 1) := by decide +kernel
theorem dX0_refusal_1 : decode cX0_refusal 1 = .ok (.getfield 26, 3) := by decide +kernel
theorem dX0_refusal_4 : decode cX0_refusal 4 = .ok (.ifCond .ne 5, 3) := by decide +kernel
theorem dX0_refusal_7 : decode cX0_refusal 7 = .ok (.iconst (-1), 1) := by decide +kernel
theorem dX0_refusal_8 : decode cX0_refusal 8 = .ok (.ireturn, 1) := by decide +kernel
theorem dX0_refusal_9 : decode cX0_refusal 9 = .ok (.iload_n 1, 1) := by decide +kernel
theorem dX0_refusal_10 : decode cX0_refusal 10 = .ok (.ifCond .eq 7, 3) := by decide +kernel
theorem dX0_refusal_13 : decode cX0_refusal 13 = .ok (.iconst 0, 1) := by decide +kernel
theorem dX0_refusal_14 : decode cX0_refusal 14 = .ok (.goto 5, 3) := by decide +kernel
theorem dX0_refusal_17 : decode cX0_refusal 17 = .ok (.bipush (-2), 2) := by decide +kernel
theorem dX0_refusal_19 : decode cX0_refusal 19 = .ok (.ireturn, 1) := by decide +kernel
set_option maxRecDepth 20000 in
theorem ggX0_nodeRefusal_X0_isRegister : GoodIn wsX0_nodeRefusal wsX0_isRegister := goodIn_r _ [4, 5, 6, 3, 7] (by decide +kernel) (by decide +kernel)
set_option maxRecDepth 20000 in
theorem gX0_nodeRefusal_X0_isRegister : GoodIn wsX0_nodeRefusal (va_wsS RX0 80 yX0_isRegister wsX0_isRegister) := goodIn_app (goodIn_of _ (by decide +kernel)) ggX0_nodeRefusal_X0_isRegister
set_option maxRecDepth 20000 in
theorem ggX0_nodeRefusal_X0_refusal : GoodIn wsX0_nodeRefusal wsX0_refusal := goodIn_r _ [11, 12, 21, 22, 23, 24, 25, 26, 27, 28] (by decide +kernel) (by decide +kernel)
set_option maxRecDepth 20000 in
theorem gX0_nodeRefusal_X0_refusal : GoodIn wsX0_nodeRefusal (wsV RX0 46 RX0 yX0_refusal wsX0_refusal) := goodIn_app (goodIn_of _ (by decide +kernel)) ggX0_nodeRefusal_X0_refusal
set_option maxRecDepth 20000 in
theorem ggX0_nodeRefusal_X0_get : GoodIn wsX0_nodeRefusal wsX0_get := goodIn_r _ [16, 17, 21, 22, 23, 24, 25, 26, 27, 28] (by decide +kernel) (by decide +kernel)
set_option maxRecDepth 20000 in
theorem gX0_nodeRefusal_X0_get : GoodIn wsX0_nodeRefusal (wsV RX0 58 RX0 yX0_get wsX0_get) := goodIn_app (goodIn_of _ (by decide +kernel)) ggX0_nodeRefusal_X0_get
set_option maxRecDepth 20000 in
theorem ggX0_nodeRefusal_X0_isNodeKey : GoodIn wsX0_nodeRefusal wsX0_isNodeKey := goodIn_r _ [20] (by decide +kernel) (by decide +kernel)
set_option maxRecDepth 20000 in
theorem gX0_nodeRefusal_X0_isNodeKey : GoodIn wsX0_nodeRefusal (va_wsS RX0 106 yX0_isNodeKey wsX0_isNodeKey) := goodIn_app (goodIn_of _ (by decide +kernel)) ggX0_nodeRefusal_X0_isNodeKey
theorem dX0_nodeRefusal_0 : decode cX0_nodeRefusal 0 = .ok (.aload_n 0, 1) := by decide +kernel
theorem dX0_nodeRefusal_1 : decode cX0_nodeRefusal 1 = .ok (.iload_n 1, 1) := by decide +kernel
theorem dX0_nodeRefusal_2 : decode cX0_nodeRefusal 2 = .ok (.iload_n 2, 1) := by decide +kernel
theorem dX0_nodeRefusal_3 : decode cX0_nodeRefusal 3 = .ok (.invokestatic 80, 3) := by decide +kernel
theorem dX0_nodeRefusal_6 : decode cX0_nodeRefusal 6 = .ok (.ifCond .eq 11, 3) := by decide +kernel
theorem dX0_nodeRefusal_9 : decode cX0_nodeRefusal 9 = .ok (.iload_n 3, 1) := by decide +kernel
theorem dX0_nodeRefusal_10 : decode cX0_nodeRefusal 10 = .ok (.ifCond .eq 7, 3) := by decide +kernel
theorem dX0_nodeRefusal_13 : decode cX0_nodeRefusal 13 = .ok (.iconst 1, 1) := by decide +kernel
theorem dX0_nodeRefusal_14 : decode cX0_nodeRefusal 14 = .ok (.goto 4, 3) := by decide +kernel
theorem dX0_nodeRefusal_17 : decode cX0_nodeRefusal 17 = .ok (.iconst 0, 1) := by decide +kernel
theorem dX0_nodeRefusal_18 : decode cX0_nodeRefusal 18 = .ok (.invokevirtual 46, 3) := by decide +kernel
theorem dX0_nodeRefusal_21 : decode cX0_nodeRefusal 21 = .ok (.istore 4, 2) := by decide +kernel
theorem dX0_nodeRefusal_23 : decode cX0_nodeRefusal 23 = .ok (.iload 4, 2) := by decide +kernel
theorem dX0_nodeRefusal_25 : decode cX0_nodeRefusal 25 = .ok (.ifCond .eq 6, 3) := by decide +kernel
theorem dX0_nodeRefusal_28 : decode cX0_nodeRefusal 28 = .ok (.iload 4, 2) := by decide +kernel
theorem dX0_nodeRefusal_30 : decode cX0_nodeRefusal 30 = .ok (.ireturn, 1) := by decide +kernel
theorem dX0_nodeRefusal_31 : decode cX0_nodeRefusal 31 = .ok (.aload_n 0, 1) := by decide +kernel
theorem dX0_nodeRefusal_32 : decode cX0_nodeRefusal 32 = .ok (.iload_n 1, 1) := by decide +kernel
theorem dX0_nodeRefusal_33 : decode cX0_nodeRefusal 33 = .ok (.iload_n 2, 1) := by decide +kernel
theorem dX0_nodeRefusal_34 : decode cX0_nodeRefusal 34 = .ok (.invokevirtual 58, 3) := by decide +kernel
theorem dX0_nodeRefusal_37 : decode cX0_nodeRefusal 37 = .ok (.invokestatic 106, 3) := by decide +kernel
theorem dX0_nodeRefusal_40 : decode cX0_nodeRefusal 40 = .ok (.ifCond .eq 7, 3) := by decide +kernel
theorem dX0_nodeRefusal_43 : decode cX0_nodeRefusal 43 = .ok (.iconst 0, 1) := by decide +kernel
theorem dX0_nodeRefusal_44 : decode cX0_nodeRefusal 44 = .ok (.goto 5, 3) := by decide +kernel
theorem dX0_nodeRefusal_47 : decode cX0_nodeRefusal 47 = .ok (.bipush (-3), 2) := by decide +kernel
theorem dX0_nodeRefusal_49 : decode cX0_nodeRefusal 49 = .ok (.ireturn, 1) := by decide +kernel
set_option maxRecDepth 20000 in
theorem ggX0_pageRefusal_X0_isRegister : GoodIn wsX0_pageRefusal wsX0_isRegister := goodIn_r _ [4, 5, 6, 3, 7] (by decide +kernel) (by decide +kernel)
set_option maxRecDepth 20000 in
theorem gX0_pageRefusal_X0_isRegister : GoodIn wsX0_pageRefusal (va_wsS RX0 80 yX0_isRegister wsX0_isRegister) := goodIn_app (goodIn_of _ (by decide +kernel)) ggX0_pageRefusal_X0_isRegister
set_option maxRecDepth 20000 in
theorem ggX0_pageRefusal_X0_refusal : GoodIn wsX0_pageRefusal wsX0_refusal := goodIn_r _ [11, 12, 21, 22, 23, 24, 25, 26, 27, 28] (by decide +kernel) (by decide +kernel)
set_option maxRecDepth 20000 in
theorem gX0_pageRefusal_X0_refusal : GoodIn wsX0_pageRefusal (wsV RX0 46 RX0 yX0_refusal wsX0_refusal) := goodIn_app (goodIn_of _ (by decide +kernel)) ggX0_pageRefusal_X0_refusal
set_option maxRecDepth 20000 in
theorem ggX0_pageRefusal_X0_get : GoodIn wsX0_pageRefusal wsX0_get := goodIn_r _ [16, 17, 21, 22, 23, 24, 25, 26, 27, 28] (by decide +kernel) (by decide +kernel)
set_option maxRecDepth 20000 in
theorem gX0_pageRefusal_X0_get : GoodIn wsX0_pageRefusal (wsV RX0 58 RX0 yX0_get wsX0_get) := goodIn_app (goodIn_of _ (by decide +kernel)) ggX0_pageRefusal_X0_get
set_option maxRecDepth 20000 in
theorem ggX0_pageRefusal_X0_isPageKey : GoodIn wsX0_pageRefusal wsX0_isPageKey := goodIn_r _ [20] (by decide +kernel) (by decide +kernel)
set_option maxRecDepth 20000 in
theorem gX0_pageRefusal_X0_isPageKey : GoodIn wsX0_pageRefusal (va_wsS RX0 109 yX0_isPageKey wsX0_isPageKey) := goodIn_app (goodIn_of _ (by decide +kernel)) ggX0_pageRefusal_X0_isPageKey
theorem dX0_pageRefusal_0 : decode cX0_pageRefusal 0 = .ok (.aload_n 0, 1) := by decide +kernel
theorem dX0_pageRefusal_1 : decode cX0_pageRefusal 1 = .ok (.iload_n 1, 1) := by decide +kernel
theorem dX0_pageRefusal_2 : decode cX0_pageRefusal 2 = .ok (.iload_n 2, 1) := by decide +kernel
theorem dX0_pageRefusal_3 : decode cX0_pageRefusal 3 = .ok (.invokestatic 80, 3) := by decide +kernel
theorem dX0_pageRefusal_6 : decode cX0_pageRefusal 6 = .ok (.ifCond .eq 11, 3) := by decide +kernel
theorem dX0_pageRefusal_9 : decode cX0_pageRefusal 9 = .ok (.iload_n 3, 1) := by decide +kernel
theorem dX0_pageRefusal_10 : decode cX0_pageRefusal 10 = .ok (.ifCond .eq 7, 3) := by decide +kernel
theorem dX0_pageRefusal_13 : decode cX0_pageRefusal 13 = .ok (.iconst 1, 1) := by decide +kernel
theorem dX0_pageRefusal_14 : decode cX0_pageRefusal 14 = .ok (.goto 4, 3) := by decide +kernel
theorem dX0_pageRefusal_17 : decode cX0_pageRefusal 17 = .ok (.iconst 0, 1) := by decide +kernel
theorem dX0_pageRefusal_18 : decode cX0_pageRefusal 18 = .ok (.invokevirtual 46, 3) := by decide +kernel
theorem dX0_pageRefusal_21 : decode cX0_pageRefusal 21 = .ok (.istore 4, 2) := by decide +kernel
theorem dX0_pageRefusal_23 : decode cX0_pageRefusal 23 = .ok (.iload 4, 2) := by decide +kernel
theorem dX0_pageRefusal_25 : decode cX0_pageRefusal 25 = .ok (.ifCond .eq 6, 3) := by decide +kernel
theorem dX0_pageRefusal_28 : decode cX0_pageRefusal 28 = .ok (.iload 4, 2) := by decide +kernel
theorem dX0_pageRefusal_30 : decode cX0_pageRefusal 30 = .ok (.ireturn, 1) := by decide +kernel
theorem dX0_pageRefusal_31 : decode cX0_pageRefusal 31 = .ok (.aload_n 0, 1) := by decide +kernel
theorem dX0_pageRefusal_32 : decode cX0_pageRefusal 32 = .ok (.iload_n 1, 1) := by decide +kernel
theorem dX0_pageRefusal_33 : decode cX0_pageRefusal 33 = .ok (.iload_n 2, 1) := by decide +kernel
theorem dX0_pageRefusal_34 : decode cX0_pageRefusal 34 = .ok (.invokevirtual 58, 3) := by decide +kernel
theorem dX0_pageRefusal_37 : decode cX0_pageRefusal 37 = .ok (.invokestatic 109, 3) := by decide +kernel
theorem dX0_pageRefusal_40 : decode cX0_pageRefusal 40 = .ok (.ifCond .eq 7, 3) := by decide +kernel
theorem dX0_pageRefusal_43 : decode cX0_pageRefusal 43 = .ok (.iconst 0, 1) := by decide +kernel
theorem dX0_pageRefusal_44 : decode cX0_pageRefusal 44 = .ok (.goto 5, 3) := by decide +kernel
theorem dX0_pageRefusal_47 : decode cX0_pageRefusal 47 = .ok (.bipush (-3), 2) := by decide +kernel
theorem dX0_pageRefusal_49 : decode cX0_pageRefusal 49 = .ok (.ireturn, 1) := by decide +kernel
theorem dX0_isNode_0 : decode cX0_isNode 0 = .ok (.iload_n 0, 1) := by decide +kernel
theorem dX0_isNode_1 : decode cX0_isNode 1 = .ok (.ifCond .lt 13, 3) := by decide +kernel
theorem dX0_isNode_4 : decode cX0_isNode 4 = .ok (.iload_n 0, 1) := by decide +kernel
theorem dX0_isNode_5 : decode cX0_isNode 5 = .ok (.bipush 8, 2) := by decide +kernel
theorem dX0_isNode_7 : decode cX0_isNode 7 = .ok (.if_icmp .ge 7, 3) := by decide +kernel
theorem dX0_isNode_10 : decode cX0_isNode 10 = .ok (.iconst 1, 1) := by decide +kernel
theorem dX0_isNode_11 : decode cX0_isNode 11 = .ok (.goto 4, 3) := by decide +kernel
theorem dX0_isNode_14 : decode cX0_isNode 14 = .ok (.iconst 0, 1) := by decide +kernel
theorem dX0_isNode_15 : decode cX0_isNode 15 = .ok (.ireturn, 1) := by decide +kernel
theorem dX0_isPage_0 : decode cX0_isPage 0 = .ok (.iload_n 0, 1) := by decide +kernel
theorem dX0_isPage_1 : decode cX0_isPage 1 = .ok (.bipush 8, 2) := by decide +kernel
theorem dX0_isPage_3 : decode cX0_isPage 3 = .ok (.if_icmp .lt 13, 3) := by decide +kernel
theorem dX0_isPage_6 : decode cX0_isPage 6 = .ok (.iload_n 0, 1) := by decide +kernel
theorem dX0_isPage_7 : decode cX0_isPage 7 = .ok (.bipush 12, 2) := by decide +kernel
theorem dX0_isPage_9 : decode cX0_isPage 9 = .ok (.if_icmp .ge 7, 3) := by decide +kernel
theorem dX0_isPage_12 : decode cX0_isPage 12 = .ok (.iconst 1, 1) := by decide +kernel
theorem dX0_isPage_13 : decode cX0_isPage 13 = .ok (.goto 4, 3) := by decide +kernel
theorem dX0_isPage_16 : decode cX0_isPage 16 = .ok (.iconst 0, 1) := by decide +kernel
theorem dX0_isPage_17 : decode cX0_isPage 17 = .ok (.ireturn, 1) := by decide +kernel
theorem dX0_isInRow_0 : decode cX0_isInRow 0 = .ok (.iload_n 0, 1) := by decide +kernel
theorem dX0_isInRow_1 : decode cX0_isInRow 1 = .ok (.ifCond .lt 13, 3) := by decide +kernel
theorem dX0_isInRow_4 : decode cX0_isInRow 4 = .ok (.iload_n 0, 1) := by decide +kernel
theorem dX0_isInRow_5 : decode cX0_isInRow 5 = .ok (.bipush 8, 2) := by decide +kernel
theorem dX0_isInRow_7 : decode cX0_isInRow 7 = .ok (.if_icmp .ge 7, 3) := by decide +kernel
theorem dX0_isInRow_10 : decode cX0_isInRow 10 = .ok (.iconst 1, 1) := by decide +kernel
theorem dX0_isInRow_11 : decode cX0_isInRow 11 = .ok (.goto 4, 3) := by decide +kernel
theorem dX0_isInRow_14 : decode cX0_isInRow 14 = .ok (.iconst 0, 1) := by decide +kernel
theorem dX0_isInRow_15 : decode cX0_isInRow 15 = .ok (.ireturn, 1) := by decide +kernel
set_option maxRecDepth 20000 in
theorem ggX0_isRegister_X0_isInRow : GoodIn wsX0_isRegister wsX0_isInRow := goodIn_r _ [4] (by decide +kernel) (by decide +kernel)
set_option maxRecDepth 20000 in
theorem gX0_isRegister_X0_isInRow : GoodIn wsX0_isRegister (va_wsS RX0 40 yX0_isInRow wsX0_isInRow) := goodIn_app (goodIn_of _ (by decide +kernel)) ggX0_isRegister_X0_isInRow
theorem dX0_isRegister_0 : decode cX0_isRegister 0 = .ok (.iload_n 0, 1) := by decide +kernel
theorem dX0_isRegister_1 : decode cX0_isRegister 1 = .ok (.ifCond .lt 19, 3) := by decide +kernel
theorem dX0_isRegister_4 : decode cX0_isRegister 4 = .ok (.iload_n 0, 1) := by decide +kernel
theorem dX0_isRegister_5 : decode cX0_isRegister 5 = .ok (.iconst 3, 1) := by decide +kernel
theorem dX0_isRegister_6 : decode cX0_isRegister 6 = .ok (.if_icmp .ge 14, 3) := by decide +kernel
theorem dX0_isRegister_9 : decode cX0_isRegister 9 = .ok (.iload_n 1, 1) := by decide +kernel
theorem dX0_isRegister_10 : decode cX0_isRegister 10 = .ok (.invokestatic 40, 3) := by decide +kernel
theorem dX0_isRegister_13 : decode cX0_isRegister 13 = .ok (.ifCond .eq 7, 3) := by decide +kernel
theorem dX0_isRegister_16 : decode cX0_isRegister 16 = .ok (.iconst 1, 1) := by decide +kernel
theorem dX0_isRegister_17 : decode cX0_isRegister 17 = .ok (.goto 4, 3) := by decide +kernel
theorem dX0_isRegister_20 : decode cX0_isRegister 20 = .ok (.iconst 0, 1) := by decide +kernel
theorem dX0_isRegister_21 : decode cX0_isRegister 21 = .ok (.ireturn, 1) := by decide +kernel
theorem dX0_isLimits_0 : decode cX0_isLimits 0 = .ok (.iload_n 0, 1) := by decide +kernel
theorem dX0_isLimits_1 : decode cX0_isLimits 1 = .ok (.ifCond .lt 12, 3) := by decide +kernel
theorem dX0_isLimits_4 : decode cX0_isLimits 4 = .ok (.iload_n 0, 1) := by decide +kernel
theorem dX0_isLimits_5 : decode cX0_isLimits 5 = .ok (.iconst 3, 1) := by decide +kernel
theorem dX0_isLimits_6 : decode cX0_isLimits 6 = .ok (.if_icmp .gt 7, 3) := by decide +kernel
theorem dX0_isLimits_9 : decode cX0_isLimits 9 = .ok (.iconst 1, 1) := by decide +kernel
theorem dX0_isLimits_10 : decode cX0_isLimits 10 = .ok (.goto 4, 3) := by decide +kernel
theorem dX0_isLimits_13 : decode cX0_isLimits 13 = .ok (.iconst 0, 1) := by decide +kernel
theorem dX0_isLimits_14 : decode cX0_isLimits 14 = .ok (.ireturn, 1) := by decide +kernel
theorem dX0_isPower_0 : decode cX0_isPower 0 = .ok (.iload_n 0, 1) := by decide +kernel
theorem dX0_isPower_1 : decode cX0_isPower 1 = .ok (.iconst (-1), 1) := by decide +kernel
theorem dX0_isPower_2 : decode cX0_isPower 2 = .ok (.if_icmp .eq 13, 3) := by decide +kernel
theorem dX0_isPower_5 : decode cX0_isPower 5 = .ok (.iload_n 0, 1) := by decide +kernel
theorem dX0_isPower_6 : decode cX0_isPower 6 = .ok (.ifCond .lt 13, 3) := by decide +kernel
theorem dX0_isPower_9 : decode cX0_isPower 9 = .ok (.iload_n 0, 1) := by decide +kernel
theorem dX0_isPower_10 : decode cX0_isPower 10 = .ok (.bipush 63, 2) := by decide +kernel
theorem dX0_isPower_12 : decode cX0_isPower 12 = .ok (.if_icmp .gt 7, 3) := by decide +kernel
theorem dX0_isPower_15 : decode cX0_isPower 15 = .ok (.iconst 1, 1) := by decide +kernel
theorem dX0_isPower_16 : decode cX0_isPower 16 = .ok (.goto 4, 3) := by decide +kernel
theorem dX0_isPower_19 : decode cX0_isPower 19 = .ok (.iconst 0, 1) := by decide +kernel
theorem dX0_isPower_20 : decode cX0_isPower 20 = .ok (.ireturn, 1) := by decide +kernel
theorem dX0_isBlock_0 : decode cX0_isBlock 0 = .ok (.iload_n 0, 1) := by decide +kernel
theorem dX0_isBlock_1 : decode cX0_isBlock 1 = .ok (.ifCond .lt 13, 3) := by decide +kernel
theorem dX0_isBlock_4 : decode cX0_isBlock 4 = .ok (.iload_n 0, 1) := by decide +kernel
theorem dX0_isBlock_5 : decode cX0_isBlock 5 = .ok (.bipush 25, 2) := by decide +kernel
theorem dX0_isBlock_7 : decode cX0_isBlock 7 = .ok (.if_icmp .ge 7, 3) := by decide +kernel
theorem dX0_isBlock_10 : decode cX0_isBlock 10 = .ok (.iconst 1, 1) := by decide +kernel
theorem dX0_isBlock_11 : decode cX0_isBlock 11 = .ok (.goto 4, 3) := by decide +kernel
theorem dX0_isBlock_14 : decode cX0_isBlock 14 = .ok (.iconst 0, 1) := by decide +kernel
theorem dX0_isBlock_15 : decode cX0_isBlock 15 = .ok (.ireturn, 1) := by decide +kernel
theorem dX0_isKey_0 : decode cX0_isKey 0 = .ok (.iload_n 0, 1) := by decide +kernel
theorem dX0_isKey_1 : decode cX0_isKey 1 = .ok (.ifCond .lt 13, 3) := by decide +kernel
theorem dX0_isKey_4 : decode cX0_isKey 4 = .ok (.iload_n 0, 1) := by decide +kernel
theorem dX0_isKey_5 : decode cX0_isKey 5 = .ok (.bipush 48, 2) := by decide +kernel
theorem dX0_isKey_7 : decode cX0_isKey 7 = .ok (.if_icmp .gt 7, 3) := by decide +kernel
theorem dX0_isKey_10 : decode cX0_isKey 10 = .ok (.iconst 1, 1) := by decide +kernel
theorem dX0_isKey_11 : decode cX0_isKey 11 = .ok (.goto 4, 3) := by decide +kernel
theorem dX0_isKey_14 : decode cX0_isKey 14 = .ok (.iconst 0, 1) := by decide +kernel
theorem dX0_isKey_15 : decode cX0_isKey 15 = .ok (.ireturn, 1) := by decide +kernel
theorem dX0_isNodeKey_0 : decode cX0_isNodeKey 0 = .ok (.iload_n 0, 1) := by decide +kernel
theorem dX0_isNodeKey_1 : decode cX0_isNodeKey 1 = .ok (.iconst 1, 1) := by decide +kernel
theorem dX0_isNodeKey_2 : decode cX0_isNodeKey 2 = .ok (.if_icmp .lt 13, 3) := by decide +kernel
theorem dX0_isNodeKey_5 : decode cX0_isNodeKey 5 = .ok (.iload_n 0, 1) := by decide +kernel
theorem dX0_isNodeKey_6 : decode cX0_isNodeKey 6 = .ok (.bipush 33, 2) := by decide +kernel
theorem dX0_isNodeKey_8 : decode cX0_isNodeKey 8 = .ok (.if_icmp .ge 7, 3) := by decide +kernel
theorem dX0_isNodeKey_11 : decode cX0_isNodeKey 11 = .ok (.iconst 1, 1) := by decide +kernel
theorem dX0_isNodeKey_12 : decode cX0_isNodeKey 12 = .ok (.goto 4, 3) := by decide +kernel
theorem dX0_isNodeKey_15 : decode cX0_isNodeKey 15 = .ok (.iconst 0, 1) := by decide +kernel
theorem dX0_isNodeKey_16 : decode cX0_isNodeKey 16 = .ok (.ireturn, 1) := by decide +kernel
theorem dX0_isPageKey_0 : decode cX0_isPageKey 0 = .ok (.iload_n 0, 1) := by decide +kernel
theorem dX0_isPageKey_1 : decode cX0_isPageKey 1 = .ok (.bipush 33, 2) := by decide +kernel
theorem dX0_isPageKey_3 : decode cX0_isPageKey 3 = .ok (.if_icmp .lt 13, 3) := by decide +kernel
theorem dX0_isPageKey_6 : decode cX0_isPageKey 6 = .ok (.iload_n 0, 1) := by decide +kernel
theorem dX0_isPageKey_7 : decode cX0_isPageKey 7 = .ok (.bipush 48, 2) := by decide +kernel
theorem dX0_isPageKey_9 : decode cX0_isPageKey 9 = .ok (.if_icmp .gt 7, 3) := by decide +kernel
theorem dX0_isPageKey_12 : decode cX0_isPageKey 12 = .ok (.iconst 1, 1) := by decide +kernel
theorem dX0_isPageKey_13 : decode cX0_isPageKey 13 = .ok (.goto 4, 3) := by decide +kernel
theorem dX0_isPageKey_16 : decode cX0_isPageKey 16 = .ok (.iconst 0, 1) := by decide +kernel
theorem dX0_isPageKey_17 : decode cX0_isPageKey 17 = .ok (.ireturn, 1) := by decide +kernel
theorem dX0_objectOf_0 : decode cX0_objectOf 0 = .ok (.iload_n 0, 1) := by decide +kernel
theorem dX0_objectOf_1 : decode cX0_objectOf 1 = .ok (.iconst 1, 1) := by decide +kernel
theorem dX0_objectOf_2 : decode cX0_objectOf 2 = .ok (.isub, 1) := by decide +kernel
theorem dX0_objectOf_3 : decode cX0_objectOf 3 = .ok (.iconst 4, 1) := by decide +kernel
theorem dX0_objectOf_4 : decode cX0_objectOf 4 = .ok (.idiv, 1) := by decide +kernel
theorem dX0_objectOf_5 : decode cX0_objectOf 5 = .ok (.ireturn, 1) := by decide +kernel
theorem dX0_limitsOf_0 : decode cX0_limitsOf 0 = .ok (.iload_n 0, 1) := by decide +kernel
theorem dX0_limitsOf_1 : decode cX0_limitsOf 1 = .ok (.iconst 1, 1) := by decide +kernel
theorem dX0_limitsOf_2 : decode cX0_limitsOf 2 = .ok (.isub, 1) := by decide +kernel
theorem dX0_limitsOf_3 : decode cX0_limitsOf 3 = .ok (.iconst 4, 1) := by decide +kernel
theorem dX0_limitsOf_4 : decode cX0_limitsOf 4 = .ok (.irem, 1) := by decide +kernel
theorem dX0_limitsOf_5 : decode cX0_limitsOf 5 = .ok (.ireturn, 1) := by decide +kernel
set_option maxRecDepth 20000 in
theorem ggX0_isWriting_X0_limitsOf : GoodIn wsX0_isWriting wsX0_limitsOf := goodIn_r _ [4] (by decide +kernel) (by decide +kernel)
set_option maxRecDepth 20000 in
theorem gX0_isWriting_X0_limitsOf : GoodIn wsX0_isWriting (va_wsS RX0 112 yX0_limitsOf wsX0_limitsOf) := goodIn_app (goodIn_of _ (by decide +kernel)) ggX0_isWriting_X0_limitsOf
theorem dX0_isWriting_0 : decode cX0_isWriting 0 = .ok (.iload_n 0, 1) := by decide +kernel
theorem dX0_isWriting_1 : decode cX0_isWriting 1 = .ok (.invokestatic 112, 3) := by decide +kernel
theorem dX0_isWriting_4 : decode cX0_isWriting 4 = .ok (.ifCond .ne 7, 3) := by decide +kernel
theorem dX0_isWriting_7 : decode cX0_isWriting 7 = .ok (.iconst 1, 1) := by decide +kernel
theorem dX0_isWriting_8 : decode cX0_isWriting 8 = .ok (.goto 4, 3) := by decide +kernel
theorem dX0_isWriting_11 : decode cX0_isWriting 11 = .ok (.iconst 0, 1) := by decide +kernel
theorem dX0_isWriting_12 : decode cX0_isWriting 12 = .ok (.ireturn, 1) := by decide +kernel
set_option maxRecDepth 20000 in
theorem ggX0_isWeak_X0_limitsOf : GoodIn wsX0_isWeak wsX0_limitsOf := goodIn_r _ [4] (by decide +kernel) (by decide +kernel)
set_option maxRecDepth 20000 in
theorem gX0_isWeak_X0_limitsOf : GoodIn wsX0_isWeak (va_wsS RX0 112 yX0_limitsOf wsX0_limitsOf) := goodIn_app (goodIn_of _ (by decide +kernel)) ggX0_isWeak_X0_limitsOf
theorem dX0_isWeak_0 : decode cX0_isWeak 0 = .ok (.iload_n 0, 1) := by decide +kernel
theorem dX0_isWeak_1 : decode cX0_isWeak 1 = .ok (.invokestatic 112, 3) := by decide +kernel
theorem dX0_isWeak_4 : decode cX0_isWeak 4 = .ok (.iconst 2, 1) := by decide +kernel
theorem dX0_isWeak_5 : decode cX0_isWeak 5 = .ok (.iand, 1) := by decide +kernel
theorem dX0_isWeak_6 : decode cX0_isWeak 6 = .ok (.ifCond .eq 7, 3) := by decide +kernel
theorem dX0_isWeak_9 : decode cX0_isWeak 9 = .ok (.iconst 1, 1) := by decide +kernel
theorem dX0_isWeak_10 : decode cX0_isWeak 10 = .ok (.goto 4, 3) := by decide +kernel
theorem dX0_isWeak_13 : decode cX0_isWeak 13 = .ok (.iconst 0, 1) := by decide +kernel
theorem dX0_isWeak_14 : decode cX0_isWeak 14 = .ok (.ireturn, 1) := by decide +kernel
set_option maxRecDepth 20000 in
theorem ggX0_limited_X0_objectOf : GoodIn wsX0_limited wsX0_objectOf := goodIn_r _ [4] (by decide +kernel) (by decide +kernel)
set_option maxRecDepth 20000 in
theorem gX0_limited_X0_objectOf : GoodIn wsX0_limited (va_wsS RX0 62 yX0_objectOf wsX0_objectOf) := goodIn_app (goodIn_of _ (by decide +kernel)) ggX0_limited_X0_objectOf
set_option maxRecDepth 20000 in
theorem ggX0_limited_X0_limitsOf : GoodIn wsX0_limited wsX0_limitsOf := goodIn_r _ [7] (by decide +kernel) (by decide +kernel)
set_option maxRecDepth 20000 in
theorem gX0_limited_X0_limitsOf : GoodIn wsX0_limited (va_wsS RX0 112 yX0_limitsOf wsX0_limitsOf) := goodIn_app (goodIn_of _ (by decide +kernel)) ggX0_limited_X0_limitsOf
theorem dX0_limited_0 : decode cX0_limited 0 = .ok (.iload_n 0, 1) := by decide +kernel
theorem dX0_limited_1 : decode cX0_limited 1 = .ok (.ifCond .ne 5, 3) := by decide +kernel
theorem dX0_limited_4 : decode cX0_limited 4 = .ok (.iconst 0, 1) := by decide +kernel
theorem dX0_limited_5 : decode cX0_limited 5 = .ok (.ireturn, 1) := by decide +kernel
theorem dX0_limited_6 : decode cX0_limited 6 = .ok (.iconst 1, 1) := by decide +kernel
theorem dX0_limited_7 : decode cX0_limited 7 = .ok (.iconst 4, 1) := by decide +kernel
theorem dX0_limited_8 : decode cX0_limited 8 = .ok (.iload_n 0, 1) := by decide +kernel
theorem dX0_limited_9 : decode cX0_limited 9 = .ok (.invokestatic 62, 3) := by decide +kernel
theorem dX0_limited_12 : decode cX0_limited 12 = .ok (.imul, 1) := by decide +kernel
theorem dX0_limited_13 : decode cX0_limited 13 = .ok (.iadd, 1) := by decide +kernel
theorem dX0_limited_14 : decode cX0_limited 14 = .ok (.iload_n 0, 1) := by decide +kernel
theorem dX0_limited_15 : decode cX0_limited 15 = .ok (.invokestatic 112, 3) := by decide +kernel
theorem dX0_limited_18 : decode cX0_limited 18 = .ok (.iload_n 1, 1) := by decide +kernel
theorem dX0_limited_19 : decode cX0_limited 19 = .ok (.ior, 1) := by decide +kernel
theorem dX0_limited_20 : decode cX0_limited 20 = .ok (.iadd, 1) := by decide +kernel
theorem dX0_limited_21 : decode cX0_limited 21 = .ok (.ireturn, 1) := by decide +kernel
theorem dX0_get_0 : decode cX0_get 0 = .ok (.aload_n 0, 1) := by decide +kernel
theorem dX0_get_1 : decode cX0_get 1 = .ok (.getfield 9, 3) := by decide +kernel
theorem dX0_get_4 : decode cX0_get 4 = .ok (.iload_n 1, 1) := by decide +kernel
theorem dX0_get_5 : decode cX0_get 5 = .ok (.bipush 8, 2) := by decide +kernel
theorem dX0_get_7 : decode cX0_get 7 = .ok (.imul, 1) := by decide +kernel
theorem dX0_get_8 : decode cX0_get 8 = .ok (.iload_n 2, 1) := by decide +kernel
theorem dX0_get_9 : decode cX0_get 9 = .ok (.iadd, 1) := by decide +kernel
theorem dX0_get_10 : decode cX0_get 10 = .ok (.iaload, 1) := by decide +kernel
theorem dX0_get_11 : decode cX0_get 11 = .ok (.ireturn, 1) := by decide +kernel
theorem dX0_put_0 : decode cX0_put 0 = .ok (.aload_n 0, 1) := by decide +kernel
theorem dX0_put_1 : decode cX0_put 1 = .ok (.getfield 9, 3) := by decide +kernel
theorem dX0_put_4 : decode cX0_put 4 = .ok (.iload_n 1, 1) := by decide +kernel
theorem dX0_put_5 : decode cX0_put 5 = .ok (.bipush 8, 2) := by decide +kernel
theorem dX0_put_7 : decode cX0_put 7 = .ok (.imul, 1) := by decide +kernel
theorem dX0_put_8 : decode cX0_put 8 = .ok (.iload_n 2, 1) := by decide +kernel
theorem dX0_put_9 : decode cX0_put 9 = .ok (.iadd, 1) := by decide +kernel
theorem dX0_put_10 : decode cX0_put 10 = .ok (.iload_n 3, 1) := by decide +kernel
theorem dX0_put_11 : decode cX0_put 11 = .ok (.iastore, 1) := by decide +kernel
theorem dX0_put_12 : decode cX0_put 12 = .ok (.aload_n 0, 1) := by decide +kernel
theorem dX0_put_13 : decode cX0_put 13 = .ok (.dup, 1) := by decide +kernel
theorem dX0_put_14 : decode cX0_put 14 = .ok (.getfield 19, 3) := by decide +kernel
theorem dX0_put_17 : decode cX0_put 17 = .ok (.iconst 1, 1) := by decide +kernel
theorem dX0_put_18 : decode cX0_put 18 = .ok (.iload_n 1, 1) := by decide +kernel
theorem dX0_put_19 : decode cX0_put 19 = .ok (.ishl, 1) := by decide +kernel
theorem dX0_put_20 : decode cX0_put 20 = .ok (.ior, 1) := by decide +kernel
theorem dX0_put_21 : decode cX0_put 21 = .ok (.putfield 19, 3) := by decide +kernel
theorem dX0_put_24 : decode cX0_put 24 = .ok (.return_, 1) := by decide +kernel
theorem dX0_has_0 : decode cX0_has 0 = .ok (.iload_n 0, 1) := by decide +kernel
theorem dX0_has_1 : decode cX0_has 1 = .ok (.iload_n 1, 1) := by decide +kernel
theorem dX0_has_2 : decode cX0_has 2 = .ok (.ishr, 1) := by decide +kernel
theorem dX0_has_3 : decode cX0_has 3 = .ok (.iconst 1, 1) := by decide +kernel
theorem dX0_has_4 : decode cX0_has 4 = .ok (.iand, 1) := by decide +kernel
theorem dX0_has_5 : decode cX0_has 5 = .ok (.ifCond .eq 7, 3) := by decide +kernel
theorem dX0_has_8 : decode cX0_has 8 = .ok (.iconst 1, 1) := by decide +kernel
theorem dX0_has_9 : decode cX0_has 9 = .ok (.goto 4, 3) := by decide +kernel
theorem dX0_has_12 : decode cX0_has 12 = .ok (.iconst 0, 1) := by decide +kernel
theorem dX0_has_13 : decode cX0_has 13 = .ok (.ireturn, 1) := by decide +kernel
set_option maxRecDepth 20000 in
theorem ggX0_saveDirty_X0_copyRows : GoodIn wsX0_saveDirty wsX0_copyRows := goodIn_r _ [8, 9, 10, 7, 11, 12, 13, 14, 15, 16, 17, 18, 19, 20, 21, 22, 23, 29, 30, 31, 32, 33, 34, 35, 36] (by decide +kernel) (by decide +kernel)
set_option maxRecDepth 20000 in
theorem gX0_saveDirty_X0_copyRows : GoodIn wsX0_saveDirty (wsV RX0 115 RX0 yX0_copyRows wsX0_copyRows) := goodIn_app (goodIn_of _ (by decide +kernel)) ggX0_saveDirty_X0_copyRows
set_option maxRecDepth 20000 in
theorem ggX0_saveDirty_X0_writeHeader : GoodIn wsX0_saveDirty wsX0_writeHeader := goodIn_r _ [27, 28, 12, 13, 14, 7, 15, 16, 17, 18, 19, 20, 21, 22, 23, 29, 30, 31, 32, 33, 34, 35, 36] (by decide +kernel) (by decide +kernel)
set_option maxRecDepth 20000 in
theorem gX0_saveDirty_X0_writeHeader : GoodIn wsX0_saveDirty (wsV RX0 119 RX0 yX0_writeHeader wsX0_writeHeader) := goodIn_app (goodIn_of _ (by decide +kernel)) ggX0_saveDirty_X0_writeHeader
theorem dX0_saveDirty_0 : decode cX0_saveDirty 0 = .ok (.aload_n 0, 1) := by decide +kernel
theorem dX0_saveDirty_1 : decode cX0_saveDirty 1 = .ok (.getfield 19, 3) := by decide +kernel
theorem dX0_saveDirty_4 : decode cX0_saveDirty 4 = .ok (.ifCond .ne 5, 3) := by decide +kernel
theorem dX0_saveDirty_7 : decode cX0_saveDirty 7 = .ok (.iconst 1, 1) := by decide +kernel
theorem dX0_saveDirty_8 : decode cX0_saveDirty 8 = .ok (.ireturn, 1) := by decide +kernel
theorem dX0_saveDirty_9 : decode cX0_saveDirty 9 = .ok (.aload_n 0, 1) := by decide +kernel
theorem dX0_saveDirty_10 : decode cX0_saveDirty 10 = .ok (.aload_n 0, 1) := by decide +kernel
theorem dX0_saveDirty_11 : decode cX0_saveDirty 11 = .ok (.getfield 19, 3) := by decide +kernel
theorem dX0_saveDirty_14 : decode cX0_saveDirty 14 = .ok (.aload_n 0, 1) := by decide +kernel
theorem dX0_saveDirty_15 : decode cX0_saveDirty 15 = .ok (.getfield 9, 3) := by decide +kernel
theorem dX0_saveDirty_18 : decode cX0_saveDirty 18 = .ok (.iconst 0, 1) := by decide +kernel
theorem dX0_saveDirty_19 : decode cX0_saveDirty 19 = .ok (.bipush 12, 2) := by decide +kernel
theorem dX0_saveDirty_21 : decode cX0_saveDirty 21 = .ok (.invokevirtual 115, 3) := by decide +kernel
theorem dX0_saveDirty_24 : decode cX0_saveDirty 24 = .ok (.ifCond .eq 14, 3) := by decide +kernel
theorem dX0_saveDirty_27 : decode cX0_saveDirty 27 = .ok (.aload_n 0, 1) := by decide +kernel
theorem dX0_saveDirty_28 : decode cX0_saveDirty 28 = .ok (.aload_n 0, 1) := by decide +kernel
theorem dX0_saveDirty_29 : decode cX0_saveDirty 29 = .ok (.getfield 19, 3) := by decide +kernel
theorem dX0_saveDirty_32 : decode cX0_saveDirty 32 = .ok (.invokevirtual 119, 3) := by decide +kernel
theorem dX0_saveDirty_35 : decode cX0_saveDirty 35 = .ok (.ifCond .ne 5, 3) := by decide +kernel
theorem dX0_saveDirty_38 : decode cX0_saveDirty 38 = .ok (.iconst 0, 1) := by decide +kernel
theorem dX0_saveDirty_39 : decode cX0_saveDirty 39 = .ok (.ireturn, 1) := by decide +kernel
theorem dX0_saveDirty_40 : decode cX0_saveDirty 40 = .ok (.aload_n 0, 1) := by decide +kernel
theorem dX0_saveDirty_41 : decode cX0_saveDirty 41 = .ok (.dup, 1) := by decide +kernel
theorem dX0_saveDirty_42 : decode cX0_saveDirty 42 = .ok (.getfield 33, 3) := by decide +kernel
theorem dX0_saveDirty_45 : decode cX0_saveDirty 45 = .ok (.iconst 1, 1) := by decide +kernel
theorem dX0_saveDirty_46 : decode cX0_saveDirty 46 = .ok (.iadd, 1) := by decide +kernel
theorem dX0_saveDirty_47 : decode cX0_saveDirty 47 = .ok (.putfield 33, 3) := by decide +kernel
theorem dX0_saveDirty_50 : decode cX0_saveDirty 50 = .ok (.aload_n 0, 1) := by decide +kernel
theorem dX0_saveDirty_51 : decode cX0_saveDirty 51 = .ok (.aload_n 0, 1) := by decide +kernel
theorem dX0_saveDirty_52 : decode cX0_saveDirty 52 = .ok (.getfield 19, 3) := by decide +kernel
theorem dX0_saveDirty_55 : decode cX0_saveDirty 55 = .ok (.aload_n 0, 1) := by decide +kernel
theorem dX0_saveDirty_56 : decode cX0_saveDirty 56 = .ok (.getfield 9, 3) := by decide +kernel
theorem dX0_saveDirty_59 : decode cX0_saveDirty 59 = .ok (.iconst 0, 1) := by decide +kernel
theorem dX0_saveDirty_60 : decode cX0_saveDirty 60 = .ok (.iconst 0, 1) := by decide +kernel
theorem dX0_saveDirty_61 : decode cX0_saveDirty 61 = .ok (.invokevirtual 115, 3) := by decide +kernel
theorem dX0_saveDirty_64 : decode cX0_saveDirty 64 = .ok (.ifCond .eq 15, 3) := by decide +kernel
theorem dX0_saveDirty_67 : decode cX0_saveDirty 67 = .ok (.aload_n 0, 1) := by decide +kernel
theorem dX0_saveDirty_68 : decode cX0_saveDirty 68 = .ok (.iconst 0, 1) := by decide +kernel
theorem dX0_saveDirty_69 : decode cX0_saveDirty 69 = .ok (.invokevirtual 119, 3) := by decide +kernel
theorem dX0_saveDirty_72 : decode cX0_saveDirty 72 = .ok (.ifCond .eq 7, 3) := by decide +kernel
theorem dX0_saveDirty_75 : decode cX0_saveDirty 75 = .ok (.iconst 1, 1) := by decide +kernel
theorem dX0_saveDirty_76 : decode cX0_saveDirty 76 = .ok (.goto 4, 3) := by decide +kernel
theorem dX0_saveDirty_79 : decode cX0_saveDirty 79 = .ok (.iconst 0, 1) := by decide +kernel
theorem dX0_saveDirty_80 : decode cX0_saveDirty 80 = .ok (.ireturn, 1) := by decide +kernel
set_option maxRecDepth 20000 in
theorem ggX0_finishCommitted_X0_copyRows : GoodIn wsX0_finishCommitted wsX0_copyRows := goodIn_r _ [6, 7, 8, 5, 9, 10, 11, 12, 13, 14, 15, 1, 16, 17, 18, 19, 20, 26, 27, 28, 29, 30, 31, 32, 33] (by decide +kernel) (by decide +kernel)
set_option maxRecDepth 20000 in
theorem gX0_finishCommitted_X0_copyRows : GoodIn wsX0_finishCommitted (wsV RX0 115 RX0 yX0_copyRows wsX0_copyRows) := goodIn_app (goodIn_of _ (by decide +kernel)) ggX0_finishCommitted_X0_copyRows
set_option maxRecDepth 20000 in
theorem ggX0_finishCommitted_X0_writeHeader : GoodIn wsX0_finishCommitted wsX0_writeHeader := goodIn_r _ [24, 25, 10, 11, 12, 5, 13, 14, 15, 1, 16, 17, 18, 19, 20, 26, 27, 28, 29, 30, 31, 32, 33] (by decide +kernel) (by decide +kernel)
set_option maxRecDepth 20000 in
theorem gX0_finishCommitted_X0_writeHeader : GoodIn wsX0_finishCommitted (wsV RX0 119 RX0 yX0_writeHeader wsX0_writeHeader) := goodIn_app (goodIn_of _ (by decide +kernel)) ggX0_finishCommitted_X0_writeHeader
theorem dX0_finishCommitted_0 : decode cX0_finishCommitted 0 = .ok (.aload_n 0, 1) := by decide +kernel
theorem dX0_finishCommitted_1 : decode cX0_finishCommitted 1 = .ok (.getfield 13, 3) := by decide +kernel
theorem dX0_finishCommitted_4 : decode cX0_finishCommitted 4 = .ok (.sipush 192, 3) := by decide +kernel
theorem dX0_finishCommitted_7 : decode cX0_finishCommitted 7 = .ok (.iaload, 1) := by decide +kernel
theorem dX0_finishCommitted_8 : decode cX0_finishCommitted 8 = .ok (.istore_n 1, 1) := by decide +kernel
theorem dX0_finishCommitted_9 : decode cX0_finishCommitted 9 = .ok (.iload_n 1, 1) := by decide +kernel
theorem dX0_finishCommitted_10 : decode cX0_finishCommitted 10 = .ok (.ifCond .ne 5, 3) := by decide +kernel
theorem dX0_finishCommitted_13 : decode cX0_finishCommitted 13 = .ok (.iconst 1, 1) := by decide +kernel
theorem dX0_finishCommitted_14 : decode cX0_finishCommitted 14 = .ok (.ireturn, 1) := by decide +kernel
theorem dX0_finishCommitted_15 : decode cX0_finishCommitted 15 = .ok (.aload_n 0, 1) := by decide +kernel
theorem dX0_finishCommitted_16 : decode cX0_finishCommitted 16 = .ok (.iload_n 1, 1) := by decide +kernel
theorem dX0_finishCommitted_17 : decode cX0_finishCommitted 17 = .ok (.aload_n 0, 1) := by decide +kernel
theorem dX0_finishCommitted_18 : decode cX0_finishCommitted 18 = .ok (.getfield 13, 3) := by decide +kernel
theorem dX0_finishCommitted_21 : decode cX0_finishCommitted 21 = .ok (.bipush 12, 2) := by decide +kernel
theorem dX0_finishCommitted_23 : decode cX0_finishCommitted 23 = .ok (.iconst 0, 1) := by decide +kernel
theorem dX0_finishCommitted_24 : decode cX0_finishCommitted 24 = .ok (.invokevirtual 115, 3) := by decide +kernel
theorem dX0_finishCommitted_27 : decode cX0_finishCommitted 27 = .ok (.ifCond .eq 15, 3) := by decide +kernel
theorem dX0_finishCommitted_30 : decode cX0_finishCommitted 30 = .ok (.aload_n 0, 1) := by decide +kernel
theorem dX0_finishCommitted_31 : decode cX0_finishCommitted 31 = .ok (.iconst 0, 1) := by decide +kernel
theorem dX0_finishCommitted_32 : decode cX0_finishCommitted 32 = .ok (.invokevirtual 119, 3) := by decide +kernel
theorem dX0_finishCommitted_35 : decode cX0_finishCommitted 35 = .ok (.ifCond .eq 7, 3) := by decide +kernel
theorem dX0_finishCommitted_38 : decode cX0_finishCommitted 38 = .ok (.iconst 1, 1) := by decide +kernel
theorem dX0_finishCommitted_39 : decode cX0_finishCommitted 39 = .ok (.goto 4, 3) := by decide +kernel
theorem dX0_finishCommitted_42 : decode cX0_finishCommitted 42 = .ok (.iconst 0, 1) := by decide +kernel
theorem dX0_finishCommitted_43 : decode cX0_finishCommitted 43 = .ok (.ireturn, 1) := by decide +kernel
theorem dX0_loadHomes_0 : decode cX0_loadHomes 0 = .ok (.aload_n 0, 1) := by decide +kernel
theorem dX0_loadHomes_1 : decode cX0_loadHomes 1 = .ok (.getfield 13, 3) := by decide +kernel
theorem dX0_loadHomes_4 : decode cX0_loadHomes 4 = .ok (.iconst 0, 1) := by decide +kernel
theorem dX0_loadHomes_5 : decode cX0_loadHomes 5 = .ok (.aload_n 0, 1) := by decide +kernel
theorem dX0_loadHomes_6 : decode cX0_loadHomes 6 = .ok (.getfield 9, 3) := by decide +kernel
theorem dX0_loadHomes_9 : decode cX0_loadHomes 9 = .ok (.iconst 0, 1) := by decide +kernel
theorem dX0_loadHomes_10 : decode cX0_loadHomes 10 = .ok (.bipush 96, 2) := by decide +kernel
theorem dX0_loadHomes_12 : decode cX0_loadHomes 12 = .ok (.invokestatic 122, 3) := by decide +kernel
theorem dX0_loadHomes_15 : decode cX0_loadHomes 15 = .ok (.aload_n 0, 1) := by decide +kernel
theorem dX0_loadHomes_16 : decode cX0_loadHomes 16 = .ok (.iconst 0, 1) := by decide +kernel
theorem dX0_loadHomes_17 : decode cX0_loadHomes 17 = .ok (.putfield 19, 3) := by decide +kernel
theorem dX0_loadHomes_20 : decode cX0_loadHomes 20 = .ok (.return_, 1) := by decide +kernel
set_option maxRecDepth 20000 in
theorem ggX0_copyRows_X0_has : GoodIn wsX0_copyRows wsX0_has := goodIn_r _ [4] (by decide +kernel) (by decide +kernel)
set_option maxRecDepth 20000 in
theorem gX0_copyRows_X0_has : GoodIn wsX0_copyRows (va_wsS RX0 128 yX0_has wsX0_has) := goodIn_app (goodIn_of _ (by decide +kernel)) ggX0_copyRows_X0_has
set_option maxRecDepth 20000 in
theorem ggX0_copyRows_X0_writeBlock : GoodIn wsX0_copyRows wsX0_writeBlock := goodIn_r _ [8, 9, 10, 11, 12, 13, 14, 15, 16, 17, 18, 19, 20, 21, 22, 23, 24] (by decide +kernel) (by decide +kernel)
set_option maxRecDepth 20000 in
theorem gX0_copyRows_X0_writeBlock : GoodIn wsX0_copyRows (wsV RX0 131 RX0 yX0_writeBlock wsX0_writeBlock) := goodIn_app (goodIn_of _ (by decide +kernel)) ggX0_copyRows_X0_writeBlock
theorem dX0_copyRows_0 : decode cX0_copyRows 0 = .ok (.iconst 0, 1) := by decide +kernel
theorem dX0_copyRows_1 : decode cX0_copyRows 1 = .ok (.istore 5, 2) := by decide +kernel
theorem dX0_copyRows_3 : decode cX0_copyRows 3 = .ok (.iload 5, 2) := by decide +kernel
theorem dX0_copyRows_5 : decode cX0_copyRows 5 = .ok (.bipush 12, 2) := by decide +kernel
theorem dX0_copyRows_7 : decode cX0_copyRows 7 = .ok (.if_icmp .ge 37, 3) := by decide +kernel
theorem dX0_copyRows_10 : decode cX0_copyRows 10 = .ok (.iload_n 1, 1) := by decide +kernel
theorem dX0_copyRows_11 : decode cX0_copyRows 11 = .ok (.iload 5, 2) := by decide +kernel
theorem dX0_copyRows_13 : decode cX0_copyRows 13 = .ok (.invokestatic 128, 3) := by decide +kernel
theorem dX0_copyRows_16 : decode cX0_copyRows 16 = .ok (.ifCond .eq 22, 3) := by decide +kernel
theorem dX0_copyRows_19 : decode cX0_copyRows 19 = .ok (.aload_n 0, 1) := by decide +kernel
theorem dX0_copyRows_20 : decode cX0_copyRows 20 = .ok (.iload 4, 2) := by decide +kernel
theorem dX0_copyRows_22 : decode cX0_copyRows 22 = .ok (.iload 5, 2) := by decide +kernel
theorem dX0_copyRows_24 : decode cX0_copyRows 24 = .ok (.iadd, 1) := by decide +kernel
theorem dX0_copyRows_25 : decode cX0_copyRows 25 = .ok (.aload_n 2, 1) := by decide +kernel
theorem dX0_copyRows_26 : decode cX0_copyRows 26 = .ok (.iload_n 3, 1) := by decide +kernel
theorem dX0_copyRows_27 : decode cX0_copyRows 27 = .ok (.iload 5, 2) := by decide +kernel
theorem dX0_copyRows_29 : decode cX0_copyRows 29 = .ok (.iadd, 1) := by decide +kernel
theorem dX0_copyRows_30 : decode cX0_copyRows 30 = .ok (.invokevirtual 131, 3) := by decide +kernel
theorem dX0_copyRows_33 : decode cX0_copyRows 33 = .ok (.ifCond .ne 5, 3) := by decide +kernel
theorem dX0_copyRows_36 : decode cX0_copyRows 36 = .ok (.iconst 0, 1) := by decide +kernel
theorem dX0_copyRows_37 : decode cX0_copyRows 37 = .ok (.ireturn, 1) := by decide +kernel
theorem dX0_copyRows_38 : decode cX0_copyRows 38 = .ok (.iinc 5 1, 3) := by decide +kernel
theorem dX0_copyRows_41 : decode cX0_copyRows 41 = .ok (.goto (-38), 3) := by decide +kernel
theorem dX0_copyRows_44 : decode cX0_copyRows 44 = .ok (.iconst 1, 1) := by decide +kernel
theorem dX0_copyRows_45 : decode cX0_copyRows 45 = .ok (.ireturn, 1) := by decide +kernel
set_option maxRecDepth 20000 in
theorem ggX0_writeHeader_X0_writeBlock : GoodIn wsX0_writeHeader wsX0_writeBlock := goodIn_r _ [6, 7, 8, 9, 10, 11, 12, 13, 14, 15, 16, 17, 18, 19, 20, 21, 22] (by decide +kernel) (by decide +kernel)
set_option maxRecDepth 20000 in
theorem gX0_writeHeader_X0_writeBlock : GoodIn wsX0_writeHeader (wsV RX0 131 RX0 yX0_writeBlock wsX0_writeBlock) := goodIn_app (goodIn_of _ (by decide +kernel)) ggX0_writeHeader_X0_writeBlock
theorem dX0_writeHeader_0 : decode cX0_writeHeader 0 = .ok (.aload_n 0, 1) := by decide +kernel
theorem dX0_writeHeader_1 : decode cX0_writeHeader 1 = .ok (.getfield 16, 3) := by decide +kernel
theorem dX0_writeHeader_4 : decode cX0_writeHeader 4 = .ok (.iconst 0, 1) := by decide +kernel
theorem dX0_writeHeader_5 : decode cX0_writeHeader 5 = .ok (.iload_n 1, 1) := by decide +kernel
theorem dX0_writeHeader_6 : decode cX0_writeHeader 6 = .ok (.iastore, 1) := by decide +kernel
theorem dX0_writeHeader_7 : decode cX0_writeHeader 7 = .ok (.aload_n 0, 1) := by decide +kernel
theorem dX0_writeHeader_8 : decode cX0_writeHeader 8 = .ok (.bipush 24, 2) := by decide +kernel
theorem dX0_writeHeader_10 : decode cX0_writeHeader 10 = .ok (.aload_n 0, 1) := by decide +kernel
theorem dX0_writeHeader_11 : decode cX0_writeHeader 11 = .ok (.getfield 16, 3) := by decide +kernel
theorem dX0_writeHeader_14 : decode cX0_writeHeader 14 = .ok (.iconst 0, 1) := by decide +kernel
theorem dX0_writeHeader_15 : decode cX0_writeHeader 15 = .ok (.invokevirtual 131, 3) := by decide +kernel
theorem dX0_writeHeader_18 : decode cX0_writeHeader 18 = .ok (.ireturn, 1) := by decide +kernel
theorem dX0_writeBlock_0 : decode cX0_writeBlock 0 = .ok (.aload_n 0, 1) := by decide +kernel
theorem dX0_writeBlock_1 : decode cX0_writeBlock 1 = .ok (.getfield 23, 3) := by decide +kernel
theorem dX0_writeBlock_4 : decode cX0_writeBlock 4 = .ok (.ifCond .ne 10, 3) := by decide +kernel
theorem dX0_writeBlock_7 : decode cX0_writeBlock 7 = .ok (.aload_n 0, 1) := by decide +kernel
theorem dX0_writeBlock_8 : decode cX0_writeBlock 8 = .ok (.iconst 0, 1) := by decide +kernel
theorem dX0_writeBlock_9 : decode cX0_writeBlock 9 = .ok (.putfield 26, 3) := by decide +kernel
theorem dX0_writeBlock_12 : decode cX0_writeBlock 12 = .ok (.iconst 0, 1) := by decide +kernel
theorem dX0_writeBlock_13 : decode cX0_writeBlock 13 = .ok (.ireturn, 1) := by decide +kernel
theorem dX0_writeBlock_14 : decode cX0_writeBlock 14 = .ok (.aload_n 2, 1) := by decide +kernel
theorem dX0_writeBlock_15 : decode cX0_writeBlock 15 = .ok (.iload_n 3, 1) := by decide +kernel
theorem dX0_writeBlock_16 : decode cX0_writeBlock 16 = .ok (.bipush 8, 2) := by decide +kernel
theorem dX0_writeBlock_18 : decode cX0_writeBlock 18 = .ok (.imul, 1) := by decide +kernel
theorem dX0_writeBlock_19 : decode cX0_writeBlock 19 = .ok (.aload_n 0, 1) := by decide +kernel
theorem dX0_writeBlock_20 : decode cX0_writeBlock 20 = .ok (.getfield 13, 3) := by decide +kernel
theorem dX0_writeBlock_23 : decode cX0_writeBlock 23 = .ok (.iload_n 1, 1) := by decide +kernel
theorem dX0_writeBlock_24 : decode cX0_writeBlock 24 = .ok (.bipush 8, 2) := by decide +kernel
theorem dX0_writeBlock_26 : decode cX0_writeBlock 26 = .ok (.imul, 1) := by decide +kernel
theorem dX0_writeBlock_27 : decode cX0_writeBlock 27 = .ok (.bipush 8, 2) := by decide +kernel
theorem dX0_writeBlock_29 : decode cX0_writeBlock 29 = .ok (.invokestatic 122, 3) := by decide +kernel
theorem dX0_writeBlock_32 : decode cX0_writeBlock 32 = .ok (.aload_n 0, 1) := by decide +kernel
theorem dX0_writeBlock_33 : decode cX0_writeBlock 33 = .ok (.getfield 23, 3) := by decide +kernel
theorem dX0_writeBlock_36 : decode cX0_writeBlock 36 = .ok (.iconst (-1), 1) := by decide +kernel
theorem dX0_writeBlock_37 : decode cX0_writeBlock 37 = .ok (.if_icmp .eq 13, 3) := by decide +kernel
theorem dX0_writeBlock_40 : decode cX0_writeBlock 40 = .ok (.aload_n 0, 1) := by decide +kernel
theorem dX0_writeBlock_41 : decode cX0_writeBlock 41 = .ok (.dup, 1) := by decide +kernel
theorem dX0_writeBlock_42 : decode cX0_writeBlock 42 = .ok (.getfield 23, 3) := by decide +kernel
theorem dX0_writeBlock_45 : decode cX0_writeBlock 45 = .ok (.iconst 1, 1) := by decide +kernel
theorem dX0_writeBlock_46 : decode cX0_writeBlock 46 = .ok (.isub, 1) := by decide +kernel
theorem dX0_writeBlock_47 : decode cX0_writeBlock 47 = .ok (.putfield 23, 3) := by decide +kernel
theorem dX0_writeBlock_50 : decode cX0_writeBlock 50 = .ok (.aload_n 0, 1) := by decide +kernel
theorem dX0_writeBlock_51 : decode cX0_writeBlock 51 = .ok (.dup, 1) := by decide +kernel
theorem dX0_writeBlock_52 : decode cX0_writeBlock 52 = .ok (.getfield 30, 3) := by decide +kernel
theorem dX0_writeBlock_55 : decode cX0_writeBlock 55 = .ok (.iconst 1, 1) := by decide +kernel
theorem dX0_writeBlock_56 : decode cX0_writeBlock 56 = .ok (.iadd, 1) := by decide +kernel
theorem dX0_writeBlock_57 : decode cX0_writeBlock 57 = .ok (.putfield 30, 3) := by decide +kernel
theorem dX0_writeBlock_60 : decode cX0_writeBlock 60 = .ok (.iconst 1, 1) := by decide +kernel
theorem dX0_writeBlock_61 : decode cX0_writeBlock 61 = .ok (.ireturn, 1) := by decide +kernel

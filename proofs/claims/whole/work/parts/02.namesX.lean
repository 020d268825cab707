theorem dX0_init_0 : decode cX0_init 0 = .ok (.aload_n 0, 1) := by decide +kernel
theorem dX0_init_1 : decode cX0_init 1 = .ok (.invokespecial 3, 3) := by decide +kernel
theorem dX0_init_4 : decode cX0_init 4 = .ok (.aload_n 0, 1) := by decide +kernel
theorem dX0_init_5 : decode cX0_init 5 = .ok (.iconst (-1), 1) := by decide +kernel
theorem dX0_init_6 : decode cX0_init 6 = .ok (.putfield 9, 3) := by decide +kernel
theorem dX0_init_9 : decode cX0_init 9 = .ok (.aload_n 0, 1) := by decide +kernel
theorem dX0_init_10 : decode cX0_init 10 = .ok (.iload_n 1, 1) := by decide +kernel
theorem dX0_init_11 : decode cX0_init 11 = .ok (.putfield 15, 3) := by decide +kernel
theorem dX0_init_14 : decode cX0_init 14 = .ok (.aload_n 0, 1) := by decide +kernel
theorem dX0_init_15 : decode cX0_init 15 = .ok (.iload_n 2, 1) := by decide +kernel
theorem dX0_init_16 : decode cX0_init 16 = .ok (.putfield 18, 3) := by decide +kernel
theorem dX0_init_19 : decode cX0_init 19 = .ok (.aload_n 0, 1) := by decide +kernel
theorem dX0_init_20 : decode cX0_init 20 = .ok (.iload_n 1, 1) := by decide +kernel
theorem dX0_init_21 : decode cX0_init 21 = .ok (.newarray .int, 2) := by decide +kernel
theorem dX0_init_23 : decode cX0_init 23 = .ok (.putfield 21, 3) := by decide +kernel
theorem dX0_init_26 : decode cX0_init 26 = .ok (.aload_n 0, 1) := by decide +kernel
theorem dX0_init_27 : decode cX0_init 27 = .ok (.iconst 4, 1) := by decide +kernel
theorem dX0_init_28 : decode cX0_init 28 = .ok (.iload_n 1, 1) := by decide +kernel
theorem dX0_init_29 : decode cX0_init 29 = .ok (.multianewarray 25 2, 4) := by decide +kernel
theorem dX0_init_33 : decode cX0_init 33 = .ok (.putfield 27, 3) := by decide +kernel
theorem dX0_init_36 : decode cX0_init 36 = .ok (.return_, 1) := by decide +kernel
theorem dX0_size_0 : decode cX0_size 0 = .ok (.aload_n 0, 1) := by decide +kernel
theorem dX0_size_1 : decode cX0_size 1 = .ok (.getfield 30, 3) := by decide +kernel
theorem dX0_size_4 : decode cX0_size 4 = .ok (.ireturn, 1) := by decide +kernel
set_option maxRecDepth 20000 in
theorem ggX0_startOf_X0_has : GoodIn wsX0_startOf wsX0_has := goodIn_r _ [6, 7, 14, 15, 16, 17, 18, 19, 20] (by decide +kernel) (by decide +kernel)
set_option maxRecDepth 20000 in
theorem gX0_startOf_X0_has : GoodIn wsX0_startOf (wsV RX0 33 RX0 yX0_has wsX0_has) := goodIn_app (goodIn_of _ (by decide +kernel)) ggX0_startOf_X0_has
set_option maxRecDepth 20000 in
theorem ggX0_startOf_X0_slot : GoodIn wsX0_startOf wsX0_slot := goodIn_r _ [11, 12, 13, 14, 15, 16, 17, 18, 19, 20] (by decide +kernel) (by decide +kernel)
set_option maxRecDepth 20000 in
theorem gX0_startOf_X0_slot : GoodIn wsX0_startOf (wsV RX0 37 RX0 yX0_slot wsX0_slot) := goodIn_app (goodIn_of _ (by decide +kernel)) ggX0_startOf_X0_slot
theorem dX0_startOf_0 : decode cX0_startOf 0 = .ok (.aload_n 0, 1) := by decide +kernel
theorem dX0_startOf_1 : decode cX0_startOf 1 = .ok (.iload_n 1, 1) := by decide +kernel
theorem dX0_startOf_2 : decode cX0_startOf 2 = .ok (.invokevirtual 33, 3) := by decide +kernel
theorem dX0_startOf_5 : decode cX0_startOf 5 = .ok (.ifCond .eq 16, 3) := by decide +kernel
theorem dX0_startOf_8 : decode cX0_startOf 8 = .ok (.aload_n 0, 1) := by decide +kernel
theorem dX0_startOf_9 : decode cX0_startOf 9 = .ok (.getfield 21, 3) := by decide +kernel
theorem dX0_startOf_12 : decode cX0_startOf 12 = .ok (.aload_n 0, 1) := by decide +kernel
theorem dX0_startOf_13 : decode cX0_startOf 13 = .ok (.iload_n 1, 1) := by decide +kernel
theorem dX0_startOf_14 : decode cX0_startOf 14 = .ok (.invokevirtual 37, 3) := by decide +kernel
theorem dX0_startOf_17 : decode cX0_startOf 17 = .ok (.iaload, 1) := by decide +kernel
theorem dX0_startOf_18 : decode cX0_startOf 18 = .ok (.goto 4, 3) := by decide +kernel
theorem dX0_startOf_21 : decode cX0_startOf 21 = .ok (.iconst (-1), 1) := by decide +kernel
theorem dX0_startOf_22 : decode cX0_startOf 22 = .ok (.ireturn, 1) := by decide +kernel
set_option maxRecDepth 20000 in
theorem ggX0_figureOf_X0_has : GoodIn wsX0_figureOf wsX0_has := goodIn_r _ [6, 7, 14, 15, 16, 17, 18, 19, 20] (by decide +kernel) (by decide +kernel)
set_option maxRecDepth 20000 in
theorem gX0_figureOf_X0_has : GoodIn wsX0_figureOf (wsV RX0 33 RX0 yX0_has wsX0_has) := goodIn_app (goodIn_of _ (by decide +kernel)) ggX0_figureOf_X0_has
set_option maxRecDepth 20000 in
theorem ggX0_figureOf_X0_slot : GoodIn wsX0_figureOf wsX0_slot := goodIn_r _ [11, 12, 13, 14, 15, 16, 17, 18, 19, 20] (by decide +kernel) (by decide +kernel)
set_option maxRecDepth 20000 in
theorem gX0_figureOf_X0_slot : GoodIn wsX0_figureOf (wsV RX0 37 RX0 yX0_slot wsX0_slot) := goodIn_app (goodIn_of _ (by decide +kernel)) ggX0_figureOf_X0_slot
theorem dX0_figureOf_0 : decode cX0_figureOf 0 = .ok (.aload_n 0, 1) := by decide +kernel
theorem dX0_figureOf_1 : decode cX0_figureOf 1 = .ok (.iload_n 1, 1) := by decide +kernel
theorem dX0_figureOf_2 : decode cX0_figureOf 2 = .ok (.invokevirtual 33, 3) := by decide +kernel
theorem dX0_figureOf_5 : decode cX0_figureOf 5 = .ok (.ifCond .eq 27, 3) := by decide +kernel
theorem dX0_figureOf_8 : decode cX0_figureOf 8 = .ok (.iload_n 2, 1) := by decide +kernel
theorem dX0_figureOf_9 : decode cX0_figureOf 9 = .ok (.ifCond .lt 23, 3) := by decide +kernel
theorem dX0_figureOf_12 : decode cX0_figureOf 12 = .ok (.iload_n 2, 1) := by decide +kernel
theorem dX0_figureOf_13 : decode cX0_figureOf 13 = .ok (.iconst 4, 1) := by decide +kernel
theorem dX0_figureOf_14 : decode cX0_figureOf 14 = .ok (.if_icmp .ge 18, 3) := by decide +kernel
theorem dX0_figureOf_17 : decode cX0_figureOf 17 = .ok (.aload_n 0, 1) := by decide +kernel
theorem dX0_figureOf_18 : decode cX0_figureOf 18 = .ok (.getfield 27, 3) := by decide +kernel
theorem dX0_figureOf_21 : decode cX0_figureOf 21 = .ok (.iload_n 2, 1) := by decide +kernel
theorem dX0_figureOf_22 : decode cX0_figureOf 22 = .ok (.aaload, 1) := by decide +kernel
theorem dX0_figureOf_23 : decode cX0_figureOf 23 = .ok (.aload_n 0, 1) := by decide +kernel
theorem dX0_figureOf_24 : decode cX0_figureOf 24 = .ok (.iload_n 1, 1) := by decide +kernel
theorem dX0_figureOf_25 : decode cX0_figureOf 25 = .ok (.invokevirtual 37, 3) := by decide +kernel
theorem dX0_figureOf_28 : decode cX0_figureOf 28 = .ok (.iaload, 1) := by decide +kernel
theorem dX0_figureOf_29 : decode cX0_figureOf 29 = .ok (.goto 4, 3) := by decide +kernel
theorem dX0_figureOf_32 : decode cX0_figureOf 32 = .ok (.iconst 0, 1) := by decide +kernel
theorem dX0_figureOf_33 : decode cX0_figureOf 33 = .ok (.ireturn, 1) := by decide +kernel
set_option maxRecDepth 20000 in
theorem ggX0_take_X0_startOf : GoodIn wsX0_take wsX0_startOf := goodIn_r _ [8, 9, 10, 11, 12, 7, 13, 2, 14, 15, 16, 17, 18, 19, 35, 36, 37, 38, 39, 40, 41] (by decide +kernel) (by decide +kernel)
set_option maxRecDepth 20000 in
theorem gX0_take_X0_startOf : GoodIn wsX0_take (wsV RX0 41 RX0 yX0_startOf wsX0_startOf) := goodIn_app (goodIn_of _ (by decide +kernel)) ggX0_take_X0_startOf
set_option maxRecDepth 20000 in
theorem ggX0_take_X0_open : GoodIn wsX0_take wsX0_open := goodIn_r _ [23, 2, 19, 9, 18, 24, 14, 15, 16, 7, 17, 35, 36, 37, 38, 39, 40, 41] (by decide +kernel) (by decide +kernel)
set_option maxRecDepth 20000 in
theorem gX0_take_X0_open : GoodIn wsX0_take (wsV RX0 44 RX0 yX0_open wsX0_open) := goodIn_app (goodIn_of _ (by decide +kernel)) ggX0_take_X0_open
set_option maxRecDepth 20000 in
theorem ggX0_take_X0_slot : GoodIn wsX0_take wsX0_slot := goodIn_r _ [17, 18, 19, 35, 36, 37, 38, 39, 40, 41] (by decide +kernel) (by decide +kernel)
set_option maxRecDepth 20000 in
theorem gX0_take_X0_slot : GoodIn wsX0_take (wsV RX0 37 RX0 yX0_slot wsX0_slot) := goodIn_app (goodIn_of _ (by decide +kernel)) ggX0_take_X0_slot
set_option maxRecDepth 20000 in
theorem ggX0_take_X0_joined : GoodIn wsX0_take wsX0_joined := goodIn_r _ [27, 28, 29, 30, 31, 32, 33, 34] (by decide +kernel) (by decide +kernel)
set_option maxRecDepth 20000 in
theorem gX0_take_X0_joined : GoodIn wsX0_take (va_wsS RX0 48 yX0_joined wsX0_joined) := goodIn_app (goodIn_of _ (by decide +kernel)) ggX0_take_X0_joined
theorem dX0_take_0 : decode cX0_take 0 = .ok (.iload_n 1, 1) := by decide +kernel
theorem dX0_take_1 : decode cX0_take 1 = .ok (.iload_n 1, 1) := by decide +kernel
theorem dX0_take_2 : decode cX0_take 2 = .ok (.aload_n 0, 1) := by decide +kernel
theorem dX0_take_3 : decode cX0_take 3 = .ok (.getfield 18, 3) := by decide +kernel
theorem dX0_take_6 : decode cX0_take 6 = .ok (.irem, 1) := by decide +kernel
theorem dX0_take_7 : decode cX0_take 7 = .ok (.isub, 1) := by decide +kernel
theorem dX0_take_8 : decode cX0_take 8 = .ok (.istore_n 3, 1) := by decide +kernel
theorem dX0_take_9 : decode cX0_take 9 = .ok (.aload_n 0, 1) := by decide +kernel
theorem dX0_take_10 : decode cX0_take 10 = .ok (.getfield 30, 3) := by decide +kernel
theorem dX0_take_13 : decode cX0_take 13 = .ok (.ifCond .eq 17, 3) := by decide +kernel
theorem dX0_take_16 : decode cX0_take 16 = .ok (.aload_n 0, 1) := by decide +kernel
theorem dX0_take_17 : decode cX0_take 17 = .ok (.aload_n 0, 1) := by decide +kernel
theorem dX0_take_18 : decode cX0_take 18 = .ok (.getfield 30, 3) := by decide +kernel
theorem dX0_take_21 : decode cX0_take 21 = .ok (.iconst 1, 1) := by decide +kernel
theorem dX0_take_22 : decode cX0_take 22 = .ok (.isub, 1) := by decide +kernel
theorem dX0_take_23 : decode cX0_take 23 = .ok (.invokevirtual 41, 3) := by decide +kernel
theorem dX0_take_26 : decode cX0_take 26 = .ok (.iload_n 3, 1) := by decide +kernel
theorem dX0_take_27 : decode cX0_take 27 = .ok (.if_icmp .eq 7, 3) := by decide +kernel
theorem dX0_take_30 : decode cX0_take 30 = .ok (.iconst 1, 1) := by decide +kernel
theorem dX0_take_31 : decode cX0_take 31 = .ok (.goto 4, 3) := by decide +kernel
theorem dX0_take_34 : decode cX0_take 34 = .ok (.iconst 0, 1) := by decide +kernel
theorem dX0_take_35 : decode cX0_take 35 = .ok (.istore 4, 2) := by decide +kernel
theorem dX0_take_37 : decode cX0_take 37 = .ok (.iload 4, 2) := by decide +kernel
theorem dX0_take_39 : decode cX0_take 39 = .ok (.ifCond .eq 8, 3) := by decide +kernel
theorem dX0_take_42 : decode cX0_take 42 = .ok (.aload_n 0, 1) := by decide +kernel
theorem dX0_take_43 : decode cX0_take 43 = .ok (.iload_n 3, 1) := by decide +kernel
theorem dX0_take_44 : decode cX0_take 44 = .ok (.invokevirtual 44, 3) := by decide +kernel
theorem dX0_take_47 : decode cX0_take 47 = .ok (.aload_n 0, 1) := by decide +kernel
theorem dX0_take_48 : decode cX0_take 48 = .ok (.aload_n 0, 1) := by decide +kernel
theorem dX0_take_49 : decode cX0_take 49 = .ok (.getfield 30, 3) := by decide +kernel
theorem dX0_take_52 : decode cX0_take 52 = .ok (.iconst 1, 1) := by decide +kernel
theorem dX0_take_53 : decode cX0_take 53 = .ok (.isub, 1) := by decide +kernel
theorem dX0_take_54 : decode cX0_take 54 = .ok (.invokevirtual 37, 3) := by decide +kernel
theorem dX0_take_57 : decode cX0_take 57 = .ok (.istore 5, 2) := by decide +kernel
theorem dX0_take_59 : decode cX0_take 59 = .ok (.iconst 0, 1) := by decide +kernel
theorem dX0_take_60 : decode cX0_take 60 = .ok (.istore 6, 2) := by decide +kernel
theorem dX0_take_62 : decode cX0_take 62 = .ok (.iload 6, 2) := by decide +kernel
theorem dX0_take_64 : decode cX0_take 64 = .ok (.iconst 4, 1) := by decide +kernel
theorem dX0_take_65 : decode cX0_take 65 = .ok (.if_icmp .ge 58, 3) := by decide +kernel
theorem dX0_take_68 : decode cX0_take 68 = .ok (.iload 6, 2) := by decide +kernel
theorem dX0_take_70 : decode cX0_take 70 = .ok (.iconst 3, 1) := by decide +kernel
theorem dX0_take_71 : decode cX0_take 71 = .ok (.if_icmp .ne 7, 3) := by decide +kernel
theorem dX0_take_74 : decode cX0_take 74 = .ok (.iconst 1, 1) := by decide +kernel
theorem dX0_take_75 : decode cX0_take 75 = .ok (.goto 4, 3) := by decide +kernel
theorem dX0_take_78 : decode cX0_take 78 = .ok (.iload_n 2, 1) := by decide +kernel
theorem dX0_take_79 : decode cX0_take 79 = .ok (.istore 7, 2) := by decide +kernel
theorem dX0_take_81 : decode cX0_take 81 = .ok (.aload_n 0, 1) := by decide +kernel
theorem dX0_take_82 : decode cX0_take 82 = .ok (.getfield 27, 3) := by decide +kernel
theorem dX0_take_85 : decode cX0_take 85 = .ok (.iload 6, 2) := by decide +kernel
theorem dX0_take_87 : decode cX0_take 87 = .ok (.aaload, 1) := by decide +kernel
theorem dX0_take_88 : decode cX0_take 88 = .ok (.astore 8, 2) := by decide +kernel
theorem dX0_take_90 : decode cX0_take 90 = .ok (.aload 8, 2) := by decide +kernel
theorem dX0_take_92 : decode cX0_take 92 = .ok (.iload 5, 2) := by decide +kernel
theorem dX0_take_94 : decode cX0_take 94 = .ok (.iload 4, 2) := by decide +kernel
theorem dX0_take_96 : decode cX0_take 96 = .ok (.ifCond .eq 8, 3) := by decide +kernel
theorem dX0_take_99 : decode cX0_take 99 = .ok (.iload 7, 2) := by decide +kernel
theorem dX0_take_101 : decode cX0_take 101 = .ok (.goto 15, 3) := by decide +kernel
theorem dX0_take_104 : decode cX0_take 104 = .ok (.aload 8, 2) := by decide +kernel
theorem dX0_take_106 : decode cX0_take 106 = .ok (.iload 5, 2) := by decide +kernel
theorem dX0_take_108 : decode cX0_take 108 = .ok (.iaload, 1) := by decide +kernel
theorem dX0_take_109 : decode cX0_take 109 = .ok (.iload 7, 2) := by decide +kernel
theorem dX0_take_111 : decode cX0_take 111 = .ok (.iload 6, 2) := by decide +kernel
theorem dX0_take_113 : decode cX0_take 113 = .ok (.invokestatic 48, 3) := by decide +kernel
theorem dX0_take_116 : decode cX0_take 116 = .ok (.iastore, 1) := by decide +kernel
theorem dX0_take_117 : decode cX0_take 117 = .ok (.iinc 6 1, 3) := by decide +kernel
theorem dX0_take_120 : decode cX0_take 120 = .ok (.goto (-58), 3) := by decide +kernel
theorem dX0_take_123 : decode cX0_take 123 = .ok (.return_, 1) := by decide +kernel
set_option maxRecDepth 20000 in
theorem ggX0_firstFrom_X0_startOf : GoodIn wsX0_firstFrom wsX0_startOf := goodIn_r _ [6, 7, 8, 9, 10, 5, 11, 1, 12, 13, 14, 15, 16, 17, 18, 19, 20, 21, 22, 23, 24] (by decide +kernel) (by decide +kernel)
set_option maxRecDepth 20000 in
theorem gX0_firstFrom_X0_startOf : GoodIn wsX0_firstFrom (wsV RX0 41 RX0 yX0_startOf wsX0_startOf) := goodIn_app (goodIn_of _ (by decide +kernel)) ggX0_firstFrom_X0_startOf
theorem dX0_firstFrom_0 : decode cX0_firstFrom 0 = .ok (.iload_n 1, 1) := by decide +kernel
theorem dX0_firstFrom_1 : decode cX0_firstFrom 1 = .ok (.istore 4, 2) := by decide +kernel
theorem dX0_firstFrom_3 : decode cX0_firstFrom 3 = .ok (.iload 4, 2) := by decide +kernel
theorem dX0_firstFrom_5 : decode cX0_firstFrom 5 = .ok (.aload_n 0, 1) := by decide +kernel
theorem dX0_firstFrom_6 : decode cX0_firstFrom 6 = .ok (.getfield 30, 3) := by decide +kernel
theorem dX0_firstFrom_9 : decode cX0_firstFrom 9 = .ok (.if_icmp .ge 21, 3) := by decide +kernel
theorem dX0_firstFrom_12 : decode cX0_firstFrom 12 = .ok (.aload_n 0, 1) := by decide +kernel
theorem dX0_firstFrom_13 : decode cX0_firstFrom 13 = .ok (.iload 4, 2) := by decide +kernel
theorem dX0_firstFrom_15 : decode cX0_firstFrom 15 = .ok (.invokevirtual 41, 3) := by decide +kernel
theorem dX0_firstFrom_18 : decode cX0_firstFrom 18 = .ok (.i2l, 1) := by decide +kernel
theorem dX0_firstFrom_19 : decode cX0_firstFrom 19 = .ok (.lload_n 2, 1) := by decide +kernel
theorem dX0_firstFrom_20 : decode cX0_firstFrom 20 = .ok (.lcmp, 1) := by decide +kernel
theorem dX0_firstFrom_21 : decode cX0_firstFrom 21 = .ok (.ifCond .ge 9, 3) := by decide +kernel
theorem dX0_firstFrom_24 : decode cX0_firstFrom 24 = .ok (.iinc 4 1, 3) := by decide +kernel
theorem dX0_firstFrom_27 : decode cX0_firstFrom 27 = .ok (.goto (-24), 3) := by decide +kernel
theorem dX0_firstFrom_30 : decode cX0_firstFrom 30 = .ok (.iload 4, 2) := by decide +kernel
theorem dX0_firstFrom_32 : decode cX0_firstFrom 32 = .ok (.ireturn, 1) := by decide +kernel
set_option maxRecDepth 20000 in
theorem ggX0_together_X0_figureOf : GoodIn wsX0_together wsX0_figureOf := goodIn_r _ [5, 6, 7, 8, 9, 4, 10, 11, 12, 13, 14, 15, 16, 17, 28, 29, 30, 31, 32, 33, 34] (by decide +kernel) (by decide +kernel)
set_option maxRecDepth 20000 in
theorem gX0_together_X0_figureOf : GoodIn wsX0_together (wsV RX0 52 RX0 yX0_figureOf wsX0_figureOf) := goodIn_app (goodIn_of _ (by decide +kernel)) ggX0_together_X0_figureOf
set_option maxRecDepth 20000 in
theorem ggX0_together_X0_joined : GoodIn wsX0_together wsX0_joined := goodIn_r _ [20, 21, 22, 23, 24, 25, 26, 27] (by decide +kernel) (by decide +kernel)
set_option maxRecDepth 20000 in
theorem gX0_together_X0_joined : GoodIn wsX0_together (va_wsS RX0 48 yX0_joined wsX0_joined) := goodIn_app (goodIn_of _ (by decide +kernel)) ggX0_together_X0_joined
theorem dX0_together_0 : decode cX0_together 0 = .ok (.iload_n 1, 1) := by decide +kernel
theorem dX0_together_1 : decode cX0_together 1 = .ok (.iload_n 2, 1) := by decide +kernel
theorem dX0_together_2 : decode cX0_together 2 = .ok (.if_icmp .ge 12, 3) := by decide +kernel
theorem dX0_together_5 : decode cX0_together 5 = .ok (.aload_n 0, 1) := by decide +kernel
theorem dX0_together_6 : decode cX0_together 6 = .ok (.iload_n 1, 1) := by decide +kernel
theorem dX0_together_7 : decode cX0_together 7 = .ok (.iload_n 3, 1) := by decide +kernel
theorem dX0_together_8 : decode cX0_together 8 = .ok (.invokevirtual 52, 3) := by decide +kernel
theorem dX0_together_11 : decode cX0_together 11 = .ok (.goto 4, 3) := by decide +kernel
theorem dX0_together_14 : decode cX0_together 14 = .ok (.iconst 0, 1) := by decide +kernel
theorem dX0_together_15 : decode cX0_together 15 = .ok (.istore 4, 2) := by decide +kernel
theorem dX0_together_17 : decode cX0_together 17 = .ok (.iload_n 1, 1) := by decide +kernel
theorem dX0_together_18 : decode cX0_together 18 = .ok (.iconst 1, 1) := by decide +kernel
theorem dX0_together_19 : decode cX0_together 19 = .ok (.iadd, 1) := by decide +kernel
theorem dX0_together_20 : decode cX0_together 20 = .ok (.istore 5, 2) := by decide +kernel
theorem dX0_together_22 : decode cX0_together 22 = .ok (.iload 5, 2) := by decide +kernel
theorem dX0_together_24 : decode cX0_together 24 = .ok (.iload_n 2, 1) := by decide +kernel
theorem dX0_together_25 : decode cX0_together 25 = .ok (.if_icmp .ge 24, 3) := by decide +kernel
theorem dX0_together_28 : decode cX0_together 28 = .ok (.iload 4, 2) := by decide +kernel
theorem dX0_together_30 : decode cX0_together 30 = .ok (.aload_n 0, 1) := by decide +kernel
theorem dX0_together_31 : decode cX0_together 31 = .ok (.iload 5, 2) := by decide +kernel
theorem dX0_together_33 : decode cX0_together 33 = .ok (.iload_n 3, 1) := by decide +kernel
theorem dX0_together_34 : decode cX0_together 34 = .ok (.invokevirtual 52, 3) := by decide +kernel
theorem dX0_together_37 : decode cX0_together 37 = .ok (.iload_n 3, 1) := by decide +kernel
theorem dX0_together_38 : decode cX0_together 38 = .ok (.invokestatic 48, 3) := by decide +kernel
theorem dX0_together_41 : decode cX0_together 41 = .ok (.istore 4, 2) := by decide +kernel
theorem dX0_together_43 : decode cX0_together 43 = .ok (.iinc 5 1, 3) := by decide +kernel
theorem dX0_together_46 : decode cX0_together 46 = .ok (.goto (-24), 3) := by decide +kernel
theorem dX0_together_49 : decode cX0_together 49 = .ok (.iload 4, 2) := by decide +kernel
theorem dX0_together_51 : decode cX0_together 51 = .ok (.ireturn, 1) := by decide +kernel
set_option maxRecDepth 20000 in
theorem ggX0_manyWhollyIn_X0_startOf : GoodIn wsX0_manyWhollyIn wsX0_startOf := goodIn_r _ [6, 7, 8, 9, 10, 5, 11, 1, 12, 13, 14, 15, 16, 17, 28, 29, 30, 31, 32, 33, 34] (by decide +kernel) (by decide +kernel)
set_option maxRecDepth 20000 in
theorem gX0_manyWhollyIn_X0_startOf : GoodIn wsX0_manyWhollyIn (wsV RX0 41 RX0 yX0_startOf wsX0_startOf) := goodIn_app (goodIn_of _ (by decide +kernel)) ggX0_manyWhollyIn_X0_startOf
set_option maxRecDepth 20000 in
theorem ggX0_manyWhollyIn_X0_endOfEntry : GoodIn wsX0_manyWhollyIn wsX0_endOfEntry := goodIn_r _ [21, 22, 2, 3, 4, 5, 6, 7, 8, 9, 10, 11, 1, 12, 13, 14, 15, 16, 17, 28, 29, 30, 31, 32, 33, 34] (by decide +kernel) (by decide +kernel)
set_option maxRecDepth 20000 in
theorem gX0_manyWhollyIn_X0_endOfEntry : GoodIn wsX0_manyWhollyIn (wsV RX0 56 RX0 yX0_endOfEntry wsX0_endOfEntry) := goodIn_app (goodIn_of _ (by decide +kernel)) ggX0_manyWhollyIn_X0_endOfEntry
set_option maxRecDepth 20000 in
theorem ggX0_manyWhollyIn_X0_figureOf : GoodIn wsX0_manyWhollyIn wsX0_figureOf := goodIn_r _ [26, 27, 8, 9, 10, 5, 11, 1, 12, 13, 14, 15, 16, 17, 28, 29, 30, 31, 32, 33, 34] (by decide +kernel) (by decide +kernel)
set_option maxRecDepth 20000 in
theorem gX0_manyWhollyIn_X0_figureOf : GoodIn wsX0_manyWhollyIn (wsV RX0 52 RX0 yX0_figureOf wsX0_figureOf) := goodIn_app (goodIn_of _ (by decide +kernel)) ggX0_manyWhollyIn_X0_figureOf
theorem dX0_manyWhollyIn_0 : decode cX0_manyWhollyIn 0 = .ok (.lconst 0, 1) := by decide +kernel
theorem dX0_manyWhollyIn_1 : decode cX0_manyWhollyIn 1 = .ok (.lstore 5, 2) := by decide +kernel
theorem dX0_manyWhollyIn_3 : decode cX0_manyWhollyIn 3 = .ok (.iconst 0, 1) := by decide +kernel
theorem dX0_manyWhollyIn_4 : decode cX0_manyWhollyIn 4 = .ok (.istore 7, 2) := by decide +kernel
theorem dX0_manyWhollyIn_6 : decode cX0_manyWhollyIn 6 = .ok (.iload 7, 2) := by decide +kernel
theorem dX0_manyWhollyIn_8 : decode cX0_manyWhollyIn 8 = .ok (.aload_n 0, 1) := by decide +kernel
theorem dX0_manyWhollyIn_9 : decode cX0_manyWhollyIn 9 = .ok (.getfield 30, 3) := by decide +kernel
theorem dX0_manyWhollyIn_12 : decode cX0_manyWhollyIn 12 = .ok (.if_icmp .ge 47, 3) := by decide +kernel
theorem dX0_manyWhollyIn_15 : decode cX0_manyWhollyIn 15 = .ok (.aload_n 0, 1) := by decide +kernel
theorem dX0_manyWhollyIn_16 : decode cX0_manyWhollyIn 16 = .ok (.iload 7, 2) := by decide +kernel
theorem dX0_manyWhollyIn_18 : decode cX0_manyWhollyIn 18 = .ok (.invokevirtual 41, 3) := by decide +kernel
theorem dX0_manyWhollyIn_21 : decode cX0_manyWhollyIn 21 = .ok (.i2l, 1) := by decide +kernel
theorem dX0_manyWhollyIn_22 : decode cX0_manyWhollyIn 22 = .ok (.lload_n 1, 1) := by decide +kernel
theorem dX0_manyWhollyIn_23 : decode cX0_manyWhollyIn 23 = .ok (.lcmp, 1) := by decide +kernel
theorem dX0_manyWhollyIn_24 : decode cX0_manyWhollyIn 24 = .ok (.ifCond .lt 29, 3) := by decide +kernel
theorem dX0_manyWhollyIn_27 : decode cX0_manyWhollyIn 27 = .ok (.aload_n 0, 1) := by decide +kernel
theorem dX0_manyWhollyIn_28 : decode cX0_manyWhollyIn 28 = .ok (.iload 7, 2) := by decide +kernel
theorem dX0_manyWhollyIn_30 : decode cX0_manyWhollyIn 30 = .ok (.invokevirtual 56, 3) := by decide +kernel
theorem dX0_manyWhollyIn_33 : decode cX0_manyWhollyIn 33 = .ok (.lload_n 3, 1) := by decide +kernel
theorem dX0_manyWhollyIn_34 : decode cX0_manyWhollyIn 34 = .ok (.lconst 1, 1) := by decide +kernel
theorem dX0_manyWhollyIn_35 : decode cX0_manyWhollyIn 35 = .ok (.ladd, 1) := by decide +kernel
theorem dX0_manyWhollyIn_36 : decode cX0_manyWhollyIn 36 = .ok (.lcmp, 1) := by decide +kernel
theorem dX0_manyWhollyIn_37 : decode cX0_manyWhollyIn 37 = .ok (.ifCond .gt 16, 3) := by decide +kernel
theorem dX0_manyWhollyIn_40 : decode cX0_manyWhollyIn 40 = .ok (.lload 5, 2) := by decide +kernel
theorem dX0_manyWhollyIn_42 : decode cX0_manyWhollyIn 42 = .ok (.aload_n 0, 1) := by decide +kernel
theorem dX0_manyWhollyIn_43 : decode cX0_manyWhollyIn 43 = .ok (.iload 7, 2) := by decide +kernel
theorem dX0_manyWhollyIn_45 : decode cX0_manyWhollyIn 45 = .ok (.iconst 3, 1) := by decide +kernel
theorem dX0_manyWhollyIn_46 : decode cX0_manyWhollyIn 46 = .ok (.invokevirtual 52, 3) := by decide +kernel
theorem dX0_manyWhollyIn_49 : decode cX0_manyWhollyIn 49 = .ok (.i2l, 1) := by decide +kernel
theorem dX0_manyWhollyIn_50 : decode cX0_manyWhollyIn 50 = .ok (.ladd, 1) := by decide +kernel
theorem dX0_manyWhollyIn_51 : decode cX0_manyWhollyIn 51 = .ok (.lstore 5, 2) := by decide +kernel
theorem dX0_manyWhollyIn_53 : decode cX0_manyWhollyIn 53 = .ok (.iinc 7 1, 3) := by decide +kernel
theorem dX0_manyWhollyIn_56 : decode cX0_manyWhollyIn 56 = .ok (.goto (-50), 3) := by decide +kernel
theorem dX0_manyWhollyIn_59 : decode cX0_manyWhollyIn 59 = .ok (.lload 5, 2) := by decide +kernel
theorem dX0_manyWhollyIn_61 : decode cX0_manyWhollyIn 61 = .ok (.lreturn, 1) := by decide +kernel
set_option maxRecDepth 20000 in
theorem ggX0_agreesWith_X0_startOf : GoodIn wsX0_agreesWith wsX0_startOf := goodIn_r _ [7, 8, 9, 10, 11, 6, 12, 1, 13, 14, 15, 16, 17, 18, 51, 52, 53, 54, 55, 56, 57] (by decide +kernel) (by decide +kernel)
set_option maxRecDepth 20000 in
theorem gX0_agreesWith_X0_startOf : GoodIn wsX0_agreesWith (wsV RX0 41 RX0 yX0_startOf wsX0_startOf) := goodIn_app (goodIn_of _ (by decide +kernel)) ggX0_agreesWith_X0_startOf
set_option maxRecDepth 20000 in
theorem ggX0_agreesWith_X0_firstFrom : GoodIn wsX0_agreesWith wsX0_firstFrom := goodIn_r _ [22, 1, 3, 4, 5, 6, 7, 8, 9, 10, 11, 12, 13, 14, 15, 16, 17, 18, 51, 52, 53, 54, 55, 56, 57] (by decide +kernel) (by decide +kernel)
set_option maxRecDepth 20000 in
theorem gX0_agreesWith_X0_firstFrom : GoodIn wsX0_agreesWith (wsV RX0 60 RX0 yX0_firstFrom wsX0_firstFrom) := goodIn_app (goodIn_of _ (by decide +kernel)) ggX0_agreesWith_X0_firstFrom
set_option maxRecDepth 20000 in
theorem ggX0_agreesWith_X0_endOfEntry : GoodIn wsX0_agreesWith wsX0_endOfEntry := goodIn_r _ [26, 27, 3, 4, 5, 6, 7, 8, 9, 10, 11, 12, 1, 13, 14, 15, 16, 17, 18, 51, 52, 53, 54, 55, 56, 57] (by decide +kernel) (by decide +kernel)
set_option maxRecDepth 20000 in
theorem gX0_agreesWith_X0_endOfEntry : GoodIn wsX0_agreesWith (wsV RX0 56 RX0 yX0_endOfEntry wsX0_endOfEntry) := goodIn_app (goodIn_of _ (by decide +kernel)) ggX0_agreesWith_X0_endOfEntry
set_option maxRecDepth 20000 in
theorem ggX0_agreesWith_X0_hasFiguresOf : GoodIn wsX0_agreesWith wsX0_hasFiguresOf := goodIn_r _ [31, 32, 33, 34, 6, 35, 36, 9, 10, 11, 12, 1, 13, 14, 15, 16, 17, 18, 37, 38, 39, 40, 41, 42, 43, 44, 45, 46, 47, 48, 49, 50, 51, 52, 53, 54, 55, 56, 57] (by decide +kernel) (by decide +kernel)
set_option maxRecDepth 20000 in
theorem gX0_agreesWith_X0_hasFiguresOf : GoodIn wsX0_agreesWith (wsV RX0 64 RX0 yX0_hasFiguresOf wsX0_hasFiguresOf) := goodIn_app (goodIn_of _ (by decide +kernel)) ggX0_agreesWith_X0_hasFiguresOf
theorem dX0_agreesWith_0 : decode cX0_agreesWith 0 = .ok (.iconst 0, 1) := by decide +kernel
theorem dX0_agreesWith_1 : decode cX0_agreesWith 1 = .ok (.istore_n 2, 1) := by decide +kernel
theorem dX0_agreesWith_2 : decode cX0_agreesWith 2 = .ok (.iconst 0, 1) := by decide +kernel
theorem dX0_agreesWith_3 : decode cX0_agreesWith 3 = .ok (.istore_n 3, 1) := by decide +kernel
theorem dX0_agreesWith_4 : decode cX0_agreesWith 4 = .ok (.iload_n 3, 1) := by decide +kernel
theorem dX0_agreesWith_5 : decode cX0_agreesWith 5 = .ok (.aload_n 0, 1) := by decide +kernel
theorem dX0_agreesWith_6 : decode cX0_agreesWith 6 = .ok (.getfield 30, 3) := by decide +kernel
theorem dX0_agreesWith_9 : decode cX0_agreesWith 9 = .ok (.if_icmp .ge 74, 3) := by decide +kernel
theorem dX0_agreesWith_12 : decode cX0_agreesWith 12 = .ok (.aload_n 1, 1) := by decide +kernel
theorem dX0_agreesWith_13 : decode cX0_agreesWith 13 = .ok (.iload_n 2, 1) := by decide +kernel
theorem dX0_agreesWith_14 : decode cX0_agreesWith 14 = .ok (.aload_n 0, 1) := by decide +kernel
theorem dX0_agreesWith_15 : decode cX0_agreesWith 15 = .ok (.iload_n 3, 1) := by decide +kernel
theorem dX0_agreesWith_16 : decode cX0_agreesWith 16 = .ok (.invokevirtual 41, 3) := by decide +kernel
theorem dX0_agreesWith_19 : decode cX0_agreesWith 19 = .ok (.i2l, 1) := by decide +kernel
theorem dX0_agreesWith_20 : decode cX0_agreesWith 20 = .ok (.invokevirtual 60, 3) := by decide +kernel
theorem dX0_agreesWith_23 : decode cX0_agreesWith 23 = .ok (.istore_n 2, 1) := by decide +kernel
theorem dX0_agreesWith_24 : decode cX0_agreesWith 24 = .ok (.aload_n 1, 1) := by decide +kernel
theorem dX0_agreesWith_25 : decode cX0_agreesWith 25 = .ok (.iload_n 2, 1) := by decide +kernel
theorem dX0_agreesWith_26 : decode cX0_agreesWith 26 = .ok (.aload_n 0, 1) := by decide +kernel
theorem dX0_agreesWith_27 : decode cX0_agreesWith 27 = .ok (.iload_n 3, 1) := by decide +kernel
theorem dX0_agreesWith_28 : decode cX0_agreesWith 28 = .ok (.invokevirtual 56, 3) := by decide +kernel
theorem dX0_agreesWith_31 : decode cX0_agreesWith 31 = .ok (.invokevirtual 60, 3) := by decide +kernel
theorem dX0_agreesWith_34 : decode cX0_agreesWith 34 = .ok (.istore 4, 2) := by decide +kernel
theorem dX0_agreesWith_36 : decode cX0_agreesWith 36 = .ok (.aload_n 1, 1) := by decide +kernel
theorem dX0_agreesWith_37 : decode cX0_agreesWith 37 = .ok (.getfield 9, 3) := by decide +kernel
theorem dX0_agreesWith_40 : decode cX0_agreesWith 40 = .ok (.aload_n 0, 1) := by decide +kernel
theorem dX0_agreesWith_41 : decode cX0_agreesWith 41 = .ok (.iload_n 3, 1) := by decide +kernel
theorem dX0_agreesWith_42 : decode cX0_agreesWith 42 = .ok (.invokevirtual 41, 3) := by decide +kernel
theorem dX0_agreesWith_45 : decode cX0_agreesWith 45 = .ok (.if_icmp .ge 7, 3) := by decide +kernel
theorem dX0_agreesWith_48 : decode cX0_agreesWith 48 = .ok (.iconst 1, 1) := by decide +kernel
theorem dX0_agreesWith_49 : decode cX0_agreesWith 49 = .ok (.goto 4, 3) := by decide +kernel
theorem dX0_agreesWith_52 : decode cX0_agreesWith 52 = .ok (.iconst 0, 1) := by decide +kernel
theorem dX0_agreesWith_53 : decode cX0_agreesWith 53 = .ok (.istore 5, 2) := by decide +kernel
theorem dX0_agreesWith_55 : decode cX0_agreesWith 55 = .ok (.iload 5, 2) := by decide +kernel
theorem dX0_agreesWith_57 : decode cX0_agreesWith 57 = .ok (.ifCond .eq 17, 3) := by decide +kernel
theorem dX0_agreesWith_60 : decode cX0_agreesWith 60 = .ok (.aload_n 0, 1) := by decide +kernel
theorem dX0_agreesWith_61 : decode cX0_agreesWith 61 = .ok (.aload_n 1, 1) := by decide +kernel
theorem dX0_agreesWith_62 : decode cX0_agreesWith 62 = .ok (.iload_n 2, 1) := by decide +kernel
theorem dX0_agreesWith_63 : decode cX0_agreesWith 63 = .ok (.iload 4, 2) := by decide +kernel
theorem dX0_agreesWith_65 : decode cX0_agreesWith 65 = .ok (.iload_n 3, 1) := by decide +kernel
theorem dX0_agreesWith_66 : decode cX0_agreesWith 66 = .ok (.invokevirtual 64, 3) := by decide +kernel
theorem dX0_agreesWith_69 : decode cX0_agreesWith 69 = .ok (.ifCond .ne 5, 3) := by decide +kernel
theorem dX0_agreesWith_72 : decode cX0_agreesWith 72 = .ok (.iconst 0, 1) := by decide +kernel
theorem dX0_agreesWith_73 : decode cX0_agreesWith 73 = .ok (.ireturn, 1) := by decide +kernel
theorem dX0_agreesWith_74 : decode cX0_agreesWith 74 = .ok (.iload 4, 2) := by decide +kernel
theorem dX0_agreesWith_76 : decode cX0_agreesWith 76 = .ok (.istore_n 2, 1) := by decide +kernel
theorem dX0_agreesWith_77 : decode cX0_agreesWith 77 = .ok (.iinc 3 1, 3) := by decide +kernel
theorem dX0_agreesWith_80 : decode cX0_agreesWith 80 = .ok (.goto (-76), 3) := by decide +kernel
theorem dX0_agreesWith_83 : decode cX0_agreesWith 83 = .ok (.iconst 1, 1) := by decide +kernel
theorem dX0_agreesWith_84 : decode cX0_agreesWith 84 = .ok (.ireturn, 1) := by decide +kernel
set_option maxRecDepth 20000 in
theorem ggX0_hasFiguresOf_X0_figureOf : GoodIn wsX0_hasFiguresOf wsX0_figureOf := goodIn_r _ [5, 6, 7, 8, 9, 4, 10, 11, 12, 13, 14, 15, 16, 17, 32, 33, 34, 35, 36, 37, 38] (by decide +kernel) (by decide +kernel)
set_option maxRecDepth 20000 in
theorem gX0_hasFiguresOf_X0_figureOf : GoodIn wsX0_hasFiguresOf (wsV RX0 52 RX0 yX0_figureOf wsX0_figureOf) := goodIn_app (goodIn_of _ (by decide +kernel)) ggX0_hasFiguresOf_X0_figureOf
set_option maxRecDepth 20000 in
theorem ggX0_hasFiguresOf_X0_together : GoodIn wsX0_hasFiguresOf wsX0_together := goodIn_r _ [21, 1, 2, 3, 4, 5, 6, 7, 8, 9, 10, 11, 12, 13, 14, 15, 16, 17, 22, 23, 24, 25, 26, 27, 28, 29, 30, 31, 32, 33, 34, 35, 36, 37, 38] (by decide +kernel) (by decide +kernel)
set_option maxRecDepth 20000 in
theorem gX0_hasFiguresOf_X0_together : GoodIn wsX0_hasFiguresOf (wsV RX0 68 RX0 yX0_together wsX0_together) := goodIn_app (goodIn_of _ (by decide +kernel)) ggX0_hasFiguresOf_X0_together
theorem dX0_hasFiguresOf_0 : decode cX0_hasFiguresOf 0 = .ok (.iconst 0, 1) := by decide +kernel
theorem dX0_hasFiguresOf_1 : decode cX0_hasFiguresOf 1 = .ok (.istore 5, 2) := by decide +kernel
theorem dX0_hasFiguresOf_3 : decode cX0_hasFiguresOf 3 = .ok (.iload 5, 2) := by decide +kernel
theorem dX0_hasFiguresOf_5 : decode cX0_hasFiguresOf 5 = .ok (.iconst 4, 1) := by decide +kernel
theorem dX0_hasFiguresOf_6 : decode cX0_hasFiguresOf 6 = .ok (.if_icmp .ge 30, 3) := by decide +kernel
theorem dX0_hasFiguresOf_9 : decode cX0_hasFiguresOf 9 = .ok (.aload_n 0, 1) := by decide +kernel
theorem dX0_hasFiguresOf_10 : decode cX0_hasFiguresOf 10 = .ok (.iload 4, 2) := by decide +kernel
theorem dX0_hasFiguresOf_12 : decode cX0_hasFiguresOf 12 = .ok (.iload 5, 2) := by decide +kernel
theorem dX0_hasFiguresOf_14 : decode cX0_hasFiguresOf 14 = .ok (.invokevirtual 52, 3) := by decide +kernel
theorem dX0_hasFiguresOf_17 : decode cX0_hasFiguresOf 17 = .ok (.aload_n 1, 1) := by decide +kernel
theorem dX0_hasFiguresOf_18 : decode cX0_hasFiguresOf 18 = .ok (.iload_n 2, 1) := by decide +kernel
theorem dX0_hasFiguresOf_19 : decode cX0_hasFiguresOf 19 = .ok (.iload_n 3, 1) := by decide +kernel
theorem dX0_hasFiguresOf_20 : decode cX0_hasFiguresOf 20 = .ok (.iload 5, 2) := by decide +kernel
theorem dX0_hasFiguresOf_22 : decode cX0_hasFiguresOf 22 = .ok (.invokevirtual 68, 3) := by decide +kernel
theorem dX0_hasFiguresOf_25 : decode cX0_hasFiguresOf 25 = .ok (.if_icmp .eq 5, 3) := by decide +kernel
theorem dX0_hasFiguresOf_28 : decode cX0_hasFiguresOf 28 = .ok (.iconst 0, 1) := by decide +kernel
theorem dX0_hasFiguresOf_29 : decode cX0_hasFiguresOf 29 = .ok (.ireturn, 1) := by decide +kernel
theorem dX0_hasFiguresOf_30 : decode cX0_hasFiguresOf 30 = .ok (.iinc 5 1, 3) := by decide +kernel
theorem dX0_hasFiguresOf_33 : decode cX0_hasFiguresOf 33 = .ok (.goto (-30), 3) := by decide +kernel
theorem dX0_hasFiguresOf_36 : decode cX0_hasFiguresOf 36 = .ok (.iconst 1, 1) := by decide +kernel
theorem dX0_hasFiguresOf_37 : decode cX0_hasFiguresOf 37 = .ok (.ireturn, 1) := by decide +kernel
theorem dX0_joined_0 : decode cX0_joined 0 = .ok (.iload_n 2, 1) := by decide +kernel
theorem dX0_joined_1 : decode cX0_joined 1 = .ok (.lookupswitch 39 #[(0, 27), (1, 33)], 27) := by decide +kernel
theorem dX0_joined_28 : decode cX0_joined 28 = .ok (.iload_n 0, 1) := by decide +kernel
theorem dX0_joined_29 : decode cX0_joined 29 = .ok (.iload_n 1, 1) := by decide +kernel
theorem dX0_joined_30 : decode cX0_joined 30 = .ok (.invokestatic 71, 3) := by decide +kernel
theorem dX0_joined_33 : decode cX0_joined 33 = .ok (.ireturn, 1) := by decide +kernel
theorem dX0_joined_34 : decode cX0_joined 34 = .ok (.iload_n 0, 1) := by decide +kernel
theorem dX0_joined_35 : decode cX0_joined 35 = .ok (.iload_n 1, 1) := by decide +kernel
theorem dX0_joined_36 : decode cX0_joined 36 = .ok (.invokestatic 76, 3) := by decide +kernel
theorem dX0_joined_39 : decode cX0_joined 39 = .ok (.ireturn, 1) := by decide +kernel
theorem dX0_joined_40 : decode cX0_joined 40 = .ok (.iload_n 0, 1) := by decide +kernel
theorem dX0_joined_41 : decode cX0_joined 41 = .ok (.iload_n 1, 1) := by decide +kernel
theorem dX0_joined_42 : decode cX0_joined 42 = .ok (.iadd, 1) := by decide +kernel
theorem dX0_joined_43 : decode cX0_joined 43 = .ok (.ireturn, 1) := by decide +kernel
set_option maxRecDepth 20000 in
theorem ggX0_open_X0_slot : GoodIn wsX0_open wsX0_slot := goodIn_r _ [10, 4, 2, 11, 12, 13, 14, 15, 16, 17] (by decide +kernel) (by decide +kernel)
set_option maxRecDepth 20000 in
theorem gX0_open_X0_slot : GoodIn wsX0_open (wsV RX0 37 RX0 yX0_slot wsX0_slot) := goodIn_app (goodIn_of _ (by decide +kernel)) ggX0_open_X0_slot
theorem dX0_open_0 : decode cX0_open 0 = .ok (.aload_n 0, 1) := by decide +kernel
theorem dX0_open_1 : decode cX0_open 1 = .ok (.getfield 30, 3) := by decide +kernel
theorem dX0_open_4 : decode cX0_open 4 = .ok (.aload_n 0, 1) := by decide +kernel
theorem dX0_open_5 : decode cX0_open 5 = .ok (.getfield 15, 3) := by decide +kernel
theorem dX0_open_8 : decode cX0_open 8 = .ok (.if_icmp .ge 16, 3) := by decide +kernel
theorem dX0_open_11 : decode cX0_open 11 = .ok (.aload_n 0, 1) := by decide +kernel
theorem dX0_open_12 : decode cX0_open 12 = .ok (.dup, 1) := by decide +kernel
theorem dX0_open_13 : decode cX0_open 13 = .ok (.getfield 30, 3) := by decide +kernel
theorem dX0_open_16 : decode cX0_open 16 = .ok (.iconst 1, 1) := by decide +kernel
theorem dX0_open_17 : decode cX0_open 17 = .ok (.iadd, 1) := by decide +kernel
theorem dX0_open_18 : decode cX0_open 18 = .ok (.putfield 30, 3) := by decide +kernel
theorem dX0_open_21 : decode cX0_open 21 = .ok (.goto 43, 3) := by decide +kernel
theorem dX0_open_24 : decode cX0_open 24 = .ok (.aload_n 0, 1) := by decide +kernel
theorem dX0_open_25 : decode cX0_open 25 = .ok (.aload_n 0, 1) := by decide +kernel
theorem dX0_open_26 : decode cX0_open 26 = .ok (.getfield 21, 3) := by decide +kernel
theorem dX0_open_29 : decode cX0_open 29 = .ok (.aload_n 0, 1) := by decide +kernel
theorem dX0_open_30 : decode cX0_open 30 = .ok (.getfield 79, 3) := by decide +kernel
theorem dX0_open_33 : decode cX0_open 33 = .ok (.iaload, 1) := by decide +kernel
theorem dX0_open_34 : decode cX0_open 34 = .ok (.putfield 9, 3) := by decide +kernel
theorem dX0_open_37 : decode cX0_open 37 = .ok (.aload_n 0, 1) := by decide +kernel
theorem dX0_open_38 : decode cX0_open 38 = .ok (.aload_n 0, 1) := by decide +kernel
theorem dX0_open_39 : decode cX0_open 39 = .ok (.getfield 79, 3) := by decide +kernel
theorem dX0_open_42 : decode cX0_open 42 = .ok (.iconst 1, 1) := by decide +kernel
theorem dX0_open_43 : decode cX0_open 43 = .ok (.iadd, 1) := by decide +kernel
theorem dX0_open_44 : decode cX0_open 44 = .ok (.aload_n 0, 1) := by decide +kernel
theorem dX0_open_45 : decode cX0_open 45 = .ok (.getfield 15, 3) := by decide +kernel
theorem dX0_open_48 : decode cX0_open 48 = .ok (.if_icmp .ge 12, 3) := by decide +kernel
theorem dX0_open_51 : decode cX0_open 51 = .ok (.aload_n 0, 1) := by decide +kernel
theorem dX0_open_52 : decode cX0_open 52 = .ok (.getfield 79, 3) := by decide +kernel
theorem dX0_open_55 : decode cX0_open 55 = .ok (.iconst 1, 1) := by decide +kernel
theorem dX0_open_56 : decode cX0_open 56 = .ok (.iadd, 1) := by decide +kernel
theorem dX0_open_57 : decode cX0_open 57 = .ok (.goto 4, 3) := by decide +kernel
theorem dX0_open_60 : decode cX0_open 60 = .ok (.iconst 0, 1) := by decide +kernel
theorem dX0_open_61 : decode cX0_open 61 = .ok (.putfield 79, 3) := by decide +kernel
theorem dX0_open_64 : decode cX0_open 64 = .ok (.aload_n 0, 1) := by decide +kernel
theorem dX0_open_65 : decode cX0_open 65 = .ok (.getfield 21, 3) := by decide +kernel
theorem dX0_open_68 : decode cX0_open 68 = .ok (.aload_n 0, 1) := by decide +kernel
theorem dX0_open_69 : decode cX0_open 69 = .ok (.aload_n 0, 1) := by decide +kernel
theorem dX0_open_70 : decode cX0_open 70 = .ok (.getfield 30, 3) := by decide +kernel
theorem dX0_open_73 : decode cX0_open 73 = .ok (.iconst 1, 1) := by decide +kernel
theorem dX0_open_74 : decode cX0_open 74 = .ok (.isub, 1) := by decide +kernel
theorem dX0_open_75 : decode cX0_open 75 = .ok (.invokevirtual 37, 3) := by decide +kernel
theorem dX0_open_78 : decode cX0_open 78 = .ok (.iload_n 1, 1) := by decide +kernel
theorem dX0_open_79 : decode cX0_open 79 = .ok (.iastore, 1) := by decide +kernel
theorem dX0_open_80 : decode cX0_open 80 = .ok (.return_, 1) := by decide +kernel
theorem dX0_has_0 : decode cX0_has 0 = .ok (.iload_n 1, 1) := by decide +kernel
theorem dX0_has_1 : decode cX0_has 1 = .ok (.ifCond .lt 15, 3) := by decide +kernel
theorem dX0_has_4 : decode cX0_has 4 = .ok (.iload_n 1, 1) := by decide +kernel
theorem dX0_has_5 : decode cX0_has 5 = .ok (.aload_n 0, 1) := by decide +kernel
theorem dX0_has_6 : decode cX0_has 6 = .ok (.getfield 30, 3) := by decide +kernel
theorem dX0_has_9 : decode cX0_has 9 = .ok (.if_icmp .ge 7, 3) := by decide +kernel
theorem dX0_has_12 : decode cX0_has 12 = .ok (.iconst 1, 1) := by decide +kernel
theorem dX0_has_13 : decode cX0_has 13 = .ok (.goto 4, 3) := by decide +kernel
theorem dX0_has_16 : decode cX0_has 16 = .ok (.iconst 0, 1) := by decide +kernel
theorem dX0_has_17 : decode cX0_has 17 = .ok (.ireturn, 1) := by decide +kernel
theorem dX0_slot_0 : decode cX0_slot 0 = .ok (.aload_n 0, 1) := by decide +kernel
theorem dX0_slot_1 : decode cX0_slot 1 = .ok (.getfield 79, 3) := by decide +kernel
theorem dX0_slot_4 : decode cX0_slot 4 = .ok (.iload_n 1, 1) := by decide +kernel
theorem dX0_slot_5 : decode cX0_slot 5 = .ok (.iadd, 1) := by decide +kernel
theorem dX0_slot_6 : decode cX0_slot 6 = .ok (.istore_n 2, 1) := by decide +kernel
theorem dX0_slot_7 : decode cX0_slot 7 = .ok (.iload_n 2, 1) := by decide +kernel
theorem dX0_slot_8 : decode cX0_slot 8 = .ok (.aload_n 0, 1) := by decide +kernel
theorem dX0_slot_9 : decode cX0_slot 9 = .ok (.getfield 15, 3) := by decide +kernel
theorem dX0_slot_12 : decode cX0_slot 12 = .ok (.if_icmp .ge 7, 3) := by decide +kernel
theorem dX0_slot_15 : decode cX0_slot 15 = .ok (.iload_n 2, 1) := by decide +kernel
theorem dX0_slot_16 : decode cX0_slot 16 = .ok (.goto 9, 3) := by decide +kernel
theorem dX0_slot_19 : decode cX0_slot 19 = .ok (.iload_n 2, 1) := by decide +kernel
theorem dX0_slot_20 : decode cX0_slot 20 = .ok (.aload_n 0, 1) := by decide +kernel
theorem dX0_slot_21 : decode cX0_slot 21 = .ok (.getfield 15, 3) := by decide +kernel
theorem dX0_slot_24 : decode cX0_slot 24 = .ok (.isub, 1) := by decide +kernel
theorem dX0_slot_25 : decode cX0_slot 25 = .ok (.ireturn, 1) := by decide +kernel
set_option maxRecDepth 20000 in
theorem ggX0_endOfEntry_X0_startOf : GoodIn wsX0_endOfEntry wsX0_startOf := goodIn_r _ [6, 7, 8, 9, 10, 5, 11, 12, 13, 14, 15, 16, 17, 18, 19, 20, 21, 22, 23, 24, 25] (by decide +kernel) (by decide +kernel)
set_option maxRecDepth 20000 in
theorem gX0_endOfEntry_X0_startOf : GoodIn wsX0_endOfEntry (wsV RX0 41 RX0 yX0_startOf wsX0_startOf) := goodIn_app (goodIn_of _ (by decide +kernel)) ggX0_endOfEntry_X0_startOf
theorem dX0_endOfEntry_0 : decode cX0_endOfEntry 0 = .ok (.aload_n 0, 1) := by decide +kernel
theorem dX0_endOfEntry_1 : decode cX0_endOfEntry 1 = .ok (.iload_n 1, 1) := by decide +kernel
theorem dX0_endOfEntry_2 : decode cX0_endOfEntry 2 = .ok (.invokevirtual 41, 3) := by decide +kernel
theorem dX0_endOfEntry_5 : decode cX0_endOfEntry 5 = .ok (.i2l, 1) := by decide +kernel
theorem dX0_endOfEntry_6 : decode cX0_endOfEntry 6 = .ok (.aload_n 0, 1) := by decide +kernel
theorem dX0_endOfEntry_7 : decode cX0_endOfEntry 7 = .ok (.getfield 18, 3) := by decide +kernel
theorem dX0_endOfEntry_10 : decode cX0_endOfEntry 10 = .ok (.i2l, 1) := by decide +kernel
theorem dX0_endOfEntry_11 : decode cX0_endOfEntry 11 = .ok (.ladd, 1) := by decide +kernel
theorem dX0_endOfEntry_12 : decode cX0_endOfEntry 12 = .ok (.lreturn, 1) := by decide +kernel
set_option maxRecDepth 20000 in
theorem ggX1_init_X1_within : GoodIn wsX1_init wsX1_within := goodIn_r _ [17, 18, 19, 20, 21, 22, 23, 24] (by decide +kernel) (by decide +kernel)
set_option maxRecDepth 20000 in
theorem gX1_init_X1_within : GoodIn wsX1_init (va_wsS RX1 14 yX1_within wsX1_within) := goodIn_app (goodIn_of _ (by decide +kernel)) ggX1_init_X1_within
set_option maxRecDepth 20000 in
theorem ggX1_init_X0_init : GoodIn wsX1_init wsX0_init := goodIn_r _ [27, 28, 2, 3, 29, 30, 31, 12, 32, 33, 34, 40, 41, 42, 43, 44, 45, 46] (by decide +kernel) (by decide +kernel)
set_option maxRecDepth 20000 in
theorem gX1_init_X0_init : GoodIn wsX1_init (wsX0_init) := ggX1_init_X0_init
theorem dX1_init_0 : decode cX1_init 0 = .ok (.aload_n 0, 1) := by decide +kernel
theorem dX1_init_1 : decode cX1_init 1 = .ok (.invokespecial 1, 3) := by decide +kernel
theorem dX1_init_4 : decode cX1_init 4 = .ok (.aload_n 0, 1) := by decide +kernel
theorem dX1_init_5 : decode cX1_init 5 = .ok (.iconst (-1), 1) := by decide +kernel
theorem dX1_init_6 : decode cX1_init 6 = .ok (.putfield 7, 3) := by decide +kernel
theorem dX1_init_9 : decode cX1_init 9 = .ok (.iload 4, 2) := by decide +kernel
theorem dX1_init_11 : decode cX1_init 11 = .ok (.iconst 1, 1) := by decide +kernel
theorem dX1_init_12 : decode cX1_init 12 = .ok (.ldc 13, 2) := by decide +kernel
theorem dX1_init_14 : decode cX1_init 14 = .ok (.invokestatic 14, 3) := by decide +kernel
theorem dX1_init_17 : decode cX1_init 17 = .ok (.istore 6, 2) := by decide +kernel
theorem dX1_init_19 : decode cX1_init 19 = .ok (.iload 6, 2) := by decide +kernel
theorem dX1_init_21 : decode cX1_init 21 = .ok (.iload 5, 2) := by decide +kernel
theorem dX1_init_23 : decode cX1_init 23 = .ok (.iconst 2, 1) := by decide +kernel
theorem dX1_init_24 : decode cX1_init 24 = .ok (.sipush 1000, 3) := by decide +kernel
theorem dX1_init_27 : decode cX1_init 27 = .ok (.invokestatic 14, 3) := by decide +kernel
theorem dX1_init_30 : decode cX1_init 30 = .ok (.imul, 1) := by decide +kernel
theorem dX1_init_31 : decode cX1_init 31 = .ok (.istore 7, 2) := by decide +kernel
theorem dX1_init_33 : decode cX1_init 33 = .ok (.iload_n 1, 1) := by decide +kernel
theorem dX1_init_34 : decode cX1_init 34 = .ok (.iconst 1, 1) := by decide +kernel
theorem dX1_init_35 : decode cX1_init 35 = .ok (.bipush 60, 2) := by decide +kernel
theorem dX1_init_37 : decode cX1_init 37 = .ok (.invokestatic 14, 3) := by decide +kernel
theorem dX1_init_40 : decode cX1_init 40 = .ok (.istore 8, 2) := by decide +kernel
theorem dX1_init_42 : decode cX1_init 42 = .ok (.aload_n 0, 1) := by decide +kernel
theorem dX1_init_43 : decode cX1_init 43 = .ok (.new 18, 3) := by decide +kernel
theorem dX1_init_46 : decode cX1_init 46 = .ok (.dup, 1) := by decide +kernel
theorem dX1_init_47 : decode cX1_init 47 = .ok (.iload 8, 2) := by decide +kernel
theorem dX1_init_49 : decode cX1_init 49 = .ok (.iconst 1, 1) := by decide +kernel
theorem dX1_init_50 : decode cX1_init 50 = .ok (.invokespecial 20, 3) := by decide +kernel
theorem dX1_init_53 : decode cX1_init 53 = .ok (.putfield 23, 3) := by decide +kernel
theorem dX1_init_56 : decode cX1_init 56 = .ok (.aload_n 0, 1) := by decide +kernel
theorem dX1_init_57 : decode cX1_init 57 = .ok (.new 18, 3) := by decide +kernel
theorem dX1_init_60 : decode cX1_init 60 = .ok (.dup, 1) := by decide +kernel
theorem dX1_init_61 : decode cX1_init 61 = .ok (.iload_n 2, 1) := by decide +kernel
theorem dX1_init_62 : decode cX1_init 62 = .ok (.iconst 1, 1) := by decide +kernel
theorem dX1_init_63 : decode cX1_init 63 = .ok (.bipush 60, 2) := by decide +kernel
theorem dX1_init_65 : decode cX1_init 65 = .ok (.invokestatic 14, 3) := by decide +kernel
theorem dX1_init_68 : decode cX1_init 68 = .ok (.iload 6, 2) := by decide +kernel
theorem dX1_init_70 : decode cX1_init 70 = .ok (.invokespecial 20, 3) := by decide +kernel
theorem dX1_init_73 : decode cX1_init 73 = .ok (.putfield 27, 3) := by decide +kernel
theorem dX1_init_76 : decode cX1_init 76 = .ok (.aload_n 0, 1) := by decide +kernel
theorem dX1_init_77 : decode cX1_init 77 = .ok (.new 18, 3) := by decide +kernel
theorem dX1_init_80 : decode cX1_init 80 = .ok (.dup, 1) := by decide +kernel
theorem dX1_init_81 : decode cX1_init 81 = .ok (.iload_n 3, 1) := by decide +kernel
theorem dX1_init_82 : decode cX1_init 82 = .ok (.iconst 1, 1) := by decide +kernel
theorem dX1_init_83 : decode cX1_init 83 = .ok (.bipush 60, 2) := by decide +kernel
theorem dX1_init_85 : decode cX1_init 85 = .ok (.invokestatic 14, 3) := by decide +kernel
theorem dX1_init_88 : decode cX1_init 88 = .ok (.iload 7, 2) := by decide +kernel
theorem dX1_init_90 : decode cX1_init 90 = .ok (.invokespecial 20, 3) := by decide +kernel
theorem dX1_init_93 : decode cX1_init 93 = .ok (.putfield 30, 3) := by decide +kernel
theorem dX1_init_96 : decode cX1_init 96 = .ok (.aload_n 0, 1) := by decide +kernel
theorem dX1_init_97 : decode cX1_init 97 = .ok (.iload 8, 2) := by decide +kernel
theorem dX1_init_99 : decode cX1_init 99 = .ok (.newarray .int, 2) := by decide +kernel
theorem dX1_init_101 : decode cX1_init 101 = .ok (.putfield 33, 3) := by decide +kernel
theorem dX1_init_104 : decode cX1_init 104 = .ok (.return_, 1) := by decide +kernel
set_option maxRecDepth 20000 in
theorem ggX1_append_X0_take : GoodIn wsX1_append wsX0_take := goodIn_r _ [9, 10, 11, 12, 13, 14, 15, 8, 16, 17, 18, 19, 20, 21, 22, 23, 24, 25, 26, 27, 28, 29, 30, 31, 32, 33, 34, 35, 36, 37, 38, 39, 40, 41, 42, 48, 49, 50, 51, 52, 53, 54] (by decide +kernel) (by decide +kernel)
set_option maxRecDepth 20000 in
theorem gX1_append_X0_take : GoodIn wsX1_append (wsV RX1 37 RX0 yX0_take wsX0_take) := goodIn_app (goodIn_of _ (by decide +kernel)) ggX1_append_X0_take
theorem dX1_append_0 : decode cX1_append 0 = .ok (.iload_n 1, 1) := by decide +kernel
theorem dX1_append_1 : decode cX1_append 1 = .ok (.aload_n 0, 1) := by decide +kernel
theorem dX1_append_2 : decode cX1_append 2 = .ok (.getfield 7, 3) := by decide +kernel
theorem dX1_append_5 : decode cX1_append 5 = .ok (.if_icmp .gt 5, 3) := by decide +kernel
theorem dX1_append_8 : decode cX1_append 8 = .ok (.iconst 1, 1) := by decide +kernel
theorem dX1_append_9 : decode cX1_append 9 = .ok (.ireturn, 1) := by decide +kernel
theorem dX1_append_10 : decode cX1_append 10 = .ok (.aload_n 0, 1) := by decide +kernel
theorem dX1_append_11 : decode cX1_append 11 = .ok (.iload_n 1, 1) := by decide +kernel
theorem dX1_append_12 : decode cX1_append 12 = .ok (.putfield 7, 3) := by decide +kernel
theorem dX1_append_15 : decode cX1_append 15 = .ok (.aload_n 0, 1) := by decide +kernel
theorem dX1_append_16 : decode cX1_append 16 = .ok (.getfield 23, 3) := by decide +kernel
theorem dX1_append_19 : decode cX1_append 19 = .ok (.iload_n 1, 1) := by decide +kernel
theorem dX1_append_20 : decode cX1_append 20 = .ok (.iload_n 2, 1) := by decide +kernel
theorem dX1_append_21 : decode cX1_append 21 = .ok (.invokevirtual 37, 3) := by decide +kernel
theorem dX1_append_24 : decode cX1_append 24 = .ok (.aload_n 0, 1) := by decide +kernel
theorem dX1_append_25 : decode cX1_append 25 = .ok (.getfield 27, 3) := by decide +kernel
theorem dX1_append_28 : decode cX1_append 28 = .ok (.iload_n 1, 1) := by decide +kernel
theorem dX1_append_29 : decode cX1_append 29 = .ok (.iload_n 2, 1) := by decide +kernel
theorem dX1_append_30 : decode cX1_append 30 = .ok (.invokevirtual 37, 3) := by decide +kernel
theorem dX1_append_33 : decode cX1_append 33 = .ok (.aload_n 0, 1) := by decide +kernel
theorem dX1_append_34 : decode cX1_append 34 = .ok (.getfield 30, 3) := by decide +kernel
theorem dX1_append_37 : decode cX1_append 37 = .ok (.iload_n 1, 1) := by decide +kernel
theorem dX1_append_38 : decode cX1_append 38 = .ok (.iload_n 2, 1) := by decide +kernel
theorem dX1_append_39 : decode cX1_append 39 = .ok (.invokevirtual 37, 3) := by decide +kernel
theorem dX1_append_42 : decode cX1_append 42 = .ok (.iconst 0, 1) := by decide +kernel
theorem dX1_append_43 : decode cX1_append 43 = .ok (.ireturn, 1) := by decide +kernel
set_option maxRecDepth 20000 in
theorem ggX1_count_X1_ringOf : GoodIn wsX1_count wsX1_ringOf := goodIn_r _ [5, 6, 7, 8, 15, 16, 17, 18, 19] (by decide +kernel) (by decide +kernel)
set_option maxRecDepth 20000 in
theorem gX1_count_X1_ringOf : GoodIn wsX1_count (wsV RX1 40 RX1 yX1_ringOf wsX1_ringOf) := goodIn_app (goodIn_of _ (by decide +kernel)) ggX1_count_X1_ringOf
set_option maxRecDepth 20000 in
theorem ggX1_count_X0_size : GoodIn wsX1_count wsX0_size := goodIn_r _ [13, 14, 20, 21, 22, 23, 24, 25, 26] (by decide +kernel) (by decide +kernel)
set_option maxRecDepth 20000 in
theorem gX1_count_X0_size : GoodIn wsX1_count (wsV RX1 44 RX0 yX0_size wsX0_size) := goodIn_app (goodIn_of _ (by decide +kernel)) ggX1_count_X0_size
theorem dX1_count_0 : decode cX1_count 0 = .ok (.aload_n 0, 1) := by decide +kernel
theorem dX1_count_1 : decode cX1_count 1 = .ok (.iload_n 1, 1) := by decide +kernel
theorem dX1_count_2 : decode cX1_count 2 = .ok (.invokevirtual 40, 3) := by decide +kernel
theorem dX1_count_5 : decode cX1_count 5 = .ok (.astore_n 2, 1) := by decide +kernel
theorem dX1_count_6 : decode cX1_count 6 = .ok (.aload_n 2, 1) := by decide +kernel
theorem dX1_count_7 : decode cX1_count 7 = .ok (.ifnonnull 7, 3) := by decide +kernel
theorem dX1_count_10 : decode cX1_count 10 = .ok (.iconst (-1), 1) := by decide +kernel
theorem dX1_count_11 : decode cX1_count 11 = .ok (.goto 7, 3) := by decide +kernel
theorem dX1_count_14 : decode cX1_count 14 = .ok (.aload_n 2, 1) := by decide +kernel
theorem dX1_count_15 : decode cX1_count 15 = .ok (.invokevirtual 44, 3) := by decide +kernel
theorem dX1_count_18 : decode cX1_count 18 = .ok (.ireturn, 1) := by decide +kernel
set_option maxRecDepth 20000 in
theorem ggX1_start_X1_ringOf : GoodIn wsX1_start wsX1_ringOf := goodIn_r _ [5, 6, 7, 8, 26, 27, 28, 29, 30] (by decide +kernel) (by decide +kernel)
set_option maxRecDepth 20000 in
theorem gX1_start_X1_ringOf : GoodIn wsX1_start (wsV RX1 40 RX1 yX1_ringOf wsX1_ringOf) := goodIn_app (goodIn_of _ (by decide +kernel)) ggX1_start_X1_ringOf
set_option maxRecDepth 20000 in
theorem ggX1_start_X0_startOf : GoodIn wsX1_start wsX0_startOf := goodIn_r _ [13, 14, 15, 16, 17, 12, 18, 19, 20, 21, 22, 23, 24, 25, 31, 32, 33, 34, 35, 36, 37] (by decide +kernel) (by decide +kernel)
set_option maxRecDepth 20000 in
theorem gX1_start_X0_startOf : GoodIn wsX1_start (wsV RX1 48 RX0 yX0_startOf wsX0_startOf) := goodIn_app (goodIn_of _ (by decide +kernel)) ggX1_start_X0_startOf
theorem dX1_start_0 : decode cX1_start 0 = .ok (.aload_n 0, 1) := by decide +kernel
theorem dX1_start_1 : decode cX1_start 1 = .ok (.iload_n 1, 1) := by decide +kernel
theorem dX1_start_2 : decode cX1_start 2 = .ok (.invokevirtual 40, 3) := by decide +kernel
theorem dX1_start_5 : decode cX1_start 5 = .ok (.astore_n 3, 1) := by decide +kernel
theorem dX1_start_6 : decode cX1_start 6 = .ok (.aload_n 3, 1) := by decide +kernel
theorem dX1_start_7 : decode cX1_start 7 = .ok (.ifnonnull 7, 3) := by decide +kernel
theorem dX1_start_10 : decode cX1_start 10 = .ok (.iconst (-1), 1) := by decide +kernel
theorem dX1_start_11 : decode cX1_start 11 = .ok (.goto 8, 3) := by decide +kernel
theorem dX1_start_14 : decode cX1_start 14 = .ok (.aload_n 3, 1) := by decide +kernel
theorem dX1_start_15 : decode cX1_start 15 = .ok (.iload_n 2, 1) := by decide +kernel
theorem dX1_start_16 : decode cX1_start 16 = .ok (.invokevirtual 48, 3) := by decide +kernel
theorem dX1_start_19 : decode cX1_start 19 = .ok (.ireturn, 1) := by decide +kernel
set_option maxRecDepth 20000 in
theorem ggX1_figure_X1_ringOf : GoodIn wsX1_figure wsX1_ringOf := goodIn_r _ [5, 6, 7, 8, 26, 27, 28, 29, 30] (by decide +kernel) (by decide +kernel)
set_option maxRecDepth 20000 in
theorem gX1_figure_X1_ringOf : GoodIn wsX1_figure (wsV RX1 40 RX1 yX1_ringOf wsX1_ringOf) := goodIn_app (goodIn_of _ (by decide +kernel)) ggX1_figure_X1_ringOf
set_option maxRecDepth 20000 in
theorem ggX1_figure_X0_figureOf : GoodIn wsX1_figure wsX0_figureOf := goodIn_r _ [13, 14, 15, 16, 17, 12, 18, 19, 20, 21, 22, 23, 24, 25, 31, 32, 33, 34, 35, 36, 37] (by decide +kernel) (by decide +kernel)
set_option maxRecDepth 20000 in
theorem gX1_figure_X0_figureOf : GoodIn wsX1_figure (wsV RX1 52 RX0 yX0_figureOf wsX0_figureOf) := goodIn_app (goodIn_of _ (by decide +kernel)) ggX1_figure_X0_figureOf
theorem dX1_figure_0 : decode cX1_figure 0 = .ok (.aload_n 0, 1) := by decide +kernel
theorem dX1_figure_1 : decode cX1_figure 1 = .ok (.iload_n 1, 1) := by decide +kernel
theorem dX1_figure_2 : decode cX1_figure 2 = .ok (.invokevirtual 40, 3) := by decide +kernel
theorem dX1_figure_5 : decode cX1_figure 5 = .ok (.astore 4, 2) := by decide +kernel
theorem dX1_figure_7 : decode cX1_figure 7 = .ok (.aload 4, 2) := by decide +kernel
theorem dX1_figure_9 : decode cX1_figure 9 = .ok (.ifnonnull 7, 3) := by decide +kernel
theorem dX1_figure_12 : decode cX1_figure 12 = .ok (.iconst 0, 1) := by decide +kernel
theorem dX1_figure_13 : decode cX1_figure 13 = .ok (.goto 10, 3) := by decide +kernel
theorem dX1_figure_16 : decode cX1_figure 16 = .ok (.aload 4, 2) := by decide +kernel
theorem dX1_figure_18 : decode cX1_figure 18 = .ok (.iload_n 2, 1) := by decide +kernel
theorem dX1_figure_19 : decode cX1_figure 19 = .ok (.iload_n 3, 1) := by decide +kernel
theorem dX1_figure_20 : decode cX1_figure 20 = .ok (.invokevirtual 52, 3) := by decide +kernel
theorem dX1_figure_23 : decode cX1_figure 23 = .ok (.ireturn, 1) := by decide +kernel
set_option maxRecDepth 20000 in
theorem ggX1_many_X1_firstIn : GoodIn wsX1_many wsX1_firstIn := goodIn_r _ [5, 6, 7, 8, 9, 10, 11, 12, 13, 14, 15, 16, 17, 18, 19, 20, 21, 22, 23, 24, 25, 26, 27, 32, 33, 34, 35, 36, 37, 38, 39, 40, 41, 42, 43] (by decide +kernel) (by decide +kernel)
set_option maxRecDepth 20000 in
theorem gX1_many_X1_firstIn : GoodIn wsX1_many (wsV RX1 56 RX1 yX1_firstIn wsX1_firstIn) := goodIn_app (goodIn_of _ (by decide +kernel)) ggX1_many_X1_firstIn
set_option maxRecDepth 20000 in
theorem ggX1_many_X1_endOf : GoodIn wsX1_many wsX1_endOf := goodIn_r _ [31, 6, 7, 8, 9, 10, 11, 12, 13, 14, 15, 16, 17, 18, 19, 20, 21, 22, 23, 24, 25, 26, 27, 32, 33, 34, 35, 36, 37, 38, 39, 40, 41, 42, 43] (by decide +kernel) (by decide +kernel)
set_option maxRecDepth 20000 in
theorem gX1_many_X1_endOf : GoodIn wsX1_many (wsV RX1 59 RX1 yX1_endOf wsX1_endOf) := goodIn_app (goodIn_of _ (by decide +kernel)) ggX1_many_X1_endOf
theorem dX1_many_0 : decode cX1_many 0 = .ok (.aload_n 0, 1) := by decide +kernel
theorem dX1_many_1 : decode cX1_many 1 = .ok (.iload_n 1, 1) := by decide +kernel
theorem dX1_many_2 : decode cX1_many 2 = .ok (.invokevirtual 56, 3) := by decide +kernel
theorem dX1_many_5 : decode cX1_many 5 = .ok (.istore_n 3, 1) := by decide +kernel
theorem dX1_many_6 : decode cX1_many 6 = .ok (.aload_n 0, 1) := by decide +kernel
theorem dX1_many_7 : decode cX1_many 7 = .ok (.iload_n 3, 1) := by decide +kernel
theorem dX1_many_8 : decode cX1_many 8 = .ok (.iload_n 2, 1) := by decide +kernel
theorem dX1_many_9 : decode cX1_many 9 = .ok (.invokevirtual 59, 3) := by decide +kernel
theorem dX1_many_12 : decode cX1_many 12 = .ok (.iload_n 3, 1) := by decide +kernel
theorem dX1_many_13 : decode cX1_many 13 = .ok (.isub, 1) := by decide +kernel
theorem dX1_many_14 : decode cX1_many 14 = .ok (.ireturn, 1) := by decide +kernel
set_option maxRecDepth 20000 in
theorem ggX1_extreme_X1_firstIn : GoodIn wsX1_extreme wsX1_firstIn := goodIn_r _ [6, 1, 7, 8, 9, 10, 11, 12, 13, 14, 15, 16, 17, 18, 19, 20, 21, 22, 23, 24, 25, 26, 27, 51, 52, 53, 54, 55, 56, 57, 58, 59, 60, 61, 62] (by decide +kernel) (by decide +kernel)
set_option maxRecDepth 20000 in
theorem gX1_extreme_X1_firstIn : GoodIn wsX1_extreme (wsV RX1 56 RX1 yX1_firstIn wsX1_firstIn) := goodIn_app (goodIn_of _ (by decide +kernel)) ggX1_extreme_X1_firstIn
set_option maxRecDepth 20000 in
theorem ggX1_extreme_X1_endOf : GoodIn wsX1_extreme wsX1_endOf := goodIn_r _ [31, 1, 7, 8, 9, 10, 11, 12, 13, 14, 15, 16, 17, 18, 19, 20, 21, 22, 23, 24, 25, 26, 27, 51, 52, 53, 54, 55, 56, 57, 58, 59, 60, 61, 62] (by decide +kernel) (by decide +kernel)
set_option maxRecDepth 20000 in
theorem gX1_extreme_X1_endOf : GoodIn wsX1_extreme (wsV RX1 59 RX1 yX1_endOf wsX1_endOf) := goodIn_app (goodIn_of _ (by decide +kernel)) ggX1_extreme_X1_endOf
set_option maxRecDepth 20000 in
theorem ggX1_extreme_X0_together : GoodIn wsX1_extreme wsX0_together := goodIn_r _ [35, 36, 37, 38, 10, 39, 40, 18, 19, 20, 21, 12, 22, 23, 24, 25, 26, 27, 41, 42, 43, 44, 45, 46, 47, 48, 49, 50, 56, 57, 58, 59, 60, 61, 62] (by decide +kernel) (by decide +kernel)
set_option maxRecDepth 20000 in
theorem gX1_extreme_X0_together : GoodIn wsX1_extreme (wsV RX1 62 RX0 yX0_together wsX0_together) := goodIn_app (goodIn_of _ (by decide +kernel)) ggX1_extreme_X0_together
theorem dX1_extreme_0 : decode cX1_extreme 0 = .ok (.iload_n 3, 1) := by decide +kernel
theorem dX1_extreme_1 : decode cX1_extreme 1 = .ok (.iconst 1, 1) := by decide +kernel
theorem dX1_extreme_2 : decode cX1_extreme 2 = .ok (.if_icmp .eq 10, 3) := by decide +kernel
theorem dX1_extreme_5 : decode cX1_extreme 5 = .ok (.iload_n 3, 1) := by decide +kernel
theorem dX1_extreme_6 : decode cX1_extreme 6 = .ok (.iconst (-1), 1) := by decide +kernel
theorem dX1_extreme_7 : decode cX1_extreme 7 = .ok (.if_icmp .eq 5, 3) := by decide +kernel
theorem dX1_extreme_10 : decode cX1_extreme 10 = .ok (.iconst 0, 1) := by decide +kernel
theorem dX1_extreme_11 : decode cX1_extreme 11 = .ok (.ireturn, 1) := by decide +kernel
theorem dX1_extreme_12 : decode cX1_extreme 12 = .ok (.aload_n 0, 1) := by decide +kernel
theorem dX1_extreme_13 : decode cX1_extreme 13 = .ok (.iload_n 1, 1) := by decide +kernel
theorem dX1_extreme_14 : decode cX1_extreme 14 = .ok (.invokevirtual 56, 3) := by decide +kernel
theorem dX1_extreme_17 : decode cX1_extreme 17 = .ok (.istore 4, 2) := by decide +kernel
theorem dX1_extreme_19 : decode cX1_extreme 19 = .ok (.aload_n 0, 1) := by decide +kernel
theorem dX1_extreme_20 : decode cX1_extreme 20 = .ok (.getfield 23, 3) := by decide +kernel
theorem dX1_extreme_23 : decode cX1_extreme 23 = .ok (.iload 4, 2) := by decide +kernel
theorem dX1_extreme_25 : decode cX1_extreme 25 = .ok (.aload_n 0, 1) := by decide +kernel
theorem dX1_extreme_26 : decode cX1_extreme 26 = .ok (.iload 4, 2) := by decide +kernel
theorem dX1_extreme_28 : decode cX1_extreme 28 = .ok (.iload_n 2, 1) := by decide +kernel
theorem dX1_extreme_29 : decode cX1_extreme 29 = .ok (.invokevirtual 59, 3) := by decide +kernel
theorem dX1_extreme_32 : decode cX1_extreme 32 = .ok (.iload_n 3, 1) := by decide +kernel
theorem dX1_extreme_33 : decode cX1_extreme 33 = .ok (.ifCond .ge 7, 3) := by decide +kernel
theorem dX1_extreme_36 : decode cX1_extreme 36 = .ok (.iconst 0, 1) := by decide +kernel
theorem dX1_extreme_37 : decode cX1_extreme 37 = .ok (.goto 4, 3) := by decide +kernel
theorem dX1_extreme_40 : decode cX1_extreme 40 = .ok (.iconst 1, 1) := by decide +kernel
theorem dX1_extreme_41 : decode cX1_extreme 41 = .ok (.invokevirtual 62, 3) := by decide +kernel
theorem dX1_extreme_44 : decode cX1_extreme 44 = .ok (.ireturn, 1) := by decide +kernel
set_option maxRecDepth 20000 in
theorem ggX1_sum_X1_firstIn : GoodIn wsX1_sum wsX1_firstIn := goodIn_r _ [5, 6, 7, 8, 9, 10, 11, 12, 13, 14, 15, 16, 17, 18, 19, 20, 21, 22, 23, 24, 25, 26, 27, 41, 42, 43, 44, 45, 46, 47, 48, 49, 50, 51, 52] (by decide +kernel) (by decide +kernel)
set_option maxRecDepth 20000 in
theorem gX1_sum_X1_firstIn : GoodIn wsX1_sum (wsV RX1 56 RX1 yX1_firstIn wsX1_firstIn) := goodIn_app (goodIn_of _ (by decide +kernel)) ggX1_sum_X1_firstIn
set_option maxRecDepth 20000 in
theorem ggX1_sum_X1_endOf : GoodIn wsX1_sum wsX1_endOf := goodIn_r _ [31, 6, 7, 8, 9, 10, 11, 12, 13, 14, 15, 16, 17, 18, 19, 20, 21, 22, 23, 24, 25, 26, 27, 41, 42, 43, 44, 45, 46, 47, 48, 49, 50, 51, 52] (by decide +kernel) (by decide +kernel)
set_option maxRecDepth 20000 in
theorem gX1_sum_X1_endOf : GoodIn wsX1_sum (wsV RX1 59 RX1 yX1_endOf wsX1_endOf) := goodIn_app (goodIn_of _ (by decide +kernel)) ggX1_sum_X1_endOf
set_option maxRecDepth 20000 in
theorem ggX1_sum_X1_valueOf : GoodIn wsX1_sum wsX1_valueOf := goodIn_r _ [35, 6, 36, 37, 38, 10, 39, 40, 18, 19, 20, 21, 12, 22, 23, 24, 25, 26, 27, 41, 42, 43, 44, 45, 46, 47, 48, 49, 50, 51, 52] (by decide +kernel) (by decide +kernel)
set_option maxRecDepth 20000 in
theorem gX1_sum_X1_valueOf : GoodIn wsX1_sum (wsV RX1 65 RX1 yX1_valueOf wsX1_valueOf) := goodIn_app (goodIn_of _ (by decide +kernel)) ggX1_sum_X1_valueOf
theorem dX1_sum_0 : decode cX1_sum 0 = .ok (.aload_n 0, 1) := by decide +kernel
theorem dX1_sum_1 : decode cX1_sum 1 = .ok (.iload_n 1, 1) := by decide +kernel
theorem dX1_sum_2 : decode cX1_sum 2 = .ok (.invokevirtual 56, 3) := by decide +kernel
theorem dX1_sum_5 : decode cX1_sum 5 = .ok (.istore_n 3, 1) := by decide +kernel
theorem dX1_sum_6 : decode cX1_sum 6 = .ok (.aload_n 0, 1) := by decide +kernel
theorem dX1_sum_7 : decode cX1_sum 7 = .ok (.iload_n 3, 1) := by decide +kernel
theorem dX1_sum_8 : decode cX1_sum 8 = .ok (.iload_n 2, 1) := by decide +kernel
theorem dX1_sum_9 : decode cX1_sum 9 = .ok (.invokevirtual 59, 3) := by decide +kernel
theorem dX1_sum_12 : decode cX1_sum 12 = .ok (.istore 4, 2) := by decide +kernel
theorem dX1_sum_14 : decode cX1_sum 14 = .ok (.lconst 0, 1) := by decide +kernel
theorem dX1_sum_15 : decode cX1_sum 15 = .ok (.lstore 5, 2) := by decide +kernel
theorem dX1_sum_17 : decode cX1_sum 17 = .ok (.iload_n 3, 1) := by decide +kernel
theorem dX1_sum_18 : decode cX1_sum 18 = .ok (.istore 7, 2) := by decide +kernel
theorem dX1_sum_20 : decode cX1_sum 20 = .ok (.iload 7, 2) := by decide +kernel
theorem dX1_sum_22 : decode cX1_sum 22 = .ok (.iload 4, 2) := by decide +kernel
theorem dX1_sum_24 : decode cX1_sum 24 = .ok (.if_icmp .ge 21, 3) := by decide +kernel
theorem dX1_sum_27 : decode cX1_sum 27 = .ok (.lload 5, 2) := by decide +kernel
theorem dX1_sum_29 : decode cX1_sum 29 = .ok (.aload_n 0, 1) := by decide +kernel
theorem dX1_sum_30 : decode cX1_sum 30 = .ok (.iload 7, 2) := by decide +kernel
theorem dX1_sum_32 : decode cX1_sum 32 = .ok (.invokevirtual 65, 3) := by decide +kernel
theorem dX1_sum_35 : decode cX1_sum 35 = .ok (.i2l, 1) := by decide +kernel
theorem dX1_sum_36 : decode cX1_sum 36 = .ok (.ladd, 1) := by decide +kernel
theorem dX1_sum_37 : decode cX1_sum 37 = .ok (.lstore 5, 2) := by decide +kernel
theorem dX1_sum_39 : decode cX1_sum 39 = .ok (.iinc 7 1, 3) := by decide +kernel
theorem dX1_sum_42 : decode cX1_sum 42 = .ok (.goto (-22), 3) := by decide +kernel
theorem dX1_sum_45 : decode cX1_sum 45 = .ok (.lload 5, 2) := by decide +kernel
theorem dX1_sum_47 : decode cX1_sum 47 = .ok (.lreturn, 1) := by decide +kernel
set_option maxRecDepth 20000 in
theorem ggX1_at_X0_firstFrom : GoodIn wsX1_at wsX0_firstFrom := goodIn_r _ [6, 7, 8, 9, 10, 5, 11, 12, 13, 14, 15, 16, 17, 18, 19, 20, 21, 22, 51, 52, 53, 54, 55, 56, 57] (by decide +kernel) (by decide +kernel)
set_option maxRecDepth 20000 in
theorem gX1_at_X0_firstFrom : GoodIn wsX1_at (wsV RX1 68 RX0 yX0_firstFrom wsX0_firstFrom) := goodIn_app (goodIn_of _ (by decide +kernel)) ggX1_at_X0_firstFrom
set_option maxRecDepth 20000 in
theorem ggX1_at_X0_size : GoodIn wsX1_at wsX0_size := goodIn_r _ [26, 7, 51, 52, 53, 54, 55, 56, 57] (by decide +kernel) (by decide +kernel)
set_option maxRecDepth 20000 in
theorem gX1_at_X0_size : GoodIn wsX1_at (wsV RX1 44 RX0 yX0_size wsX0_size) := goodIn_app (goodIn_of _ (by decide +kernel)) ggX1_at_X0_size
set_option maxRecDepth 20000 in
theorem ggX1_at_X1_onLine : GoodIn wsX1_at wsX1_onLine := goodIn_r _ [31, 1, 32, 9, 10, 5, 11, 12, 13, 14, 15, 16, 7, 17, 18, 19, 20, 21, 22, 33, 34, 35, 30, 36, 37, 38, 39, 40, 41, 42, 43, 44, 45, 46, 47, 48, 49, 50, 51, 52, 53, 54, 55, 56, 57] (by decide +kernel) (by decide +kernel)
set_option maxRecDepth 20000 in
theorem gX1_at_X1_onLine : GoodIn wsX1_at (wsV RX1 72 RX1 yX1_onLine wsX1_onLine) := goodIn_app (goodIn_of _ (by decide +kernel)) ggX1_at_X1_onLine
set_option maxRecDepth 20000 in
theorem ggX1_at_X1_valueOf : GoodIn wsX1_at wsX1_valueOf := goodIn_r _ [36, 1, 37, 38, 39, 5, 40, 41, 13, 14, 15, 16, 7, 17, 18, 19, 20, 21, 22, 46, 47, 48, 49, 50, 51, 52, 53, 54, 55, 56, 57] (by decide +kernel) (by decide +kernel)
set_option maxRecDepth 20000 in
theorem gX1_at_X1_valueOf : GoodIn wsX1_at (wsV RX1 65 RX1 yX1_valueOf wsX1_valueOf) := goodIn_app (goodIn_of _ (by decide +kernel)) ggX1_at_X1_valueOf
theorem dX1_at_0 : decode cX1_at 0 = .ok (.aload_n 0, 1) := by decide +kernel
theorem dX1_at_1 : decode cX1_at 1 = .ok (.getfield 23, 3) := by decide +kernel
theorem dX1_at_4 : decode cX1_at 4 = .ok (.iconst 0, 1) := by decide +kernel
theorem dX1_at_5 : decode cX1_at 5 = .ok (.iload_n 1, 1) := by decide +kernel
theorem dX1_at_6 : decode cX1_at 6 = .ok (.i2l, 1) := by decide +kernel
theorem dX1_at_7 : decode cX1_at 7 = .ok (.lconst 1, 1) := by decide +kernel
theorem dX1_at_8 : decode cX1_at 8 = .ok (.ladd, 1) := by decide +kernel
theorem dX1_at_9 : decode cX1_at 9 = .ok (.invokevirtual 68, 3) := by decide +kernel
theorem dX1_at_12 : decode cX1_at 12 = .ok (.istore_n 3, 1) := by decide +kernel
theorem dX1_at_13 : decode cX1_at 13 = .ok (.iload_n 3, 1) := by decide +kernel
theorem dX1_at_14 : decode cX1_at 14 = .ok (.ifCond .ne 5, 3) := by decide +kernel
theorem dX1_at_17 : decode cX1_at 17 = .ok (.iconst 0, 1) := by decide +kernel
theorem dX1_at_18 : decode cX1_at 18 = .ok (.ireturn, 1) := by decide +kernel
theorem dX1_at_19 : decode cX1_at 19 = .ok (.iload_n 2, 1) := by decide +kernel
theorem dX1_at_20 : decode cX1_at 20 = .ok (.ifCond .eq 18, 3) := by decide +kernel
theorem dX1_at_23 : decode cX1_at 23 = .ok (.iload_n 3, 1) := by decide +kernel
theorem dX1_at_24 : decode cX1_at 24 = .ok (.aload_n 0, 1) := by decide +kernel
theorem dX1_at_25 : decode cX1_at 25 = .ok (.getfield 23, 3) := by decide +kernel
theorem dX1_at_28 : decode cX1_at 28 = .ok (.invokevirtual 44, 3) := by decide +kernel
theorem dX1_at_31 : decode cX1_at 31 = .ok (.if_icmp .ge 7, 3) := by decide +kernel
theorem dX1_at_34 : decode cX1_at 34 = .ok (.iconst 1, 1) := by decide +kernel
theorem dX1_at_35 : decode cX1_at 35 = .ok (.goto 4, 3) := by decide +kernel
theorem dX1_at_38 : decode cX1_at 38 = .ok (.iconst 0, 1) := by decide +kernel
theorem dX1_at_39 : decode cX1_at 39 = .ok (.istore 4, 2) := by decide +kernel
theorem dX1_at_41 : decode cX1_at 41 = .ok (.iload 4, 2) := by decide +kernel
theorem dX1_at_43 : decode cX1_at 43 = .ok (.ifCond .eq 14, 3) := by decide +kernel
theorem dX1_at_46 : decode cX1_at 46 = .ok (.aload_n 0, 1) := by decide +kernel
theorem dX1_at_47 : decode cX1_at 47 = .ok (.iload_n 3, 1) := by decide +kernel
theorem dX1_at_48 : decode cX1_at 48 = .ok (.iconst 1, 1) := by decide +kernel
theorem dX1_at_49 : decode cX1_at 49 = .ok (.isub, 1) := by decide +kernel
theorem dX1_at_50 : decode cX1_at 50 = .ok (.iload_n 1, 1) := by decide +kernel
theorem dX1_at_51 : decode cX1_at 51 = .ok (.invokevirtual 72, 3) := by decide +kernel
theorem dX1_at_54 : decode cX1_at 54 = .ok (.goto 10, 3) := by decide +kernel
theorem dX1_at_57 : decode cX1_at 57 = .ok (.aload_n 0, 1) := by decide +kernel
theorem dX1_at_58 : decode cX1_at 58 = .ok (.iload_n 3, 1) := by decide +kernel
theorem dX1_at_59 : decode cX1_at 59 = .ok (.iconst 1, 1) := by decide +kernel
theorem dX1_at_60 : decode cX1_at 60 = .ok (.isub, 1) := by decide +kernel
theorem dX1_at_61 : decode cX1_at 61 = .ok (.invokevirtual 65, 3) := by decide +kernel
theorem dX1_at_64 : decode cX1_at 64 = .ok (.ireturn, 1) := by decide +kernel
set_option maxRecDepth 20000 in
theorem ggX1_steepest_X1_firstIn : GoodIn wsX1_steepest wsX1_firstIn := goodIn_r _ [5, 6, 7, 8, 9, 10, 11, 12, 13, 14, 15, 16, 17, 18, 19, 20, 21, 22, 23, 24, 25, 26, 27, 45, 46, 47, 48, 49, 50, 51, 52, 53, 54, 55, 56] (by decide +kernel) (by decide +kernel)
set_option maxRecDepth 20000 in
theorem gX1_steepest_X1_firstIn : GoodIn wsX1_steepest (wsV RX1 56 RX1 yX1_firstIn wsX1_firstIn) := goodIn_app (goodIn_of _ (by decide +kernel)) ggX1_steepest_X1_firstIn
set_option maxRecDepth 20000 in
theorem ggX1_steepest_X1_endOf : GoodIn wsX1_steepest wsX1_endOf := goodIn_r _ [31, 6, 7, 8, 9, 10, 11, 12, 13, 14, 15, 16, 17, 18, 19, 20, 21, 22, 23, 24, 25, 26, 27, 45, 46, 47, 48, 49, 50, 51, 52, 53, 54, 55, 56] (by decide +kernel) (by decide +kernel)
set_option maxRecDepth 20000 in
theorem gX1_steepest_X1_endOf : GoodIn wsX1_steepest (wsV RX1 59 RX1 yX1_endOf wsX1_endOf) := goodIn_app (goodIn_of _ (by decide +kernel)) ggX1_steepest_X1_endOf
set_option maxRecDepth 20000 in
theorem ggX1_steepest_X1_riseTo : GoodIn wsX1_steepest wsX1_riseTo := goodIn_r _ [35, 36, 37, 38, 4, 39, 6, 40, 41, 42, 10, 43, 44, 18, 19, 20, 21, 12, 22, 23, 24, 25, 26, 27, 45, 46, 47, 48, 49, 50, 51, 52, 53, 54, 55, 56] (by decide +kernel) (by decide +kernel)
set_option maxRecDepth 20000 in
theorem gX1_steepest_X1_riseTo : GoodIn wsX1_steepest (wsV RX1 75 RX1 yX1_riseTo wsX1_riseTo) := goodIn_app (goodIn_of _ (by decide +kernel)) ggX1_steepest_X1_riseTo
theorem dX1_steepest_0 : decode cX1_steepest 0 = .ok (.aload_n 0, 1) := by decide +kernel
theorem dX1_steepest_1 : decode cX1_steepest 1 = .ok (.iload_n 1, 1) := by decide +kernel
theorem dX1_steepest_2 : decode cX1_steepest 2 = .ok (.invokevirtual 56, 3) := by decide +kernel
theorem dX1_steepest_5 : decode cX1_steepest 5 = .ok (.istore_n 3, 1) := by decide +kernel
theorem dX1_steepest_6 : decode cX1_steepest 6 = .ok (.aload_n 0, 1) := by decide +kernel
theorem dX1_steepest_7 : decode cX1_steepest 7 = .ok (.iload_n 3, 1) := by decide +kernel
theorem dX1_steepest_8 : decode cX1_steepest 8 = .ok (.iload_n 2, 1) := by decide +kernel
theorem dX1_steepest_9 : decode cX1_steepest 9 = .ok (.invokevirtual 59, 3) := by decide +kernel
theorem dX1_steepest_12 : decode cX1_steepest 12 = .ok (.istore 4, 2) := by decide +kernel
theorem dX1_steepest_14 : decode cX1_steepest 14 = .ok (.iconst (-1), 1) := by decide +kernel
theorem dX1_steepest_15 : decode cX1_steepest 15 = .ok (.istore 5, 2) := by decide +kernel
theorem dX1_steepest_17 : decode cX1_steepest 17 = .ok (.lconst 0, 1) := by decide +kernel
theorem dX1_steepest_18 : decode cX1_steepest 18 = .ok (.lstore 6, 2) := by decide +kernel
theorem dX1_steepest_20 : decode cX1_steepest 20 = .ok (.iload_n 3, 1) := by decide +kernel
theorem dX1_steepest_21 : decode cX1_steepest 21 = .ok (.iconst 1, 1) := by decide +kernel
theorem dX1_steepest_22 : decode cX1_steepest 22 = .ok (.iadd, 1) := by decide +kernel
theorem dX1_steepest_23 : decode cX1_steepest 23 = .ok (.istore 8, 2) := by decide +kernel
theorem dX1_steepest_25 : decode cX1_steepest 25 = .ok (.iload 8, 2) := by decide +kernel
theorem dX1_steepest_27 : decode cX1_steepest 27 = .ok (.iload 4, 2) := by decide +kernel
theorem dX1_steepest_29 : decode cX1_steepest 29 = .ok (.if_icmp .ge 39, 3) := by decide +kernel
theorem dX1_steepest_32 : decode cX1_steepest 32 = .ok (.aload_n 0, 1) := by decide +kernel
theorem dX1_steepest_33 : decode cX1_steepest 33 = .ok (.iload 8, 2) := by decide +kernel
theorem dX1_steepest_35 : decode cX1_steepest 35 = .ok (.invokevirtual 75, 3) := by decide +kernel
theorem dX1_steepest_38 : decode cX1_steepest 38 = .ok (.lstore 9, 2) := by decide +kernel
theorem dX1_steepest_40 : decode cX1_steepest 40 = .ok (.iload 5, 2) := by decide +kernel
theorem dX1_steepest_42 : decode cX1_steepest 42 = .ok (.iconst (-1), 1) := by decide +kernel
theorem dX1_steepest_43 : decode cX1_steepest 43 = .ok (.if_icmp .eq 11, 3) := by decide +kernel
theorem dX1_steepest_46 : decode cX1_steepest 46 = .ok (.lload 9, 2) := by decide +kernel
theorem dX1_steepest_48 : decode cX1_steepest 48 = .ok (.lload 6, 2) := by decide +kernel
theorem dX1_steepest_50 : decode cX1_steepest 50 = .ok (.lcmp, 1) := by decide +kernel
theorem dX1_steepest_51 : decode cX1_steepest 51 = .ok (.ifCond .le 11, 3) := by decide +kernel
theorem dX1_steepest_54 : decode cX1_steepest 54 = .ok (.iload 8, 2) := by decide +kernel
theorem dX1_steepest_56 : decode cX1_steepest 56 = .ok (.istore 5, 2) := by decide +kernel
theorem dX1_steepest_58 : decode cX1_steepest 58 = .ok (.lload 9, 2) := by decide +kernel
theorem dX1_steepest_60 : decode cX1_steepest 60 = .ok (.lstore 6, 2) := by decide +kernel
theorem dX1_steepest_62 : decode cX1_steepest 62 = .ok (.iinc 8 1, 3) := by decide +kernel
theorem dX1_steepest_65 : decode cX1_steepest 65 = .ok (.goto (-40), 3) := by decide +kernel
theorem dX1_steepest_68 : decode cX1_steepest 68 = .ok (.iload 5, 2) := by decide +kernel
theorem dX1_steepest_70 : decode cX1_steepest 70 = .ok (.ireturn, 1) := by decide +kernel
set_option maxRecDepth 20000 in
theorem ggX1_median_X1_firstIn : GoodIn wsX1_median wsX1_firstIn := goodIn_r _ [6, 7, 8, 9, 10, 11, 12, 13, 14, 15, 16, 17, 18, 19, 20, 21, 22, 23, 24, 25, 26, 27, 28, 46, 47, 48, 49, 50, 51, 52, 53, 54, 55, 56, 57] (by decide +kernel) (by decide +kernel)
set_option maxRecDepth 20000 in
theorem gX1_median_X1_firstIn : GoodIn wsX1_median (wsV RX1 56 RX1 yX1_firstIn wsX1_firstIn) := goodIn_app (goodIn_of _ (by decide +kernel)) ggX1_median_X1_firstIn
set_option maxRecDepth 20000 in
theorem ggX1_median_X1_endOf : GoodIn wsX1_median wsX1_endOf := goodIn_r _ [32, 7, 8, 9, 10, 11, 12, 13, 14, 15, 16, 17, 18, 19, 20, 21, 22, 23, 24, 25, 26, 27, 28, 46, 47, 48, 49, 50, 51, 52, 53, 54, 55, 56, 57] (by decide +kernel) (by decide +kernel)
set_option maxRecDepth 20000 in
theorem gX1_median_X1_endOf : GoodIn wsX1_median (wsV RX1 59 RX1 yX1_endOf wsX1_endOf) := goodIn_app (goodIn_of _ (by decide +kernel)) ggX1_median_X1_endOf
set_option maxRecDepth 20000 in
theorem ggX1_median_X1_valueOf : GoodIn wsX1_median wsX1_valueOf := goodIn_r _ [36, 7, 37, 38, 39, 11, 40, 41, 19, 20, 21, 22, 13, 23, 24, 25, 26, 27, 28, 46, 47, 48, 49, 50, 51, 52, 53, 54, 55, 56, 57] (by decide +kernel) (by decide +kernel)
set_option maxRecDepth 20000 in
theorem gX1_median_X1_valueOf : GoodIn wsX1_median (wsV RX1 65 RX1 yX1_valueOf wsX1_valueOf) := goodIn_app (goodIn_of _ (by decide +kernel)) ggX1_median_X1_valueOf
set_option maxRecDepth 20000 in
theorem ggX1_median_X1_insertSorted : GoodIn wsX1_median wsX1_insertSorted := goodIn_r _ [45, 1, 46, 47, 48, 49, 50] (by decide +kernel) (by decide +kernel)
set_option maxRecDepth 20000 in
theorem gX1_median_X1_insertSorted : GoodIn wsX1_median (wsV RX1 79 RX1 yX1_insertSorted wsX1_insertSorted) := goodIn_app (goodIn_of _ (by decide +kernel)) ggX1_median_X1_insertSorted
theorem dX1_median_0 : decode cX1_median 0 = .ok (.aload_n 0, 1) := by decide +kernel
theorem dX1_median_1 : decode cX1_median 1 = .ok (.iload_n 1, 1) := by decide +kernel
theorem dX1_median_2 : decode cX1_median 2 = .ok (.invokevirtual 56, 3) := by decide +kernel
theorem dX1_median_5 : decode cX1_median 5 = .ok (.istore_n 3, 1) := by decide +kernel
theorem dX1_median_6 : decode cX1_median 6 = .ok (.aload_n 0, 1) := by decide +kernel
theorem dX1_median_7 : decode cX1_median 7 = .ok (.iload_n 3, 1) := by decide +kernel
theorem dX1_median_8 : decode cX1_median 8 = .ok (.iload_n 2, 1) := by decide +kernel
theorem dX1_median_9 : decode cX1_median 9 = .ok (.invokevirtual 59, 3) := by decide +kernel
theorem dX1_median_12 : decode cX1_median 12 = .ok (.istore 4, 2) := by decide +kernel
theorem dX1_median_14 : decode cX1_median 14 = .ok (.iload_n 3, 1) := by decide +kernel
theorem dX1_median_15 : decode cX1_median 15 = .ok (.iload 4, 2) := by decide +kernel
theorem dX1_median_17 : decode cX1_median 17 = .ok (.if_icmp .ne 5, 3) := by decide +kernel
theorem dX1_median_20 : decode cX1_median 20 = .ok (.iconst 0, 1) := by decide +kernel
theorem dX1_median_21 : decode cX1_median 21 = .ok (.ireturn, 1) := by decide +kernel
theorem dX1_median_22 : decode cX1_median 22 = .ok (.iload_n 3, 1) := by decide +kernel
theorem dX1_median_23 : decode cX1_median 23 = .ok (.istore 5, 2) := by decide +kernel
theorem dX1_median_25 : decode cX1_median 25 = .ok (.iload 5, 2) := by decide +kernel
theorem dX1_median_27 : decode cX1_median 27 = .ok (.iload 4, 2) := by decide +kernel
theorem dX1_median_29 : decode cX1_median 29 = .ok (.if_icmp .ge 23, 3) := by decide +kernel
theorem dX1_median_32 : decode cX1_median 32 = .ok (.aload_n 0, 1) := by decide +kernel
theorem dX1_median_33 : decode cX1_median 33 = .ok (.iload 5, 2) := by decide +kernel
theorem dX1_median_35 : decode cX1_median 35 = .ok (.iload_n 3, 1) := by decide +kernel
theorem dX1_median_36 : decode cX1_median 36 = .ok (.isub, 1) := by decide +kernel
theorem dX1_median_37 : decode cX1_median 37 = .ok (.aload_n 0, 1) := by decide +kernel
theorem dX1_median_38 : decode cX1_median 38 = .ok (.iload 5, 2) := by decide +kernel
theorem dX1_median_40 : decode cX1_median 40 = .ok (.invokevirtual 65, 3) := by decide +kernel
theorem dX1_median_43 : decode cX1_median 43 = .ok (.invokevirtual 79, 3) := by decide +kernel
theorem dX1_median_46 : decode cX1_median 46 = .ok (.iinc 5 1, 3) := by decide +kernel
theorem dX1_median_49 : decode cX1_median 49 = .ok (.goto (-24), 3) := by decide +kernel
theorem dX1_median_52 : decode cX1_median 52 = .ok (.aload_n 0, 1) := by decide +kernel
theorem dX1_median_53 : decode cX1_median 53 = .ok (.getfield 33, 3) := by decide +kernel
theorem dX1_median_56 : decode cX1_median 56 = .ok (.iload 4, 2) := by decide +kernel
theorem dX1_median_58 : decode cX1_median 58 = .ok (.iload_n 3, 1) := by decide +kernel
theorem dX1_median_59 : decode cX1_median 59 = .ok (.isub, 1) := by decide +kernel
theorem dX1_median_60 : decode cX1_median 60 = .ok (.iconst 1, 1) := by decide +kernel
theorem dX1_median_61 : decode cX1_median 61 = .ok (.isub, 1) := by decide +kernel
theorem dX1_median_62 : decode cX1_median 62 = .ok (.iconst 2, 1) := by decide +kernel
theorem dX1_median_63 : decode cX1_median 63 = .ok (.idiv, 1) := by decide +kernel
theorem dX1_median_64 : decode cX1_median 64 = .ok (.iaload, 1) := by decide +kernel
theorem dX1_median_65 : decode cX1_median 65 = .ok (.ireturn, 1) := by decide +kernel
set_option maxRecDepth 20000 in
theorem ggX1_reach_X0_manyWhollyIn : GoodIn wsX1_reach wsX0_manyWhollyIn := goodIn_r _ [12, 13, 14, 15, 16, 11, 17, 18, 19, 20, 21, 22, 23, 24, 25, 26, 27, 28, 29, 30, 31, 32, 33, 34, 35, 36, 37, 38, 45, 46, 47, 48, 49, 50, 51] (by decide +kernel) (by decide +kernel)
set_option maxRecDepth 20000 in
theorem gX1_reach_X0_manyWhollyIn : GoodIn wsX1_reach (wsV RX1 82 RX0 yX0_manyWhollyIn wsX0_manyWhollyIn) := goodIn_app (goodIn_of _ (by decide +kernel)) ggX1_reach_X0_manyWhollyIn
set_option maxRecDepth 20000 in
theorem ggX1_reach_X0_startOf : GoodIn wsX1_reach wsX0_startOf := goodIn_r _ [17, 18, 19, 20, 21, 11, 22, 13, 23, 24, 25, 26, 27, 28, 45, 46, 47, 48, 49, 50, 51] (by decide +kernel) (by decide +kernel)
set_option maxRecDepth 20000 in
theorem gX1_reach_X0_startOf : GoodIn wsX1_reach (wsV RX1 48 RX0 yX0_startOf wsX0_startOf) := goodIn_app (goodIn_of _ (by decide +kernel)) ggX1_reach_X0_startOf
theorem dX1_reach_0 : decode cX1_reach 0 = .ok (.aload_n 0, 1) := by decide +kernel
theorem dX1_reach_1 : decode cX1_reach 1 = .ok (.getfield 23, 3) := by decide +kernel
theorem dX1_reach_4 : decode cX1_reach 4 = .ok (.iload_n 1, 1) := by decide +kernel
theorem dX1_reach_5 : decode cX1_reach 5 = .ok (.i2l, 1) := by decide +kernel
theorem dX1_reach_6 : decode cX1_reach 6 = .ok (.iload_n 2, 1) := by decide +kernel
theorem dX1_reach_7 : decode cX1_reach 7 = .ok (.i2l, 1) := by decide +kernel
theorem dX1_reach_8 : decode cX1_reach 8 = .ok (.invokevirtual 82, 3) := by decide +kernel
theorem dX1_reach_11 : decode cX1_reach 11 = .ok (.lstore_n 3, 1) := by decide +kernel
theorem dX1_reach_12 : decode cX1_reach 12 = .ok (.iload_n 2, 1) := by decide +kernel
theorem dX1_reach_13 : decode cX1_reach 13 = .ok (.i2l, 1) := by decide +kernel
theorem dX1_reach_14 : decode cX1_reach 14 = .ok (.aload_n 0, 1) := by decide +kernel
theorem dX1_reach_15 : decode cX1_reach 15 = .ok (.getfield 23, 3) := by decide +kernel
theorem dX1_reach_18 : decode cX1_reach 18 = .ok (.iconst 0, 1) := by decide +kernel
theorem dX1_reach_19 : decode cX1_reach 19 = .ok (.invokevirtual 48, 3) := by decide +kernel
theorem dX1_reach_22 : decode cX1_reach 22 = .ok (.i2l, 1) := by decide +kernel
theorem dX1_reach_23 : decode cX1_reach 23 = .ok (.lconst 1, 1) := by decide +kernel
theorem dX1_reach_24 : decode cX1_reach 24 = .ok (.lsub, 1) := by decide +kernel
theorem dX1_reach_25 : decode cX1_reach 25 = .ok (.invokestatic 86, 3) := by decide +kernel
theorem dX1_reach_28 : decode cX1_reach 28 = .ok (.lstore 5, 2) := by decide +kernel
theorem dX1_reach_30 : decode cX1_reach 30 = .ok (.lload_n 3, 1) := by decide +kernel
theorem dX1_reach_31 : decode cX1_reach 31 = .ok (.aload_n 0, 1) := by decide +kernel
theorem dX1_reach_32 : decode cX1_reach 32 = .ok (.getfield 27, 3) := by decide +kernel
theorem dX1_reach_35 : decode cX1_reach 35 = .ok (.iload_n 1, 1) := by decide +kernel
theorem dX1_reach_36 : decode cX1_reach 36 = .ok (.i2l, 1) := by decide +kernel
theorem dX1_reach_37 : decode cX1_reach 37 = .ok (.lload 5, 2) := by decide +kernel
theorem dX1_reach_39 : decode cX1_reach 39 = .ok (.invokevirtual 82, 3) := by decide +kernel
theorem dX1_reach_42 : decode cX1_reach 42 = .ok (.ladd, 1) := by decide +kernel
theorem dX1_reach_43 : decode cX1_reach 43 = .ok (.lstore_n 3, 1) := by decide +kernel
theorem dX1_reach_44 : decode cX1_reach 44 = .ok (.lload 5, 2) := by decide +kernel
theorem dX1_reach_46 : decode cX1_reach 46 = .ok (.aload_n 0, 1) := by decide +kernel
theorem dX1_reach_47 : decode cX1_reach 47 = .ok (.getfield 27, 3) := by decide +kernel
theorem dX1_reach_50 : decode cX1_reach 50 = .ok (.iconst 0, 1) := by decide +kernel
theorem dX1_reach_51 : decode cX1_reach 51 = .ok (.invokevirtual 48, 3) := by decide +kernel
theorem dX1_reach_54 : decode cX1_reach 54 = .ok (.i2l, 1) := by decide +kernel
theorem dX1_reach_55 : decode cX1_reach 55 = .ok (.lconst 1, 1) := by decide +kernel
theorem dX1_reach_56 : decode cX1_reach 56 = .ok (.lsub, 1) := by decide +kernel
theorem dX1_reach_57 : decode cX1_reach 57 = .ok (.invokestatic 86, 3) := by decide +kernel
theorem dX1_reach_60 : decode cX1_reach 60 = .ok (.lstore 5, 2) := by decide +kernel
theorem dX1_reach_62 : decode cX1_reach 62 = .ok (.lload_n 3, 1) := by decide +kernel
theorem dX1_reach_63 : decode cX1_reach 63 = .ok (.aload_n 0, 1) := by decide +kernel
theorem dX1_reach_64 : decode cX1_reach 64 = .ok (.getfield 30, 3) := by decide +kernel
theorem dX1_reach_67 : decode cX1_reach 67 = .ok (.iload_n 1, 1) := by decide +kernel
theorem dX1_reach_68 : decode cX1_reach 68 = .ok (.i2l, 1) := by decide +kernel
theorem dX1_reach_69 : decode cX1_reach 69 = .ok (.lload 5, 2) := by decide +kernel
theorem dX1_reach_71 : decode cX1_reach 71 = .ok (.invokevirtual 82, 3) := by decide +kernel
theorem dX1_reach_74 : decode cX1_reach 74 = .ok (.ladd, 1) := by decide +kernel
theorem dX1_reach_75 : decode cX1_reach 75 = .ok (.lreturn, 1) := by decide +kernel
set_option maxRecDepth 20000 in
theorem ggX1_sound_X0_agreesWith : GoodIn wsX1_sound wsX0_agreesWith := goodIn_r _ [8, 9, 10, 11, 12, 13, 7, 14, 15, 16, 17, 18, 19, 20, 21, 22, 23, 24, 25, 26, 27, 28, 29, 30, 31, 32, 33, 34, 35, 36, 37, 38, 39, 40, 41, 42, 43, 44, 45, 46, 47, 48, 49, 50, 51, 52, 53, 54, 55, 56, 57, 63, 64, 65, 66, 67, 68, 69] (by decide +kernel) (by decide +kernel)
set_option maxRecDepth 20000 in
theorem gX1_sound_X0_agreesWith : GoodIn wsX1_sound (wsV RX1 91 RX0 yX0_agreesWith wsX0_agreesWith) := goodIn_app (goodIn_of _ (by decide +kernel)) ggX1_sound_X0_agreesWith
theorem dX1_sound_0 : decode cX1_sound 0 = .ok (.aload_n 0, 1) := by decide +kernel
theorem dX1_sound_1 : decode cX1_sound 1 = .ok (.getfield 30, 3) := by decide +kernel
theorem dX1_sound_4 : decode cX1_sound 4 = .ok (.aload_n 0, 1) := by decide +kernel
theorem dX1_sound_5 : decode cX1_sound 5 = .ok (.getfield 27, 3) := by decide +kernel
theorem dX1_sound_8 : decode cX1_sound 8 = .ok (.invokevirtual 91, 3) := by decide +kernel
theorem dX1_sound_11 : decode cX1_sound 11 = .ok (.ifCond .eq 21, 3) := by decide +kernel
theorem dX1_sound_14 : decode cX1_sound 14 = .ok (.aload_n 0, 1) := by decide +kernel
theorem dX1_sound_15 : decode cX1_sound 15 = .ok (.getfield 27, 3) := by decide +kernel
theorem dX1_sound_18 : decode cX1_sound 18 = .ok (.aload_n 0, 1) := by decide +kernel
theorem dX1_sound_19 : decode cX1_sound 19 = .ok (.getfield 23, 3) := by decide +kernel
theorem dX1_sound_22 : decode cX1_sound 22 = .ok (.invokevirtual 91, 3) := by decide +kernel
theorem dX1_sound_25 : decode cX1_sound 25 = .ok (.ifCond .eq 7, 3) := by decide +kernel
theorem dX1_sound_28 : decode cX1_sound 28 = .ok (.iconst 1, 1) := by decide +kernel
theorem dX1_sound_29 : decode cX1_sound 29 = .ok (.goto 4, 3) := by decide +kernel
theorem dX1_sound_32 : decode cX1_sound 32 = .ok (.iconst 0, 1) := by decide +kernel
theorem dX1_sound_33 : decode cX1_sound 33 = .ok (.ireturn, 1) := by decide +kernel
theorem dX1_within_0 : decode cX1_within 0 = .ok (.iload_n 1, 1) := by decide +kernel
theorem dX1_within_1 : decode cX1_within 1 = .ok (.iload_n 2, 1) := by decide +kernel
theorem dX1_within_2 : decode cX1_within 2 = .ok (.iload_n 0, 1) := by decide +kernel
theorem dX1_within_3 : decode cX1_within 3 = .ok (.invokestatic 95, 3) := by decide +kernel
theorem dX1_within_6 : decode cX1_within 6 = .ok (.invokestatic 97, 3) := by decide +kernel
theorem dX1_within_9 : decode cX1_within 9 = .ok (.ireturn, 1) := by decide +kernel
theorem dX1_ringOf_0 : decode cX1_ringOf 0 = .ok (.iload_n 1, 1) := by decide +kernel
theorem dX1_ringOf_1 : decode cX1_ringOf 1 = .ok (.tableswitch 42 0 2 #[27, 32, 37], 27) := by decide +kernel
theorem dX1_ringOf_28 : decode cX1_ringOf 28 = .ok (.aload_n 0, 1) := by decide +kernel
theorem dX1_ringOf_29 : decode cX1_ringOf 29 = .ok (.getfield 23, 3) := by decide +kernel
theorem dX1_ringOf_32 : decode cX1_ringOf 32 = .ok (.areturn, 1) := by decide +kernel
theorem dX1_ringOf_33 : decode cX1_ringOf 33 = .ok (.aload_n 0, 1) := by decide +kernel
theorem dX1_ringOf_34 : decode cX1_ringOf 34 = .ok (.getfield 27, 3) := by decide +kernel
theorem dX1_ringOf_37 : decode cX1_ringOf 37 = .ok (.areturn, 1) := by decide +kernel
theorem dX1_ringOf_38 : decode cX1_ringOf 38 = .ok (.aload_n 0, 1) := by decide +kernel
theorem dX1_ringOf_39 : decode cX1_ringOf 39 = .ok (.getfield 30, 3) := by decide +kernel
theorem dX1_ringOf_42 : decode cX1_ringOf 42 = .ok (.areturn, 1) := by decide +kernel
theorem dX1_ringOf_43 : decode cX1_ringOf 43 = .ok (.aconst_null, 1) := by decide +kernel
theorem dX1_ringOf_44 : decode cX1_ringOf 44 = .ok (.areturn, 1) := by decide +kernel
set_option maxRecDepth 20000 in
theorem ggX1_firstIn_X0_firstFrom : GoodIn wsX1_firstIn wsX0_firstFrom := goodIn_r _ [6, 7, 8, 9, 10, 5, 11, 12, 13, 14, 15, 16, 17, 18, 19, 20, 21, 22, 28, 29, 30, 31, 32, 33, 34] (by decide +kernel) (by decide +kernel)
set_option maxRecDepth 20000 in
theorem gX1_firstIn_X0_firstFrom : GoodIn wsX1_firstIn (wsV RX1 68 RX0 yX0_firstFrom wsX0_firstFrom) := goodIn_app (goodIn_of _ (by decide +kernel)) ggX1_firstIn_X0_firstFrom
theorem dX1_firstIn_0 : decode cX1_firstIn 0 = .ok (.aload_n 0, 1) := by decide +kernel
theorem dX1_firstIn_1 : decode cX1_firstIn 1 = .ok (.getfield 23, 3) := by decide +kernel
theorem dX1_firstIn_4 : decode cX1_firstIn 4 = .ok (.iconst 0, 1) := by decide +kernel
theorem dX1_firstIn_5 : decode cX1_firstIn 5 = .ok (.iload_n 1, 1) := by decide +kernel
theorem dX1_firstIn_6 : decode cX1_firstIn 6 = .ok (.i2l, 1) := by decide +kernel
theorem dX1_firstIn_7 : decode cX1_firstIn 7 = .ok (.invokevirtual 68, 3) := by decide +kernel
theorem dX1_firstIn_10 : decode cX1_firstIn 10 = .ok (.ireturn, 1) := by decide +kernel
set_option maxRecDepth 20000 in
theorem ggX1_endOf_X0_firstFrom : GoodIn wsX1_endOf wsX0_firstFrom := goodIn_r _ [6, 7, 8, 9, 10, 5, 11, 12, 13, 14, 15, 16, 17, 18, 19, 20, 21, 22, 28, 29, 30, 31, 32, 33, 34] (by decide +kernel) (by decide +kernel)
set_option maxRecDepth 20000 in
theorem gX1_endOf_X0_firstFrom : GoodIn wsX1_endOf (wsV RX1 68 RX0 yX0_firstFrom wsX0_firstFrom) := goodIn_app (goodIn_of _ (by decide +kernel)) ggX1_endOf_X0_firstFrom
theorem dX1_endOf_0 : decode cX1_endOf 0 = .ok (.aload_n 0, 1) := by decide +kernel
theorem dX1_endOf_1 : decode cX1_endOf 1 = .ok (.getfield 23, 3) := by decide +kernel
theorem dX1_endOf_4 : decode cX1_endOf 4 = .ok (.iload_n 1, 1) := by decide +kernel
theorem dX1_endOf_5 : decode cX1_endOf 5 = .ok (.iload_n 2, 1) := by decide +kernel
theorem dX1_endOf_6 : decode cX1_endOf 6 = .ok (.i2l, 1) := by decide +kernel
theorem dX1_endOf_7 : decode cX1_endOf 7 = .ok (.lconst 1, 1) := by decide +kernel
theorem dX1_endOf_8 : decode cX1_endOf 8 = .ok (.ladd, 1) := by decide +kernel
theorem dX1_endOf_9 : decode cX1_endOf 9 = .ok (.invokevirtual 68, 3) := by decide +kernel
theorem dX1_endOf_12 : decode cX1_endOf 12 = .ok (.ireturn, 1) := by decide +kernel
set_option maxRecDepth 20000 in
theorem ggX1_valueOf_X0_figureOf : GoodIn wsX1_valueOf wsX0_figureOf := goodIn_r _ [6, 7, 8, 9, 10, 5, 11, 12, 13, 14, 15, 16, 17, 18, 24, 25, 26, 27, 28, 29, 30] (by decide +kernel) (by decide +kernel)
set_option maxRecDepth 20000 in
theorem gX1_valueOf_X0_figureOf : GoodIn wsX1_valueOf (wsV RX1 52 RX0 yX0_figureOf wsX0_figureOf) := goodIn_app (goodIn_of _ (by decide +kernel)) ggX1_valueOf_X0_figureOf
theorem dX1_valueOf_0 : decode cX1_valueOf 0 = .ok (.aload_n 0, 1) := by decide +kernel
theorem dX1_valueOf_1 : decode cX1_valueOf 1 = .ok (.getfield 23, 3) := by decide +kernel
theorem dX1_valueOf_4 : decode cX1_valueOf 4 = .ok (.iload_n 1, 1) := by decide +kernel
theorem dX1_valueOf_5 : decode cX1_valueOf 5 = .ok (.iconst 2, 1) := by decide +kernel
theorem dX1_valueOf_6 : decode cX1_valueOf 6 = .ok (.invokevirtual 52, 3) := by decide +kernel
theorem dX1_valueOf_9 : decode cX1_valueOf 9 = .ok (.ireturn, 1) := by decide +kernel
set_option maxRecDepth 20000 in
theorem ggX1_riseTo_X1_valueOf : GoodIn wsX1_riseTo wsX1_valueOf := goodIn_r _ [5, 6, 7, 8, 9, 10, 11, 12, 13, 14, 15, 16, 17, 18, 19, 20, 21, 22, 23, 24, 25, 26, 27, 28, 29, 30, 31, 32, 33, 34, 35] (by decide +kernel) (by decide +kernel)
set_option maxRecDepth 20000 in
theorem gX1_riseTo_X1_valueOf : GoodIn wsX1_riseTo (wsV RX1 65 RX1 yX1_valueOf wsX1_valueOf) := goodIn_app (goodIn_of _ (by decide +kernel)) ggX1_riseTo_X1_valueOf
theorem dX1_riseTo_0 : decode cX1_riseTo 0 = .ok (.aload_n 0, 1) := by decide +kernel
theorem dX1_riseTo_1 : decode cX1_riseTo 1 = .ok (.iload_n 1, 1) := by decide +kernel
theorem dX1_riseTo_2 : decode cX1_riseTo 2 = .ok (.invokevirtual 65, 3) := by decide +kernel
theorem dX1_riseTo_5 : decode cX1_riseTo 5 = .ok (.i2l, 1) := by decide +kernel
theorem dX1_riseTo_6 : decode cX1_riseTo 6 = .ok (.aload_n 0, 1) := by decide +kernel
theorem dX1_riseTo_7 : decode cX1_riseTo 7 = .ok (.iload_n 1, 1) := by decide +kernel
theorem dX1_riseTo_8 : decode cX1_riseTo 8 = .ok (.iconst 1, 1) := by decide +kernel
theorem dX1_riseTo_9 : decode cX1_riseTo 9 = .ok (.isub, 1) := by decide +kernel
theorem dX1_riseTo_10 : decode cX1_riseTo 10 = .ok (.invokevirtual 65, 3) := by decide +kernel
theorem dX1_riseTo_13 : decode cX1_riseTo 13 = .ok (.i2l, 1) := by decide +kernel
theorem dX1_riseTo_14 : decode cX1_riseTo 14 = .ok (.lsub, 1) := by decide +kernel
theorem dX1_riseTo_15 : decode cX1_riseTo 15 = .ok (.lreturn, 1) := by decide +kernel
set_option maxRecDepth 20000 in
theorem ggX1_onLine_X0_startOf : GoodIn wsX1_onLine wsX0_startOf := goodIn_r _ [6, 7, 8, 9, 10, 5, 11, 12, 13, 14, 15, 16, 17, 18, 38, 39, 40, 41, 42, 43, 44] (by decide +kernel) (by decide +kernel)
set_option maxRecDepth 20000 in
theorem gX1_onLine_X0_startOf : GoodIn wsX1_onLine (wsV RX1 48 RX0 yX0_startOf wsX0_startOf) := goodIn_app (goodIn_of _ (by decide +kernel)) ggX1_onLine_X0_startOf
set_option maxRecDepth 20000 in
theorem ggX1_onLine_X1_valueOf : GoodIn wsX1_onLine wsX1_valueOf := goodIn_r _ [23, 1, 24, 25, 26, 5, 27, 28, 8, 9, 10, 11, 12, 13, 14, 15, 16, 17, 18, 33, 34, 35, 36, 37, 38, 39, 40, 41, 42, 43, 44] (by decide +kernel) (by decide +kernel)
set_option maxRecDepth 20000 in
theorem gX1_onLine_X1_valueOf : GoodIn wsX1_onLine (wsV RX1 65 RX1 yX1_valueOf wsX1_valueOf) := goodIn_app (goodIn_of _ (by decide +kernel)) ggX1_onLine_X1_valueOf
set_option maxRecDepth 20000 in
theorem ggX1_onLine_X1_riseTo : GoodIn wsX1_onLine wsX1_riseTo := goodIn_r _ [32, 19, 20, 21, 22, 23, 1, 24, 25, 26, 5, 27, 28, 8, 9, 10, 11, 12, 13, 14, 15, 16, 17, 18, 33, 34, 35, 36, 37, 38, 39, 40, 41, 42, 43, 44] (by decide +kernel) (by decide +kernel)
set_option maxRecDepth 20000 in
theorem gX1_onLine_X1_riseTo : GoodIn wsX1_onLine (wsV RX1 75 RX1 yX1_riseTo wsX1_riseTo) := goodIn_app (goodIn_of _ (by decide +kernel)) ggX1_onLine_X1_riseTo
theorem dX1_onLine_0 : decode cX1_onLine 0 = .ok (.aload_n 0, 1) := by decide +kernel
theorem dX1_onLine_1 : decode cX1_onLine 1 = .ok (.getfield 23, 3) := by decide +kernel
theorem dX1_onLine_4 : decode cX1_onLine 4 = .ok (.iload_n 1, 1) := by decide +kernel
theorem dX1_onLine_5 : decode cX1_onLine 5 = .ok (.invokevirtual 48, 3) := by decide +kernel
theorem dX1_onLine_8 : decode cX1_onLine 8 = .ok (.istore_n 3, 1) := by decide +kernel
theorem dX1_onLine_9 : decode cX1_onLine 9 = .ok (.aload_n 0, 1) := by decide +kernel
theorem dX1_onLine_10 : decode cX1_onLine 10 = .ok (.getfield 23, 3) := by decide +kernel
theorem dX1_onLine_13 : decode cX1_onLine 13 = .ok (.iload_n 1, 1) := by decide +kernel
theorem dX1_onLine_14 : decode cX1_onLine 14 = .ok (.iconst 1, 1) := by decide +kernel
theorem dX1_onLine_15 : decode cX1_onLine 15 = .ok (.iadd, 1) := by decide +kernel
theorem dX1_onLine_16 : decode cX1_onLine 16 = .ok (.invokevirtual 48, 3) := by decide +kernel
theorem dX1_onLine_19 : decode cX1_onLine 19 = .ok (.i2l, 1) := by decide +kernel
theorem dX1_onLine_20 : decode cX1_onLine 20 = .ok (.iload_n 3, 1) := by decide +kernel
theorem dX1_onLine_21 : decode cX1_onLine 21 = .ok (.i2l, 1) := by decide +kernel
theorem dX1_onLine_22 : decode cX1_onLine 22 = .ok (.lsub, 1) := by decide +kernel
theorem dX1_onLine_23 : decode cX1_onLine 23 = .ok (.lstore 4, 2) := by decide +kernel
theorem dX1_onLine_25 : decode cX1_onLine 25 = .ok (.lload 4, 2) := by decide +kernel
theorem dX1_onLine_27 : decode cX1_onLine 27 = .ok (.lconst 0, 1) := by decide +kernel
theorem dX1_onLine_28 : decode cX1_onLine 28 = .ok (.lcmp, 1) := by decide +kernel
theorem dX1_onLine_29 : decode cX1_onLine 29 = .ok (.ifCond .gt 9, 3) := by decide +kernel
theorem dX1_onLine_32 : decode cX1_onLine 32 = .ok (.aload_n 0, 1) := by decide +kernel
theorem dX1_onLine_33 : decode cX1_onLine 33 = .ok (.iload_n 1, 1) := by decide +kernel
theorem dX1_onLine_34 : decode cX1_onLine 34 = .ok (.invokevirtual 65, 3) := by decide +kernel
theorem dX1_onLine_37 : decode cX1_onLine 37 = .ok (.ireturn, 1) := by decide +kernel
theorem dX1_onLine_38 : decode cX1_onLine 38 = .ok (.aload_n 0, 1) := by decide +kernel
theorem dX1_onLine_39 : decode cX1_onLine 39 = .ok (.iload_n 1, 1) := by decide +kernel
theorem dX1_onLine_40 : decode cX1_onLine 40 = .ok (.iconst 1, 1) := by decide +kernel
theorem dX1_onLine_41 : decode cX1_onLine 41 = .ok (.iadd, 1) := by decide +kernel
theorem dX1_onLine_42 : decode cX1_onLine 42 = .ok (.invokevirtual 75, 3) := by decide +kernel
theorem dX1_onLine_45 : decode cX1_onLine 45 = .ok (.iload_n 2, 1) := by decide +kernel
theorem dX1_onLine_46 : decode cX1_onLine 46 = .ok (.i2l, 1) := by decide +kernel
theorem dX1_onLine_47 : decode cX1_onLine 47 = .ok (.iload_n 3, 1) := by decide +kernel
theorem dX1_onLine_48 : decode cX1_onLine 48 = .ok (.i2l, 1) := by decide +kernel
theorem dX1_onLine_49 : decode cX1_onLine 49 = .ok (.lsub, 1) := by decide +kernel
theorem dX1_onLine_50 : decode cX1_onLine 50 = .ok (.lmul, 1) := by decide +kernel
theorem dX1_onLine_51 : decode cX1_onLine 51 = .ok (.lload 4, 2) := by decide +kernel
theorem dX1_onLine_53 : decode cX1_onLine 53 = .ok (.ldiv, 1) := by decide +kernel
theorem dX1_onLine_54 : decode cX1_onLine 54 = .ok (.lstore 6, 2) := by decide +kernel
theorem dX1_onLine_56 : decode cX1_onLine 56 = .ok (.aload_n 0, 1) := by decide +kernel
theorem dX1_onLine_57 : decode cX1_onLine 57 = .ok (.iload_n 1, 1) := by decide +kernel
theorem dX1_onLine_58 : decode cX1_onLine 58 = .ok (.invokevirtual 65, 3) := by decide +kernel
theorem dX1_onLine_61 : decode cX1_onLine 61 = .ok (.i2l, 1) := by decide +kernel
theorem dX1_onLine_62 : decode cX1_onLine 62 = .ok (.lload 6, 2) := by decide +kernel
theorem dX1_onLine_64 : decode cX1_onLine 64 = .ok (.ladd, 1) := by decide +kernel
theorem dX1_onLine_65 : decode cX1_onLine 65 = .ok (.l2i, 1) := by decide +kernel
theorem dX1_onLine_66 : decode cX1_onLine 66 = .ok (.ireturn, 1) := by decide +kernel
theorem dX1_insertSorted_0 : decode cX1_insertSorted 0 = .ok (.iload_n 1, 1) := by decide +kernel
theorem dX1_insertSorted_1 : decode cX1_insertSorted 1 = .ok (.istore_n 3, 1) := by decide +kernel
theorem dX1_insertSorted_2 : decode cX1_insertSorted 2 = .ok (.iload_n 3, 1) := by decide +kernel
theorem dX1_insertSorted_3 : decode cX1_insertSorted 3 = .ok (.ifCond .le 35, 3) := by decide +kernel
theorem dX1_insertSorted_6 : decode cX1_insertSorted 6 = .ok (.aload_n 0, 1) := by decide +kernel
theorem dX1_insertSorted_7 : decode cX1_insertSorted 7 = .ok (.getfield 33, 3) := by decide +kernel
theorem dX1_insertSorted_10 : decode cX1_insertSorted 10 = .ok (.iload_n 3, 1) := by decide +kernel
theorem dX1_insertSorted_11 : decode cX1_insertSorted 11 = .ok (.iconst 1, 1) := by decide +kernel
theorem dX1_insertSorted_12 : decode cX1_insertSorted 12 = .ok (.isub, 1) := by decide +kernel
theorem dX1_insertSorted_13 : decode cX1_insertSorted 13 = .ok (.iaload, 1) := by decide +kernel
theorem dX1_insertSorted_14 : decode cX1_insertSorted 14 = .ok (.iload_n 2, 1) := by decide +kernel
theorem dX1_insertSorted_15 : decode cX1_insertSorted 15 = .ok (.if_icmp .le 23, 3) := by decide +kernel
theorem dX1_insertSorted_18 : decode cX1_insertSorted 18 = .ok (.aload_n 0, 1) := by decide +kernel
theorem dX1_insertSorted_19 : decode cX1_insertSorted 19 = .ok (.getfield 33, 3) := by decide +kernel
theorem dX1_insertSorted_22 : decode cX1_insertSorted 22 = .ok (.iload_n 3, 1) := by decide +kernel
theorem dX1_insertSorted_23 : decode cX1_insertSorted 23 = .ok (.aload_n 0, 1) := by decide +kernel
theorem dX1_insertSorted_24 : decode cX1_insertSorted 24 = .ok (.getfield 33, 3) := by decide +kernel
theorem dX1_insertSorted_27 : decode cX1_insertSorted 27 = .ok (.iload_n 3, 1) := by decide +kernel
theorem dX1_insertSorted_28 : decode cX1_insertSorted 28 = .ok (.iconst 1, 1) := by decide +kernel
theorem dX1_insertSorted_29 : decode cX1_insertSorted 29 = .ok (.isub, 1) := by decide +kernel
theorem dX1_insertSorted_30 : decode cX1_insertSorted 30 = .ok (.iaload, 1) := by decide +kernel
theorem dX1_insertSorted_31 : decode cX1_insertSorted 31 = .ok (.iastore, 1) := by decide +kernel
theorem dX1_insertSorted_32 : decode cX1_insertSorted 32 = .ok (.iinc 3 (-1), 3) := by decide +kernel
theorem dX1_insertSorted_35 : decode cX1_insertSorted 35 = .ok (.goto (-33), 3) := by decide +kernel
theorem dX1_insertSorted_38 : decode cX1_insertSorted 38 = .ok (.aload_n 0, 1) := by decide +kernel
theorem dX1_insertSorted_39 : decode cX1_insertSorted 39 = .ok (.getfield 33, 3) := by decide +kernel
theorem dX1_insertSorted_42 : decode cX1_insertSorted 42 = .ok (.iload_n 3, 1) := by decide +kernel
theorem dX1_insertSorted_43 : decode cX1_insertSorted 43 = .ok (.iload_n 2, 1) := by decide +kernel
theorem dX1_insertSorted_44 : decode cX1_insertSorted 44 = .ok (.iastore, 1) := by decide +kernel
theorem dX1_insertSorted_45 : decode cX1_insertSorted 45 = .ok (.return_, 1) := by decide +kernel

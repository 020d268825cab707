set_option maxRecDepth 20000 in
theorem ggX2_init_X2_within : GoodIn wsX2_init wsX2_within := goodIn_r _ [14] (by decide +kernel) (by decide +kernel)
set_option maxRecDepth 20000 in
theorem gX2_init_X2_within : GoodIn wsX2_init (va_wsS RX2 23 yX2_within wsX2_within) := goodIn_app (goodIn_of _ (by decide +kernel)) ggX2_init_X2_within
theorem dX2_init_0 : decode cX2_init 0 = .ok (.aload_n 0, 1) := by decide +kernel
theorem dX2_init_1 : decode cX2_init 1 = .ok (.invokespecial 1, 3) := by decide +kernel
theorem dX2_init_4 : decode cX2_init 4 = .ok (.aload_n 0, 1) := by decide +kernel
theorem dX2_init_5 : decode cX2_init 5 = .ok (.iconst 3, 1) := by decide +kernel
theorem dX2_init_6 : decode cX2_init 6 = .ok (.newarray .int, 2) := by decide +kernel
theorem dX2_init_8 : decode cX2_init 8 = .ok (.putfield 7, 3) := by decide +kernel
theorem dX2_init_11 : decode cX2_init 11 = .ok (.aload_n 0, 1) := by decide +kernel
theorem dX2_init_12 : decode cX2_init 12 = .ok (.iconst 3, 1) := by decide +kernel
theorem dX2_init_13 : decode cX2_init 13 = .ok (.newarray .long, 2) := by decide +kernel
theorem dX2_init_15 : decode cX2_init 15 = .ok (.putfield 13, 3) := by decide +kernel
theorem dX2_init_18 : decode cX2_init 18 = .ok (.aload_n 0, 1) := by decide +kernel
theorem dX2_init_19 : decode cX2_init 19 = .ok (.sipush 1024, 3) := by decide +kernel
theorem dX2_init_22 : decode cX2_init 22 = .ok (.newarray .int, 2) := by decide +kernel
theorem dX2_init_24 : decode cX2_init 24 = .ok (.putfield 17, 3) := by decide +kernel
theorem dX2_init_27 : decode cX2_init 27 = .ok (.aload_n 0, 1) := by decide +kernel
theorem dX2_init_28 : decode cX2_init 28 = .ok (.sipush 1024, 3) := by decide +kernel
theorem dX2_init_31 : decode cX2_init 31 = .ok (.newarray .int, 2) := by decide +kernel
theorem dX2_init_33 : decode cX2_init 33 = .ok (.putfield 20, 3) := by decide +kernel
theorem dX2_init_36 : decode cX2_init 36 = .ok (.aload_n 0, 1) := by decide +kernel
theorem dX2_init_37 : decode cX2_init 37 = .ok (.getfield 7, 3) := by decide +kernel
theorem dX2_init_40 : decode cX2_init 40 = .ok (.iconst 0, 1) := by decide +kernel
theorem dX2_init_41 : decode cX2_init 41 = .ok (.iload_n 1, 1) := by decide +kernel
theorem dX2_init_42 : decode cX2_init 42 = .ok (.iconst 1, 1) := by decide +kernel
theorem dX2_init_43 : decode cX2_init 43 = .ok (.bipush 60, 2) := by decide +kernel
theorem dX2_init_45 : decode cX2_init 45 = .ok (.invokestatic 23, 3) := by decide +kernel
theorem dX2_init_48 : decode cX2_init 48 = .ok (.iastore, 1) := by decide +kernel
theorem dX2_init_49 : decode cX2_init 49 = .ok (.aload_n 0, 1) := by decide +kernel
theorem dX2_init_50 : decode cX2_init 50 = .ok (.getfield 7, 3) := by decide +kernel
theorem dX2_init_53 : decode cX2_init 53 = .ok (.iconst 1, 1) := by decide +kernel
theorem dX2_init_54 : decode cX2_init 54 = .ok (.iload_n 2, 1) := by decide +kernel
theorem dX2_init_55 : decode cX2_init 55 = .ok (.iconst 1, 1) := by decide +kernel
theorem dX2_init_56 : decode cX2_init 56 = .ok (.bipush 60, 2) := by decide +kernel
theorem dX2_init_58 : decode cX2_init 58 = .ok (.invokestatic 23, 3) := by decide +kernel
theorem dX2_init_61 : decode cX2_init 61 = .ok (.iastore, 1) := by decide +kernel
theorem dX2_init_62 : decode cX2_init 62 = .ok (.aload_n 0, 1) := by decide +kernel
theorem dX2_init_63 : decode cX2_init 63 = .ok (.getfield 7, 3) := by decide +kernel
theorem dX2_init_66 : decode cX2_init 66 = .ok (.iconst 2, 1) := by decide +kernel
theorem dX2_init_67 : decode cX2_init 67 = .ok (.iload_n 3, 1) := by decide +kernel
theorem dX2_init_68 : decode cX2_init 68 = .ok (.iconst 1, 1) := by decide +kernel
theorem dX2_init_69 : decode cX2_init 69 = .ok (.bipush 60, 2) := by decide +kernel
theorem dX2_init_71 : decode cX2_init 71 = .ok (.invokestatic 23, 3) := by decide +kernel
theorem dX2_init_74 : decode cX2_init 74 = .ok (.iastore, 1) := by decide +kernel
theorem dX2_init_75 : decode cX2_init 75 = .ok (.aload_n 0, 1) := by decide +kernel
theorem dX2_init_76 : decode cX2_init 76 = .ok (.getfield 13, 3) := by decide +kernel
theorem dX2_init_79 : decode cX2_init 79 = .ok (.iconst 0, 1) := by decide +kernel
theorem dX2_init_80 : decode cX2_init 80 = .ok (.lconst 1, 1) := by decide +kernel
theorem dX2_init_81 : decode cX2_init 81 = .ok (.lastore, 1) := by decide +kernel
theorem dX2_init_82 : decode cX2_init 82 = .ok (.aload_n 0, 1) := by decide +kernel
theorem dX2_init_83 : decode cX2_init 83 = .ok (.getfield 13, 3) := by decide +kernel
theorem dX2_init_86 : decode cX2_init 86 = .ok (.iconst 1, 1) := by decide +kernel
theorem dX2_init_87 : decode cX2_init 87 = .ok (.iload 4, 2) := by decide +kernel
theorem dX2_init_89 : decode cX2_init 89 = .ok (.iconst 1, 1) := by decide +kernel
theorem dX2_init_90 : decode cX2_init 90 = .ok (.ldc 27, 2) := by decide +kernel
theorem dX2_init_92 : decode cX2_init 92 = .ok (.invokestatic 23, 3) := by decide +kernel
theorem dX2_init_95 : decode cX2_init 95 = .ok (.i2l, 1) := by decide +kernel
theorem dX2_init_96 : decode cX2_init 96 = .ok (.lastore, 1) := by decide +kernel
theorem dX2_init_97 : decode cX2_init 97 = .ok (.aload_n 0, 1) := by decide +kernel
theorem dX2_init_98 : decode cX2_init 98 = .ok (.getfield 13, 3) := by decide +kernel
theorem dX2_init_101 : decode cX2_init 101 = .ok (.iconst 2, 1) := by decide +kernel
theorem dX2_init_102 : decode cX2_init 102 = .ok (.aload_n 0, 1) := by decide +kernel
theorem dX2_init_103 : decode cX2_init 103 = .ok (.getfield 13, 3) := by decide +kernel
theorem dX2_init_106 : decode cX2_init 106 = .ok (.iconst 1, 1) := by decide +kernel
theorem dX2_init_107 : decode cX2_init 107 = .ok (.laload, 1) := by decide +kernel
theorem dX2_init_108 : decode cX2_init 108 = .ok (.iload 5, 2) := by decide +kernel
theorem dX2_init_110 : decode cX2_init 110 = .ok (.iconst 2, 1) := by decide +kernel
theorem dX2_init_111 : decode cX2_init 111 = .ok (.sipush 1000, 3) := by decide +kernel
theorem dX2_init_114 : decode cX2_init 114 = .ok (.invokestatic 23, 3) := by decide +kernel
theorem dX2_init_117 : decode cX2_init 117 = .ok (.i2l, 1) := by decide +kernel
theorem dX2_init_118 : decode cX2_init 118 = .ok (.lmul, 1) := by decide +kernel
theorem dX2_init_119 : decode cX2_init 119 = .ok (.lastore, 1) := by decide +kernel
theorem dX2_init_120 : decode cX2_init 120 = .ok (.return_, 1) := by decide +kernel
theorem dX2_within_0 : decode cX2_within 0 = .ok (.iload_n 0, 1) := by decide +kernel
theorem dX2_within_1 : decode cX2_within 1 = .ok (.iload_n 1, 1) := by decide +kernel
theorem dX2_within_2 : decode cX2_within 2 = .ok (.if_icmp .ge 7, 3) := by decide +kernel
theorem dX2_within_5 : decode cX2_within 5 = .ok (.iload_n 1, 1) := by decide +kernel
theorem dX2_within_6 : decode cX2_within 6 = .ok (.goto 13, 3) := by decide +kernel
theorem dX2_within_9 : decode cX2_within 9 = .ok (.iload_n 0, 1) := by decide +kernel
theorem dX2_within_10 : decode cX2_within 10 = .ok (.iload_n 2, 1) := by decide +kernel
theorem dX2_within_11 : decode cX2_within 11 = .ok (.if_icmp .le 7, 3) := by decide +kernel
theorem dX2_within_14 : decode cX2_within 14 = .ok (.iload_n 2, 1) := by decide +kernel
theorem dX2_within_15 : decode cX2_within 15 = .ok (.goto 4, 3) := by decide +kernel
theorem dX2_within_18 : decode cX2_within 18 = .ok (.iload_n 0, 1) := by decide +kernel
theorem dX2_within_19 : decode cX2_within 19 = .ok (.ireturn, 1) := by decide +kernel
theorem dX2_append_0 : decode cX2_append 0 = .ok (.iload_n 1, 1) := by decide +kernel
theorem dX2_append_1 : decode cX2_append 1 = .ok (.ifCond .lt 25, 3) := by decide +kernel
theorem dX2_append_4 : decode cX2_append 4 = .ok (.aload_n 0, 1) := by decide +kernel
theorem dX2_append_5 : decode cX2_append 5 = .ok (.getfield 32, 3) := by decide +kernel
theorem dX2_append_8 : decode cX2_append 8 = .ok (.ifCond .le 20, 3) := by decide +kernel
theorem dX2_append_11 : decode cX2_append 11 = .ok (.iload_n 1, 1) := by decide +kernel
theorem dX2_append_12 : decode cX2_append 12 = .ok (.aload_n 0, 1) := by decide +kernel
theorem dX2_append_13 : decode cX2_append 13 = .ok (.getfield 17, 3) := by decide +kernel
theorem dX2_append_16 : decode cX2_append 16 = .ok (.aload_n 0, 1) := by decide +kernel
theorem dX2_append_17 : decode cX2_append 17 = .ok (.getfield 32, 3) := by decide +kernel
theorem dX2_append_20 : decode cX2_append 20 = .ok (.iconst 1, 1) := by decide +kernel
theorem dX2_append_21 : decode cX2_append 21 = .ok (.isub, 1) := by decide +kernel
theorem dX2_append_22 : decode cX2_append 22 = .ok (.iaload, 1) := by decide +kernel
theorem dX2_append_23 : decode cX2_append 23 = .ok (.if_icmp .gt 5, 3) := by decide +kernel
theorem dX2_append_26 : decode cX2_append 26 = .ok (.iconst 1, 1) := by decide +kernel
theorem dX2_append_27 : decode cX2_append 27 = .ok (.ireturn, 1) := by decide +kernel
theorem dX2_append_28 : decode cX2_append 28 = .ok (.aload_n 0, 1) := by decide +kernel
theorem dX2_append_29 : decode cX2_append 29 = .ok (.getfield 17, 3) := by decide +kernel
theorem dX2_append_32 : decode cX2_append 32 = .ok (.aload_n 0, 1) := by decide +kernel
theorem dX2_append_33 : decode cX2_append 33 = .ok (.getfield 32, 3) := by decide +kernel
theorem dX2_append_36 : decode cX2_append 36 = .ok (.iload_n 1, 1) := by decide +kernel
theorem dX2_append_37 : decode cX2_append 37 = .ok (.iastore, 1) := by decide +kernel
theorem dX2_append_38 : decode cX2_append 38 = .ok (.aload_n 0, 1) := by decide +kernel
theorem dX2_append_39 : decode cX2_append 39 = .ok (.getfield 20, 3) := by decide +kernel
theorem dX2_append_42 : decode cX2_append 42 = .ok (.aload_n 0, 1) := by decide +kernel
theorem dX2_append_43 : decode cX2_append 43 = .ok (.getfield 32, 3) := by decide +kernel
theorem dX2_append_46 : decode cX2_append 46 = .ok (.iload_n 2, 1) := by decide +kernel
theorem dX2_append_47 : decode cX2_append 47 = .ok (.iastore, 1) := by decide +kernel
theorem dX2_append_48 : decode cX2_append 48 = .ok (.aload_n 0, 1) := by decide +kernel
theorem dX2_append_49 : decode cX2_append 49 = .ok (.dup, 1) := by decide +kernel
theorem dX2_append_50 : decode cX2_append 50 = .ok (.getfield 32, 3) := by decide +kernel
theorem dX2_append_53 : decode cX2_append 53 = .ok (.iconst 1, 1) := by decide +kernel
theorem dX2_append_54 : decode cX2_append 54 = .ok (.iadd, 1) := by decide +kernel
theorem dX2_append_55 : decode cX2_append 55 = .ok (.putfield 32, 3) := by decide +kernel
theorem dX2_append_58 : decode cX2_append 58 = .ok (.iconst 0, 1) := by decide +kernel
theorem dX2_append_59 : decode cX2_append 59 = .ok (.ireturn, 1) := by decide +kernel
theorem dX2_isSame_0 : decode cX2_isSame 0 = .ok (.aload_n 0, 1) := by decide +kernel
theorem dX2_isSame_1 : decode cX2_isSame 1 = .ok (.getfield 17, 3) := by decide +kernel
theorem dX2_isSame_4 : decode cX2_isSame 4 = .ok (.iload_n 2, 1) := by decide +kernel
theorem dX2_isSame_5 : decode cX2_isSame 5 = .ok (.iaload, 1) := by decide +kernel
theorem dX2_isSame_6 : decode cX2_isSame 6 = .ok (.i2l, 1) := by decide +kernel
theorem dX2_isSame_7 : decode cX2_isSame 7 = .ok (.aload_n 0, 1) := by decide +kernel
theorem dX2_isSame_8 : decode cX2_isSame 8 = .ok (.getfield 13, 3) := by decide +kernel
theorem dX2_isSame_11 : decode cX2_isSame 11 = .ok (.iload_n 1, 1) := by decide +kernel
theorem dX2_isSame_12 : decode cX2_isSame 12 = .ok (.laload, 1) := by decide +kernel
theorem dX2_isSame_13 : decode cX2_isSame 13 = .ok (.ldiv, 1) := by decide +kernel
theorem dX2_isSame_14 : decode cX2_isSame 14 = .ok (.aload_n 0, 1) := by decide +kernel
theorem dX2_isSame_15 : decode cX2_isSame 15 = .ok (.getfield 17, 3) := by decide +kernel
theorem dX2_isSame_18 : decode cX2_isSame 18 = .ok (.iload_n 3, 1) := by decide +kernel
theorem dX2_isSame_19 : decode cX2_isSame 19 = .ok (.iaload, 1) := by decide +kernel
theorem dX2_isSame_20 : decode cX2_isSame 20 = .ok (.i2l, 1) := by decide +kernel
theorem dX2_isSame_21 : decode cX2_isSame 21 = .ok (.aload_n 0, 1) := by decide +kernel
theorem dX2_isSame_22 : decode cX2_isSame 22 = .ok (.getfield 13, 3) := by decide +kernel
theorem dX2_isSame_25 : decode cX2_isSame 25 = .ok (.iload_n 1, 1) := by decide +kernel
theorem dX2_isSame_26 : decode cX2_isSame 26 = .ok (.laload, 1) := by decide +kernel
theorem dX2_isSame_27 : decode cX2_isSame 27 = .ok (.ldiv, 1) := by decide +kernel
theorem dX2_isSame_28 : decode cX2_isSame 28 = .ok (.lcmp, 1) := by decide +kernel
theorem dX2_isSame_29 : decode cX2_isSame 29 = .ok (.ifCond .ne 7, 3) := by decide +kernel
theorem dX2_isSame_32 : decode cX2_isSame 32 = .ok (.iconst 1, 1) := by decide +kernel
theorem dX2_isSame_33 : decode cX2_isSame 33 = .ok (.goto 4, 3) := by decide +kernel
theorem dX2_isSame_36 : decode cX2_isSame 36 = .ok (.iconst 0, 1) := by decide +kernel
theorem dX2_isSame_37 : decode cX2_isSame 37 = .ok (.ireturn, 1) := by decide +kernel
set_option maxRecDepth 20000 in
theorem ggX2_all_X2_isSame : GoodIn wsX2_all wsX2_isSame := goodIn_r _ [6, 7, 8, 9, 10, 11, 12, 13, 14] (by decide +kernel) (by decide +kernel)
set_option maxRecDepth 20000 in
theorem gX2_all_X2_isSame : GoodIn wsX2_all (wsV RX2 35 RX2 yX2_isSame wsX2_isSame) := goodIn_app (goodIn_of _ (by decide +kernel)) ggX2_all_X2_isSame
theorem dX2_all_0 : decode cX2_all 0 = .ok (.iconst 0, 1) := by decide +kernel
theorem dX2_all_1 : decode cX2_all 1 = .ok (.istore_n 2, 1) := by decide +kernel
theorem dX2_all_2 : decode cX2_all 2 = .ok (.iconst 0, 1) := by decide +kernel
theorem dX2_all_3 : decode cX2_all 3 = .ok (.istore_n 3, 1) := by decide +kernel
theorem dX2_all_4 : decode cX2_all 4 = .ok (.iload_n 3, 1) := by decide +kernel
theorem dX2_all_5 : decode cX2_all 5 = .ok (.aload_n 0, 1) := by decide +kernel
theorem dX2_all_6 : decode cX2_all 6 = .ok (.getfield 32, 3) := by decide +kernel
theorem dX2_all_9 : decode cX2_all 9 = .ok (.if_icmp .ge 33, 3) := by decide +kernel
theorem dX2_all_12 : decode cX2_all 12 = .ok (.iload_n 3, 1) := by decide +kernel
theorem dX2_all_13 : decode cX2_all 13 = .ok (.ifCond .eq 15, 3) := by decide +kernel
theorem dX2_all_16 : decode cX2_all 16 = .ok (.aload_n 0, 1) := by decide +kernel
theorem dX2_all_17 : decode cX2_all 17 = .ok (.iload_n 1, 1) := by decide +kernel
theorem dX2_all_18 : decode cX2_all 18 = .ok (.iload_n 3, 1) := by decide +kernel
theorem dX2_all_19 : decode cX2_all 19 = .ok (.iconst 1, 1) := by decide +kernel
theorem dX2_all_20 : decode cX2_all 20 = .ok (.isub, 1) := by decide +kernel
theorem dX2_all_21 : decode cX2_all 21 = .ok (.iload_n 3, 1) := by decide +kernel
theorem dX2_all_22 : decode cX2_all 22 = .ok (.invokevirtual 35, 3) := by decide +kernel
theorem dX2_all_25 : decode cX2_all 25 = .ok (.ifCond .ne 9, 3) := by decide +kernel
theorem dX2_all_28 : decode cX2_all 28 = .ok (.iload_n 2, 1) := by decide +kernel
theorem dX2_all_29 : decode cX2_all 29 = .ok (.iconst 1, 1) := by decide +kernel
theorem dX2_all_30 : decode cX2_all 30 = .ok (.iadd, 1) := by decide +kernel
theorem dX2_all_31 : decode cX2_all 31 = .ok (.goto 4, 3) := by decide +kernel
theorem dX2_all_34 : decode cX2_all 34 = .ok (.iload_n 2, 1) := by decide +kernel
theorem dX2_all_35 : decode cX2_all 35 = .ok (.istore_n 2, 1) := by decide +kernel
theorem dX2_all_36 : decode cX2_all 36 = .ok (.iinc 3 1, 3) := by decide +kernel
theorem dX2_all_39 : decode cX2_all 39 = .ok (.goto (-35), 3) := by decide +kernel
theorem dX2_all_42 : decode cX2_all 42 = .ok (.iload_n 2, 1) := by decide +kernel
theorem dX2_all_43 : decode cX2_all 43 = .ok (.ireturn, 1) := by decide +kernel
set_option maxRecDepth 20000 in
theorem ggX2_kept_X2_all : GoodIn wsX2_kept wsX2_all := goodIn_r _ [7, 1, 8, 9, 10, 6, 11, 12, 13, 14, 15, 16, 17, 18, 19] (by decide +kernel) (by decide +kernel)
set_option maxRecDepth 20000 in
theorem gX2_kept_X2_all : GoodIn wsX2_kept (wsV RX2 39 RX2 yX2_all wsX2_all) := goodIn_app (goodIn_of _ (by decide +kernel)) ggX2_kept_X2_all
theorem dX2_kept_0 : decode cX2_kept 0 = .ok (.iload_n 1, 1) := by decide +kernel
theorem dX2_kept_1 : decode cX2_kept 1 = .ok (.ifCond .ne 10, 3) := by decide +kernel
theorem dX2_kept_4 : decode cX2_kept 4 = .ok (.aload_n 0, 1) := by decide +kernel
theorem dX2_kept_5 : decode cX2_kept 5 = .ok (.getfield 32, 3) := by decide +kernel
theorem dX2_kept_8 : decode cX2_kept 8 = .ok (.goto 8, 3) := by decide +kernel
theorem dX2_kept_11 : decode cX2_kept 11 = .ok (.aload_n 0, 1) := by decide +kernel
theorem dX2_kept_12 : decode cX2_kept 12 = .ok (.iload_n 1, 1) := by decide +kernel
theorem dX2_kept_13 : decode cX2_kept 13 = .ok (.invokevirtual 39, 3) := by decide +kernel
theorem dX2_kept_16 : decode cX2_kept 16 = .ok (.istore_n 2, 1) := by decide +kernel
theorem dX2_kept_17 : decode cX2_kept 17 = .ok (.iload_n 2, 1) := by decide +kernel
theorem dX2_kept_18 : decode cX2_kept 18 = .ok (.aload_n 0, 1) := by decide +kernel
theorem dX2_kept_19 : decode cX2_kept 19 = .ok (.getfield 7, 3) := by decide +kernel
theorem dX2_kept_22 : decode cX2_kept 22 = .ok (.iload_n 1, 1) := by decide +kernel
theorem dX2_kept_23 : decode cX2_kept 23 = .ok (.iaload, 1) := by decide +kernel
theorem dX2_kept_24 : decode cX2_kept 24 = .ok (.if_icmp .ge 7, 3) := by decide +kernel
theorem dX2_kept_27 : decode cX2_kept 27 = .ok (.iload_n 2, 1) := by decide +kernel
theorem dX2_kept_28 : decode cX2_kept 28 = .ok (.goto 9, 3) := by decide +kernel
theorem dX2_kept_31 : decode cX2_kept 31 = .ok (.aload_n 0, 1) := by decide +kernel
theorem dX2_kept_32 : decode cX2_kept 32 = .ok (.getfield 7, 3) := by decide +kernel
theorem dX2_kept_35 : decode cX2_kept 35 = .ok (.iload_n 1, 1) := by decide +kernel
theorem dX2_kept_36 : decode cX2_kept 36 = .ok (.iaload, 1) := by decide +kernel
theorem dX2_kept_37 : decode cX2_kept 37 = .ok (.ireturn, 1) := by decide +kernel
set_option maxRecDepth 20000 in
theorem ggX2_first_X2_all : GoodIn wsX2_first wsX2_all := goodIn_r _ [5, 6, 7, 8, 9, 4, 10, 11, 12, 18, 19, 20, 21, 22, 23] (by decide +kernel) (by decide +kernel)
set_option maxRecDepth 20000 in
theorem gX2_first_X2_all : GoodIn wsX2_first (wsV RX2 39 RX2 yX2_all wsX2_all) := goodIn_app (goodIn_of _ (by decide +kernel)) ggX2_first_X2_all
set_option maxRecDepth 20000 in
theorem ggX2_first_X2_kept : GoodIn wsX2_first wsX2_kept := goodIn_r _ [16, 6, 17, 1, 2, 3, 4, 5, 7, 8, 9, 10, 11, 12, 18, 19, 20, 21, 22, 23] (by decide +kernel) (by decide +kernel)
set_option maxRecDepth 20000 in
theorem gX2_first_X2_kept : GoodIn wsX2_first (wsV RX2 43 RX2 yX2_kept wsX2_kept) := goodIn_app (goodIn_of _ (by decide +kernel)) ggX2_first_X2_kept
set_option maxRecDepth 20000 in
theorem ggX2_first_X2_isSame : GoodIn wsX2_first wsX2_isSame := goodIn_r _ [10, 11, 12, 18, 19, 20, 21, 22, 23] (by decide +kernel) (by decide +kernel)
set_option maxRecDepth 20000 in
theorem gX2_first_X2_isSame : GoodIn wsX2_first (wsV RX2 35 RX2 yX2_isSame wsX2_isSame) := goodIn_app (goodIn_of _ (by decide +kernel)) ggX2_first_X2_isSame
theorem dX2_first_0 : decode cX2_first 0 = .ok (.aload_n 0, 1) := by decide +kernel
theorem dX2_first_1 : decode cX2_first 1 = .ok (.iload_n 1, 1) := by decide +kernel
theorem dX2_first_2 : decode cX2_first 2 = .ok (.invokevirtual 39, 3) := by decide +kernel
theorem dX2_first_5 : decode cX2_first 5 = .ok (.aload_n 0, 1) := by decide +kernel
theorem dX2_first_6 : decode cX2_first 6 = .ok (.iload_n 1, 1) := by decide +kernel
theorem dX2_first_7 : decode cX2_first 7 = .ok (.invokevirtual 43, 3) := by decide +kernel
theorem dX2_first_10 : decode cX2_first 10 = .ok (.isub, 1) := by decide +kernel
theorem dX2_first_11 : decode cX2_first 11 = .ok (.iload_n 2, 1) := by decide +kernel
theorem dX2_first_12 : decode cX2_first 12 = .ok (.iadd, 1) := by decide +kernel
theorem dX2_first_13 : decode cX2_first 13 = .ok (.istore_n 3, 1) := by decide +kernel
theorem dX2_first_14 : decode cX2_first 14 = .ok (.iconst (-1), 1) := by decide +kernel
theorem dX2_first_15 : decode cX2_first 15 = .ok (.istore 4, 2) := by decide +kernel
theorem dX2_first_17 : decode cX2_first 17 = .ok (.iconst (-1), 1) := by decide +kernel
theorem dX2_first_18 : decode cX2_first 18 = .ok (.istore 5, 2) := by decide +kernel
theorem dX2_first_20 : decode cX2_first 20 = .ok (.iload 4, 2) := by decide +kernel
theorem dX2_first_22 : decode cX2_first 22 = .ok (.iload_n 3, 1) := by decide +kernel
theorem dX2_first_23 : decode cX2_first 23 = .ok (.if_icmp .ge 39, 3) := by decide +kernel
theorem dX2_first_26 : decode cX2_first 26 = .ok (.iinc 5 1, 3) := by decide +kernel
theorem dX2_first_29 : decode cX2_first 29 = .ok (.iload 5, 2) := by decide +kernel
theorem dX2_first_31 : decode cX2_first 31 = .ok (.ifCond .eq 17, 3) := by decide +kernel
theorem dX2_first_34 : decode cX2_first 34 = .ok (.aload_n 0, 1) := by decide +kernel
theorem dX2_first_35 : decode cX2_first 35 = .ok (.iload_n 1, 1) := by decide +kernel
theorem dX2_first_36 : decode cX2_first 36 = .ok (.iload 5, 2) := by decide +kernel
theorem dX2_first_38 : decode cX2_first 38 = .ok (.iconst 1, 1) := by decide +kernel
theorem dX2_first_39 : decode cX2_first 39 = .ok (.isub, 1) := by decide +kernel
theorem dX2_first_40 : decode cX2_first 40 = .ok (.iload 5, 2) := by decide +kernel
theorem dX2_first_42 : decode cX2_first 42 = .ok (.invokevirtual 35, 3) := by decide +kernel
theorem dX2_first_45 : decode cX2_first 45 = .ok (.ifCond .ne 10, 3) := by decide +kernel
theorem dX2_first_48 : decode cX2_first 48 = .ok (.iload 4, 2) := by decide +kernel
theorem dX2_first_50 : decode cX2_first 50 = .ok (.iconst 1, 1) := by decide +kernel
theorem dX2_first_51 : decode cX2_first 51 = .ok (.iadd, 1) := by decide +kernel
theorem dX2_first_52 : decode cX2_first 52 = .ok (.goto 5, 3) := by decide +kernel
theorem dX2_first_55 : decode cX2_first 55 = .ok (.iload 4, 2) := by decide +kernel
theorem dX2_first_57 : decode cX2_first 57 = .ok (.istore 4, 2) := by decide +kernel
theorem dX2_first_59 : decode cX2_first 59 = .ok (.goto (-39), 3) := by decide +kernel
theorem dX2_first_62 : decode cX2_first 62 = .ok (.iload 5, 2) := by decide +kernel
theorem dX2_first_64 : decode cX2_first 64 = .ok (.ireturn, 1) := by decide +kernel
set_option maxRecDepth 20000 in
theorem ggX2_isEntry_X2_kept : GoodIn wsX2_isEntry wsX2_kept := goodIn_r _ [5, 6, 7, 8, 9, 10, 4, 11, 12, 13, 14, 15, 16, 17, 18, 19, 20, 21, 22, 23] (by decide +kernel) (by decide +kernel)
set_option maxRecDepth 20000 in
theorem gX2_isEntry_X2_kept : GoodIn wsX2_isEntry (wsV RX2 43 RX2 yX2_kept wsX2_kept) := goodIn_app (goodIn_of _ (by decide +kernel)) ggX2_isEntry_X2_kept
theorem dX2_isEntry_0 : decode cX2_isEntry 0 = .ok (.iload_n 1, 1) := by decide +kernel
theorem dX2_isEntry_1 : decode cX2_isEntry 1 = .ok (.ifCond .lt 25, 3) := by decide +kernel
theorem dX2_isEntry_4 : decode cX2_isEntry 4 = .ok (.iload_n 1, 1) := by decide +kernel
theorem dX2_isEntry_5 : decode cX2_isEntry 5 = .ok (.iconst 2, 1) := by decide +kernel
theorem dX2_isEntry_6 : decode cX2_isEntry 6 = .ok (.if_icmp .gt 20, 3) := by decide +kernel
theorem dX2_isEntry_9 : decode cX2_isEntry 9 = .ok (.iload_n 2, 1) := by decide +kernel
theorem dX2_isEntry_10 : decode cX2_isEntry 10 = .ok (.ifCond .lt 16, 3) := by decide +kernel
theorem dX2_isEntry_13 : decode cX2_isEntry 13 = .ok (.iload_n 2, 1) := by decide +kernel
theorem dX2_isEntry_14 : decode cX2_isEntry 14 = .ok (.aload_n 0, 1) := by decide +kernel
theorem dX2_isEntry_15 : decode cX2_isEntry 15 = .ok (.iload_n 1, 1) := by decide +kernel
theorem dX2_isEntry_16 : decode cX2_isEntry 16 = .ok (.invokevirtual 43, 3) := by decide +kernel
theorem dX2_isEntry_19 : decode cX2_isEntry 19 = .ok (.if_icmp .ge 7, 3) := by decide +kernel
theorem dX2_isEntry_22 : decode cX2_isEntry 22 = .ok (.iconst 1, 1) := by decide +kernel
theorem dX2_isEntry_23 : decode cX2_isEntry 23 = .ok (.goto 4, 3) := by decide +kernel
theorem dX2_isEntry_26 : decode cX2_isEntry 26 = .ok (.iconst 0, 1) := by decide +kernel
theorem dX2_isEntry_27 : decode cX2_isEntry 27 = .ok (.ireturn, 1) := by decide +kernel
set_option maxRecDepth 20000 in
theorem ggX2_count_X2_kept : GoodIn wsX2_count wsX2_kept := goodIn_r _ [5, 6, 7, 8, 9, 10, 4, 11, 12, 13, 14, 15, 16, 17, 18, 19, 20, 21, 22, 23] (by decide +kernel) (by decide +kernel)
set_option maxRecDepth 20000 in
theorem gX2_count_X2_kept : GoodIn wsX2_count (wsV RX2 43 RX2 yX2_kept wsX2_kept) := goodIn_app (goodIn_of _ (by decide +kernel)) ggX2_count_X2_kept
theorem dX2_count_0 : decode cX2_count 0 = .ok (.iload_n 1, 1) := by decide +kernel
theorem dX2_count_1 : decode cX2_count 1 = .ok (.ifCond .lt 16, 3) := by decide +kernel
theorem dX2_count_4 : decode cX2_count 4 = .ok (.iload_n 1, 1) := by decide +kernel
theorem dX2_count_5 : decode cX2_count 5 = .ok (.iconst 2, 1) := by decide +kernel
theorem dX2_count_6 : decode cX2_count 6 = .ok (.if_icmp .gt 11, 3) := by decide +kernel
theorem dX2_count_9 : decode cX2_count 9 = .ok (.aload_n 0, 1) := by decide +kernel
theorem dX2_count_10 : decode cX2_count 10 = .ok (.iload_n 1, 1) := by decide +kernel
theorem dX2_count_11 : decode cX2_count 11 = .ok (.invokevirtual 43, 3) := by decide +kernel
theorem dX2_count_14 : decode cX2_count 14 = .ok (.goto 4, 3) := by decide +kernel
theorem dX2_count_17 : decode cX2_count 17 = .ok (.iconst (-1), 1) := by decide +kernel
theorem dX2_count_18 : decode cX2_count 18 = .ok (.ireturn, 1) := by decide +kernel
set_option maxRecDepth 20000 in
theorem ggX2_begin_X2_first : GoodIn wsX2_begin wsX2_first := goodIn_r _ [7, 8, 9, 10, 6, 11, 12, 13, 14, 15, 16, 1, 2, 17, 18, 19, 20, 21, 22, 23, 24, 25, 26, 27] (by decide +kernel) (by decide +kernel)
set_option maxRecDepth 20000 in
theorem gX2_begin_X2_first : GoodIn wsX2_begin (wsV RX2 46 RX2 yX2_first wsX2_first) := goodIn_app (goodIn_of _ (by decide +kernel)) ggX2_begin_X2_first
theorem dX2_begin_0 : decode cX2_begin 0 = .ok (.aload_n 0, 1) := by decide +kernel
theorem dX2_begin_1 : decode cX2_begin 1 = .ok (.getfield 17, 3) := by decide +kernel
theorem dX2_begin_4 : decode cX2_begin 4 = .ok (.aload_n 0, 1) := by decide +kernel
theorem dX2_begin_5 : decode cX2_begin 5 = .ok (.iload_n 1, 1) := by decide +kernel
theorem dX2_begin_6 : decode cX2_begin 6 = .ok (.iload_n 2, 1) := by decide +kernel
theorem dX2_begin_7 : decode cX2_begin 7 = .ok (.invokevirtual 46, 3) := by decide +kernel
theorem dX2_begin_10 : decode cX2_begin 10 = .ok (.iaload, 1) := by decide +kernel
theorem dX2_begin_11 : decode cX2_begin 11 = .ok (.i2l, 1) := by decide +kernel
theorem dX2_begin_12 : decode cX2_begin 12 = .ok (.lstore_n 3, 1) := by decide +kernel
theorem dX2_begin_13 : decode cX2_begin 13 = .ok (.lload_n 3, 1) := by decide +kernel
theorem dX2_begin_14 : decode cX2_begin 14 = .ok (.aload_n 0, 1) := by decide +kernel
theorem dX2_begin_15 : decode cX2_begin 15 = .ok (.getfield 13, 3) := by decide +kernel
theorem dX2_begin_18 : decode cX2_begin 18 = .ok (.iload_n 1, 1) := by decide +kernel
theorem dX2_begin_19 : decode cX2_begin 19 = .ok (.laload, 1) := by decide +kernel
theorem dX2_begin_20 : decode cX2_begin 20 = .ok (.ldiv, 1) := by decide +kernel
theorem dX2_begin_21 : decode cX2_begin 21 = .ok (.aload_n 0, 1) := by decide +kernel
theorem dX2_begin_22 : decode cX2_begin 22 = .ok (.getfield 13, 3) := by decide +kernel
theorem dX2_begin_25 : decode cX2_begin 25 = .ok (.iload_n 1, 1) := by decide +kernel
theorem dX2_begin_26 : decode cX2_begin 26 = .ok (.laload, 1) := by decide +kernel
theorem dX2_begin_27 : decode cX2_begin 27 = .ok (.lmul, 1) := by decide +kernel
theorem dX2_begin_28 : decode cX2_begin 28 = .ok (.lreturn, 1) := by decide +kernel
set_option maxRecDepth 20000 in
theorem ggX2_start_X2_isEntry : GoodIn wsX2_start wsX2_isEntry := goodIn_r _ [5, 6, 7, 8, 4, 9, 10, 11, 12, 13, 14, 15, 16, 17, 18, 19, 20, 21, 30, 31, 32, 33, 34, 35] (by decide +kernel) (by decide +kernel)
set_option maxRecDepth 20000 in
theorem gX2_start_X2_isEntry : GoodIn wsX2_start (wsV RX2 50 RX2 yX2_isEntry wsX2_isEntry) := goodIn_app (goodIn_of _ (by decide +kernel)) ggX2_start_X2_isEntry
set_option maxRecDepth 20000 in
theorem ggX2_start_X2_begin : GoodIn wsX2_start wsX2_begin := goodIn_r _ [25, 20, 21, 26, 27, 28, 4, 29, 12, 13, 14, 15, 10, 16, 17, 18, 19, 6, 7, 8, 9, 11, 30, 31, 32, 33, 34, 35] (by decide +kernel) (by decide +kernel)
set_option maxRecDepth 20000 in
theorem gX2_start_X2_begin : GoodIn wsX2_start (wsV RX2 54 RX2 yX2_begin wsX2_begin) := goodIn_app (goodIn_of _ (by decide +kernel)) ggX2_start_X2_begin
theorem dX2_start_0 : decode cX2_start 0 = .ok (.aload_n 0, 1) := by decide +kernel
theorem dX2_start_1 : decode cX2_start 1 = .ok (.iload_n 1, 1) := by decide +kernel
theorem dX2_start_2 : decode cX2_start 2 = .ok (.iload_n 2, 1) := by decide +kernel
theorem dX2_start_3 : decode cX2_start 3 = .ok (.invokevirtual 50, 3) := by decide +kernel
theorem dX2_start_6 : decode cX2_start 6 = .ok (.ifCond .eq 13, 3) := by decide +kernel
theorem dX2_start_9 : decode cX2_start 9 = .ok (.aload_n 0, 1) := by decide +kernel
theorem dX2_start_10 : decode cX2_start 10 = .ok (.iload_n 1, 1) := by decide +kernel
theorem dX2_start_11 : decode cX2_start 11 = .ok (.iload_n 2, 1) := by decide +kernel
theorem dX2_start_12 : decode cX2_start 12 = .ok (.invokevirtual 54, 3) := by decide +kernel
theorem dX2_start_15 : decode cX2_start 15 = .ok (.l2i, 1) := by decide +kernel
theorem dX2_start_16 : decode cX2_start 16 = .ok (.goto 4, 3) := by decide +kernel
theorem dX2_start_19 : decode cX2_start 19 = .ok (.iconst (-1), 1) := by decide +kernel
theorem dX2_start_20 : decode cX2_start 20 = .ok (.ireturn, 1) := by decide +kernel
set_option maxRecDepth 20000 in
theorem ggX2_figure_X2_isEntry : GoodIn wsX2_figure wsX2_isEntry := goodIn_r _ [7, 8, 9, 10, 6, 11, 2, 12, 13, 14, 15, 16, 17, 18, 19, 20, 21, 22, 27, 28, 29, 30, 31, 32] (by decide +kernel) (by decide +kernel)
set_option maxRecDepth 20000 in
theorem gX2_figure_X2_isEntry : GoodIn wsX2_figure (wsV RX2 50 RX2 yX2_isEntry wsX2_isEntry) := goodIn_app (goodIn_of _ (by decide +kernel)) ggX2_figure_X2_isEntry
set_option maxRecDepth 20000 in
theorem ggX2_figure_X2_first : GoodIn wsX2_figure wsX2_first := goodIn_r _ [26, 13, 14, 15, 6, 16, 2, 17, 18, 19, 20, 21, 22, 8, 9, 10, 11, 12, 27, 28, 29, 30, 31, 32] (by decide +kernel) (by decide +kernel)
set_option maxRecDepth 20000 in
theorem gX2_figure_X2_first : GoodIn wsX2_figure (wsV RX2 46 RX2 yX2_first wsX2_first) := goodIn_app (goodIn_of _ (by decide +kernel)) ggX2_figure_X2_first
set_option maxRecDepth 20000 in
theorem ggX2_figure_X2_isSame : GoodIn wsX2_figure wsX2_isSame := goodIn_r _ [20, 21, 22, 27, 28, 29, 30, 31, 32] (by decide +kernel) (by decide +kernel)
set_option maxRecDepth 20000 in
theorem gX2_figure_X2_isSame : GoodIn wsX2_figure (wsV RX2 35 RX2 yX2_isSame wsX2_isSame) := goodIn_app (goodIn_of _ (by decide +kernel)) ggX2_figure_X2_isSame
theorem dX2_figure_0 : decode cX2_figure 0 = .ok (.aload_n 0, 1) := by decide +kernel
theorem dX2_figure_1 : decode cX2_figure 1 = .ok (.iload_n 1, 1) := by decide +kernel
theorem dX2_figure_2 : decode cX2_figure 2 = .ok (.iload_n 2, 1) := by decide +kernel
theorem dX2_figure_3 : decode cX2_figure 3 = .ok (.invokevirtual 50, 3) := by decide +kernel
theorem dX2_figure_6 : decode cX2_figure 6 = .ok (.ifCond .ne 5, 3) := by decide +kernel
theorem dX2_figure_9 : decode cX2_figure 9 = .ok (.iconst 0, 1) := by decide +kernel
theorem dX2_figure_10 : decode cX2_figure 10 = .ok (.ireturn, 1) := by decide +kernel
theorem dX2_figure_11 : decode cX2_figure 11 = .ok (.aload_n 0, 1) := by decide +kernel
theorem dX2_figure_12 : decode cX2_figure 12 = .ok (.iload_n 1, 1) := by decide +kernel
theorem dX2_figure_13 : decode cX2_figure 13 = .ok (.iload_n 2, 1) := by decide +kernel
theorem dX2_figure_14 : decode cX2_figure 14 = .ok (.invokevirtual 46, 3) := by decide +kernel
theorem dX2_figure_17 : decode cX2_figure 17 = .ok (.istore 4, 2) := by decide +kernel
theorem dX2_figure_19 : decode cX2_figure 19 = .ok (.aload_n 0, 1) := by decide +kernel
theorem dX2_figure_20 : decode cX2_figure 20 = .ok (.getfield 20, 3) := by decide +kernel
theorem dX2_figure_23 : decode cX2_figure 23 = .ok (.iload 4, 2) := by decide +kernel
theorem dX2_figure_25 : decode cX2_figure 25 = .ok (.iaload, 1) := by decide +kernel
theorem dX2_figure_26 : decode cX2_figure 26 = .ok (.istore 5, 2) := by decide +kernel
theorem dX2_figure_28 : decode cX2_figure 28 = .ok (.aload_n 0, 1) := by decide +kernel
theorem dX2_figure_29 : decode cX2_figure 29 = .ok (.getfield 20, 3) := by decide +kernel
theorem dX2_figure_32 : decode cX2_figure 32 = .ok (.iload 4, 2) := by decide +kernel
theorem dX2_figure_34 : decode cX2_figure 34 = .ok (.iaload, 1) := by decide +kernel
theorem dX2_figure_35 : decode cX2_figure 35 = .ok (.istore 6, 2) := by decide +kernel
theorem dX2_figure_37 : decode cX2_figure 37 = .ok (.iconst 0, 1) := by decide +kernel
theorem dX2_figure_38 : decode cX2_figure 38 = .ok (.istore 7, 2) := by decide +kernel
theorem dX2_figure_40 : decode cX2_figure 40 = .ok (.iconst 0, 1) := by decide +kernel
theorem dX2_figure_41 : decode cX2_figure 41 = .ok (.istore 8, 2) := by decide +kernel
theorem dX2_figure_43 : decode cX2_figure 43 = .ok (.iload 4, 2) := by decide +kernel
theorem dX2_figure_45 : decode cX2_figure 45 = .ok (.istore 9, 2) := by decide +kernel
theorem dX2_figure_47 : decode cX2_figure 47 = .ok (.iload 9, 2) := by decide +kernel
theorem dX2_figure_49 : decode cX2_figure 49 = .ok (.aload_n 0, 1) := by decide +kernel
theorem dX2_figure_50 : decode cX2_figure 50 = .ok (.getfield 32, 3) := by decide +kernel
theorem dX2_figure_53 : decode cX2_figure 53 = .ok (.if_icmp .ge 88, 3) := by decide +kernel
theorem dX2_figure_56 : decode cX2_figure 56 = .ok (.aload_n 0, 1) := by decide +kernel
theorem dX2_figure_57 : decode cX2_figure 57 = .ok (.iload_n 1, 1) := by decide +kernel
theorem dX2_figure_58 : decode cX2_figure 58 = .ok (.iload 4, 2) := by decide +kernel
theorem dX2_figure_60 : decode cX2_figure 60 = .ok (.iload 9, 2) := by decide +kernel
theorem dX2_figure_62 : decode cX2_figure 62 = .ok (.invokevirtual 35, 3) := by decide +kernel
theorem dX2_figure_65 : decode cX2_figure 65 = .ok (.ifCond .eq 76, 3) := by decide +kernel
theorem dX2_figure_68 : decode cX2_figure 68 = .ok (.aload_n 0, 1) := by decide +kernel
theorem dX2_figure_69 : decode cX2_figure 69 = .ok (.getfield 20, 3) := by decide +kernel
theorem dX2_figure_72 : decode cX2_figure 72 = .ok (.iload 9, 2) := by decide +kernel
theorem dX2_figure_74 : decode cX2_figure 74 = .ok (.iaload, 1) := by decide +kernel
theorem dX2_figure_75 : decode cX2_figure 75 = .ok (.iload 5, 2) := by decide +kernel
theorem dX2_figure_77 : decode cX2_figure 77 = .ok (.if_icmp .ge 13, 3) := by decide +kernel
theorem dX2_figure_80 : decode cX2_figure 80 = .ok (.aload_n 0, 1) := by decide +kernel
theorem dX2_figure_81 : decode cX2_figure 81 = .ok (.getfield 20, 3) := by decide +kernel
theorem dX2_figure_84 : decode cX2_figure 84 = .ok (.iload 9, 2) := by decide +kernel
theorem dX2_figure_86 : decode cX2_figure 86 = .ok (.iaload, 1) := by decide +kernel
theorem dX2_figure_87 : decode cX2_figure 87 = .ok (.goto 5, 3) := by decide +kernel
theorem dX2_figure_90 : decode cX2_figure 90 = .ok (.iload 5, 2) := by decide +kernel
theorem dX2_figure_92 : decode cX2_figure 92 = .ok (.istore 5, 2) := by decide +kernel
theorem dX2_figure_94 : decode cX2_figure 94 = .ok (.aload_n 0, 1) := by decide +kernel
theorem dX2_figure_95 : decode cX2_figure 95 = .ok (.getfield 20, 3) := by decide +kernel
theorem dX2_figure_98 : decode cX2_figure 98 = .ok (.iload 9, 2) := by decide +kernel
theorem dX2_figure_100 : decode cX2_figure 100 = .ok (.iaload, 1) := by decide +kernel
theorem dX2_figure_101 : decode cX2_figure 101 = .ok (.iload 6, 2) := by decide +kernel
theorem dX2_figure_103 : decode cX2_figure 103 = .ok (.if_icmp .le 13, 3) := by decide +kernel
theorem dX2_figure_106 : decode cX2_figure 106 = .ok (.aload_n 0, 1) := by decide +kernel
theorem dX2_figure_107 : decode cX2_figure 107 = .ok (.getfield 20, 3) := by decide +kernel
theorem dX2_figure_110 : decode cX2_figure 110 = .ok (.iload 9, 2) := by decide +kernel
theorem dX2_figure_112 : decode cX2_figure 112 = .ok (.iaload, 1) := by decide +kernel
theorem dX2_figure_113 : decode cX2_figure 113 = .ok (.goto 5, 3) := by decide +kernel
theorem dX2_figure_116 : decode cX2_figure 116 = .ok (.iload 6, 2) := by decide +kernel
theorem dX2_figure_118 : decode cX2_figure 118 = .ok (.istore 6, 2) := by decide +kernel
theorem dX2_figure_120 : decode cX2_figure 120 = .ok (.iload 7, 2) := by decide +kernel
theorem dX2_figure_122 : decode cX2_figure 122 = .ok (.aload_n 0, 1) := by decide +kernel
theorem dX2_figure_123 : decode cX2_figure 123 = .ok (.getfield 20, 3) := by decide +kernel
theorem dX2_figure_126 : decode cX2_figure 126 = .ok (.iload 9, 2) := by decide +kernel
theorem dX2_figure_128 : decode cX2_figure 128 = .ok (.iaload, 1) := by decide +kernel
theorem dX2_figure_129 : decode cX2_figure 129 = .ok (.iadd, 1) := by decide +kernel
theorem dX2_figure_130 : decode cX2_figure 130 = .ok (.istore 7, 2) := by decide +kernel
theorem dX2_figure_132 : decode cX2_figure 132 = .ok (.iinc 8 1, 3) := by decide +kernel
theorem dX2_figure_135 : decode cX2_figure 135 = .ok (.iinc 9 1, 3) := by decide +kernel
theorem dX2_figure_138 : decode cX2_figure 138 = .ok (.goto (-91), 3) := by decide +kernel
theorem dX2_figure_141 : decode cX2_figure 141 = .ok (.iload_n 3, 1) := by decide +kernel
theorem dX2_figure_142 : decode cX2_figure 142 = .ok (.ifCond .ne 8, 3) := by decide +kernel
theorem dX2_figure_145 : decode cX2_figure 145 = .ok (.iload 5, 2) := by decide +kernel
theorem dX2_figure_147 : decode cX2_figure 147 = .ok (.goto 34, 3) := by decide +kernel
theorem dX2_figure_150 : decode cX2_figure 150 = .ok (.iload_n 3, 1) := by decide +kernel
theorem dX2_figure_151 : decode cX2_figure 151 = .ok (.iconst 1, 1) := by decide +kernel
theorem dX2_figure_152 : decode cX2_figure 152 = .ok (.if_icmp .ne 8, 3) := by decide +kernel
theorem dX2_figure_155 : decode cX2_figure 155 = .ok (.iload 6, 2) := by decide +kernel
theorem dX2_figure_157 : decode cX2_figure 157 = .ok (.goto 24, 3) := by decide +kernel
theorem dX2_figure_160 : decode cX2_figure 160 = .ok (.iload_n 3, 1) := by decide +kernel
theorem dX2_figure_161 : decode cX2_figure 161 = .ok (.iconst 2, 1) := by decide +kernel
theorem dX2_figure_162 : decode cX2_figure 162 = .ok (.if_icmp .ne 8, 3) := by decide +kernel
theorem dX2_figure_165 : decode cX2_figure 165 = .ok (.iload 7, 2) := by decide +kernel
theorem dX2_figure_167 : decode cX2_figure 167 = .ok (.goto 14, 3) := by decide +kernel
theorem dX2_figure_170 : decode cX2_figure 170 = .ok (.iload_n 3, 1) := by decide +kernel
theorem dX2_figure_171 : decode cX2_figure 171 = .ok (.iconst 3, 1) := by decide +kernel
theorem dX2_figure_172 : decode cX2_figure 172 = .ok (.if_icmp .ne 8, 3) := by decide +kernel
theorem dX2_figure_175 : decode cX2_figure 175 = .ok (.iload 8, 2) := by decide +kernel
theorem dX2_figure_177 : decode cX2_figure 177 = .ok (.goto 4, 3) := by decide +kernel
theorem dX2_figure_180 : decode cX2_figure 180 = .ok (.iconst 0, 1) := by decide +kernel
theorem dX2_figure_181 : decode cX2_figure 181 = .ok (.ireturn, 1) := by decide +kernel
set_option maxRecDepth 20000 in
theorem ggX2_isIn_X2_kept : GoodIn wsX2_isIn wsX2_kept := goodIn_r _ [7, 1, 8, 9, 10, 11, 6, 12, 13, 14, 15, 16, 2, 17, 18, 19, 20, 21, 22, 23] (by decide +kernel) (by decide +kernel)
set_option maxRecDepth 20000 in
theorem gX2_isIn_X2_kept : GoodIn wsX2_isIn (wsV RX2 43 RX2 yX2_kept wsX2_kept) := goodIn_app (goodIn_of _ (by decide +kernel)) ggX2_isIn_X2_kept
theorem dX2_isIn_0 : decode cX2_isIn 0 = .ok (.iload_n 1, 1) := by decide +kernel
theorem dX2_isIn_1 : decode cX2_isIn 1 = .ok (.aload_n 0, 1) := by decide +kernel
theorem dX2_isIn_2 : decode cX2_isIn 2 = .ok (.getfield 32, 3) := by decide +kernel
theorem dX2_isIn_5 : decode cX2_isIn 5 = .ok (.aload_n 0, 1) := by decide +kernel
theorem dX2_isIn_6 : decode cX2_isIn 6 = .ok (.iconst 0, 1) := by decide +kernel
theorem dX2_isIn_7 : decode cX2_isIn 7 = .ok (.invokevirtual 43, 3) := by decide +kernel
theorem dX2_isIn_10 : decode cX2_isIn 10 = .ok (.isub, 1) := by decide +kernel
theorem dX2_isIn_11 : decode cX2_isIn 11 = .ok (.if_icmp .lt 35, 3) := by decide +kernel
theorem dX2_isIn_14 : decode cX2_isIn 14 = .ok (.iload_n 1, 1) := by decide +kernel
theorem dX2_isIn_15 : decode cX2_isIn 15 = .ok (.aload_n 0, 1) := by decide +kernel
theorem dX2_isIn_16 : decode cX2_isIn 16 = .ok (.getfield 32, 3) := by decide +kernel
theorem dX2_isIn_19 : decode cX2_isIn 19 = .ok (.if_icmp .ge 27, 3) := by decide +kernel
theorem dX2_isIn_22 : decode cX2_isIn 22 = .ok (.aload_n 0, 1) := by decide +kernel
theorem dX2_isIn_23 : decode cX2_isIn 23 = .ok (.getfield 17, 3) := by decide +kernel
theorem dX2_isIn_26 : decode cX2_isIn 26 = .ok (.iload_n 1, 1) := by decide +kernel
theorem dX2_isIn_27 : decode cX2_isIn 27 = .ok (.iaload, 1) := by decide +kernel
theorem dX2_isIn_28 : decode cX2_isIn 28 = .ok (.iload_n 2, 1) := by decide +kernel
theorem dX2_isIn_29 : decode cX2_isIn 29 = .ok (.if_icmp .lt 17, 3) := by decide +kernel
theorem dX2_isIn_32 : decode cX2_isIn 32 = .ok (.aload_n 0, 1) := by decide +kernel
theorem dX2_isIn_33 : decode cX2_isIn 33 = .ok (.getfield 17, 3) := by decide +kernel
theorem dX2_isIn_36 : decode cX2_isIn 36 = .ok (.iload_n 1, 1) := by decide +kernel
theorem dX2_isIn_37 : decode cX2_isIn 37 = .ok (.iaload, 1) := by decide +kernel
theorem dX2_isIn_38 : decode cX2_isIn 38 = .ok (.iload_n 3, 1) := by decide +kernel
theorem dX2_isIn_39 : decode cX2_isIn 39 = .ok (.if_icmp .gt 7, 3) := by decide +kernel
theorem dX2_isIn_42 : decode cX2_isIn 42 = .ok (.iconst 1, 1) := by decide +kernel
theorem dX2_isIn_43 : decode cX2_isIn 43 = .ok (.goto 4, 3) := by decide +kernel
theorem dX2_isIn_46 : decode cX2_isIn 46 = .ok (.iconst 0, 1) := by decide +kernel
theorem dX2_isIn_47 : decode cX2_isIn 47 = .ok (.ireturn, 1) := by decide +kernel
set_option maxRecDepth 20000 in
theorem ggX2_many_X2_isIn : GoodIn wsX2_many wsX2_isIn := goodIn_r _ [6, 1, 7, 8, 9, 10, 5, 11, 12, 13, 14, 15, 16, 17, 18, 19, 20, 21, 22, 23, 24, 25, 26, 27] (by decide +kernel) (by decide +kernel)
set_option maxRecDepth 20000 in
theorem gX2_many_X2_isIn : GoodIn wsX2_many (wsV RX2 58 RX2 yX2_isIn wsX2_isIn) := goodIn_app (goodIn_of _ (by decide +kernel)) ggX2_many_X2_isIn
theorem dX2_many_0 : decode cX2_many 0 = .ok (.iconst 0, 1) := by decide +kernel
theorem dX2_many_1 : decode cX2_many 1 = .ok (.istore_n 3, 1) := by decide +kernel
theorem dX2_many_2 : decode cX2_many 2 = .ok (.iconst 0, 1) := by decide +kernel
theorem dX2_many_3 : decode cX2_many 3 = .ok (.istore 4, 2) := by decide +kernel
theorem dX2_many_5 : decode cX2_many 5 = .ok (.iload 4, 2) := by decide +kernel
theorem dX2_many_7 : decode cX2_many 7 = .ok (.aload_n 0, 1) := by decide +kernel
theorem dX2_many_8 : decode cX2_many 8 = .ok (.getfield 32, 3) := by decide +kernel
theorem dX2_many_11 : decode cX2_many 11 = .ok (.if_icmp .ge 28, 3) := by decide +kernel
theorem dX2_many_14 : decode cX2_many 14 = .ok (.aload_n 0, 1) := by decide +kernel
theorem dX2_many_15 : decode cX2_many 15 = .ok (.iload 4, 2) := by decide +kernel
theorem dX2_many_17 : decode cX2_many 17 = .ok (.iload_n 1, 1) := by decide +kernel
theorem dX2_many_18 : decode cX2_many 18 = .ok (.iload_n 2, 1) := by decide +kernel
theorem dX2_many_19 : decode cX2_many 19 = .ok (.invokevirtual 58, 3) := by decide +kernel
theorem dX2_many_22 : decode cX2_many 22 = .ok (.ifCond .eq 9, 3) := by decide +kernel
theorem dX2_many_25 : decode cX2_many 25 = .ok (.iload_n 3, 1) := by decide +kernel
theorem dX2_many_26 : decode cX2_many 26 = .ok (.iconst 1, 1) := by decide +kernel
theorem dX2_many_27 : decode cX2_many 27 = .ok (.iadd, 1) := by decide +kernel
theorem dX2_many_28 : decode cX2_many 28 = .ok (.goto 4, 3) := by decide +kernel
theorem dX2_many_31 : decode cX2_many 31 = .ok (.iload_n 3, 1) := by decide +kernel
theorem dX2_many_32 : decode cX2_many 32 = .ok (.istore_n 3, 1) := by decide +kernel
theorem dX2_many_33 : decode cX2_many 33 = .ok (.iinc 4 1, 3) := by decide +kernel
theorem dX2_many_36 : decode cX2_many 36 = .ok (.goto (-31), 3) := by decide +kernel
theorem dX2_many_39 : decode cX2_many 39 = .ok (.iload_n 3, 1) := by decide +kernel
theorem dX2_many_40 : decode cX2_many 40 = .ok (.ireturn, 1) := by decide +kernel
set_option maxRecDepth 20000 in
theorem ggX2_extreme_X2_isIn : GoodIn wsX2_extreme wsX2_isIn := goodIn_r _ [7, 1, 8, 9, 10, 11, 6, 12, 13, 14, 15, 16, 17, 18, 19, 20, 21, 22, 23, 24, 25, 26, 27, 28] (by decide +kernel) (by decide +kernel)
set_option maxRecDepth 20000 in
theorem gX2_extreme_X2_isIn : GoodIn wsX2_extreme (wsV RX2 58 RX2 yX2_isIn wsX2_isIn) := goodIn_app (goodIn_of _ (by decide +kernel)) ggX2_extreme_X2_isIn
theorem dX2_extreme_0 : decode cX2_extreme 0 = .ok (.iconst 0, 1) := by decide +kernel
theorem dX2_extreme_1 : decode cX2_extreme 1 = .ok (.istore 4, 2) := by decide +kernel
theorem dX2_extreme_3 : decode cX2_extreme 3 = .ok (.iconst 0, 1) := by decide +kernel
theorem dX2_extreme_4 : decode cX2_extreme 4 = .ok (.istore 5, 2) := by decide +kernel
theorem dX2_extreme_6 : decode cX2_extreme 6 = .ok (.iconst 0, 1) := by decide +kernel
theorem dX2_extreme_7 : decode cX2_extreme 7 = .ok (.istore 6, 2) := by decide +kernel
theorem dX2_extreme_9 : decode cX2_extreme 9 = .ok (.iload 6, 2) := by decide +kernel
theorem dX2_extreme_11 : decode cX2_extreme 11 = .ok (.aload_n 0, 1) := by decide +kernel
theorem dX2_extreme_12 : decode cX2_extreme 12 = .ok (.getfield 32, 3) := by decide +kernel
theorem dX2_extreme_15 : decode cX2_extreme 15 = .ok (.if_icmp .ge 85, 3) := by decide +kernel
theorem dX2_extreme_18 : decode cX2_extreme 18 = .ok (.aload_n 0, 1) := by decide +kernel
theorem dX2_extreme_19 : decode cX2_extreme 19 = .ok (.iload 6, 2) := by decide +kernel
theorem dX2_extreme_21 : decode cX2_extreme 21 = .ok (.iload_n 1, 1) := by decide +kernel
theorem dX2_extreme_22 : decode cX2_extreme 22 = .ok (.iload_n 2, 1) := by decide +kernel
theorem dX2_extreme_23 : decode cX2_extreme 23 = .ok (.invokevirtual 58, 3) := by decide +kernel
theorem dX2_extreme_26 : decode cX2_extreme 26 = .ok (.ifCond .eq 68, 3) := by decide +kernel
theorem dX2_extreme_29 : decode cX2_extreme 29 = .ok (.iload 4, 2) := by decide +kernel
theorem dX2_extreme_31 : decode cX2_extreme 31 = .ok (.ifCond .eq 34, 3) := by decide +kernel
theorem dX2_extreme_34 : decode cX2_extreme 34 = .ok (.iload_n 3, 1) := by decide +kernel
theorem dX2_extreme_35 : decode cX2_extreme 35 = .ok (.ifCond .ge 18, 3) := by decide +kernel
theorem dX2_extreme_38 : decode cX2_extreme 38 = .ok (.aload_n 0, 1) := by decide +kernel
theorem dX2_extreme_39 : decode cX2_extreme 39 = .ok (.getfield 20, 3) := by decide +kernel
theorem dX2_extreme_42 : decode cX2_extreme 42 = .ok (.iload 6, 2) := by decide +kernel
theorem dX2_extreme_44 : decode cX2_extreme 44 = .ok (.iaload, 1) := by decide +kernel
theorem dX2_extreme_45 : decode cX2_extreme 45 = .ok (.iload 5, 2) := by decide +kernel
theorem dX2_extreme_47 : decode cX2_extreme 47 = .ok (.if_icmp .ge 22, 3) := by decide +kernel
theorem dX2_extreme_50 : decode cX2_extreme 50 = .ok (.goto 15, 3) := by decide +kernel
theorem dX2_extreme_53 : decode cX2_extreme 53 = .ok (.aload_n 0, 1) := by decide +kernel
theorem dX2_extreme_54 : decode cX2_extreme 54 = .ok (.getfield 20, 3) := by decide +kernel
theorem dX2_extreme_57 : decode cX2_extreme 57 = .ok (.iload 6, 2) := by decide +kernel
theorem dX2_extreme_59 : decode cX2_extreme 59 = .ok (.iaload, 1) := by decide +kernel
theorem dX2_extreme_60 : decode cX2_extreme 60 = .ok (.iload 5, 2) := by decide +kernel
theorem dX2_extreme_62 : decode cX2_extreme 62 = .ok (.if_icmp .le 7, 3) := by decide +kernel
theorem dX2_extreme_65 : decode cX2_extreme 65 = .ok (.iconst 1, 1) := by decide +kernel
theorem dX2_extreme_66 : decode cX2_extreme 66 = .ok (.goto 4, 3) := by decide +kernel
theorem dX2_extreme_69 : decode cX2_extreme 69 = .ok (.iconst 0, 1) := by decide +kernel
theorem dX2_extreme_70 : decode cX2_extreme 70 = .ok (.istore 7, 2) := by decide +kernel
theorem dX2_extreme_72 : decode cX2_extreme 72 = .ok (.iload 7, 2) := by decide +kernel
theorem dX2_extreme_74 : decode cX2_extreme 74 = .ok (.ifCond .eq 13, 3) := by decide +kernel
theorem dX2_extreme_77 : decode cX2_extreme 77 = .ok (.aload_n 0, 1) := by decide +kernel
theorem dX2_extreme_78 : decode cX2_extreme 78 = .ok (.getfield 20, 3) := by decide +kernel
theorem dX2_extreme_81 : decode cX2_extreme 81 = .ok (.iload 6, 2) := by decide +kernel
theorem dX2_extreme_83 : decode cX2_extreme 83 = .ok (.iaload, 1) := by decide +kernel
theorem dX2_extreme_84 : decode cX2_extreme 84 = .ok (.goto 5, 3) := by decide +kernel
theorem dX2_extreme_87 : decode cX2_extreme 87 = .ok (.iload 5, 2) := by decide +kernel
theorem dX2_extreme_89 : decode cX2_extreme 89 = .ok (.istore 5, 2) := by decide +kernel
theorem dX2_extreme_91 : decode cX2_extreme 91 = .ok (.iconst 1, 1) := by decide +kernel
theorem dX2_extreme_92 : decode cX2_extreme 92 = .ok (.istore 4, 2) := by decide +kernel
theorem dX2_extreme_94 : decode cX2_extreme 94 = .ok (.iinc 6 1, 3) := by decide +kernel
theorem dX2_extreme_97 : decode cX2_extreme 97 = .ok (.goto (-88), 3) := by decide +kernel
theorem dX2_extreme_100 : decode cX2_extreme 100 = .ok (.iload_n 3, 1) := by decide +kernel
theorem dX2_extreme_101 : decode cX2_extreme 101 = .ok (.iconst 1, 1) := by decide +kernel
theorem dX2_extreme_102 : decode cX2_extreme 102 = .ok (.if_icmp .eq 8, 3) := by decide +kernel
theorem dX2_extreme_105 : decode cX2_extreme 105 = .ok (.iload_n 3, 1) := by decide +kernel
theorem dX2_extreme_106 : decode cX2_extreme 106 = .ok (.iconst (-1), 1) := by decide +kernel
theorem dX2_extreme_107 : decode cX2_extreme 107 = .ok (.if_icmp .ne 8, 3) := by decide +kernel
theorem dX2_extreme_110 : decode cX2_extreme 110 = .ok (.iload 5, 2) := by decide +kernel
theorem dX2_extreme_112 : decode cX2_extreme 112 = .ok (.goto 4, 3) := by decide +kernel
theorem dX2_extreme_115 : decode cX2_extreme 115 = .ok (.iconst 0, 1) := by decide +kernel
theorem dX2_extreme_116 : decode cX2_extreme 116 = .ok (.ireturn, 1) := by decide +kernel
set_option maxRecDepth 20000 in
theorem ggX2_sum_X2_isIn : GoodIn wsX2_sum wsX2_isIn := goodIn_r _ [7, 1, 8, 9, 10, 11, 6, 12, 13, 14, 15, 16, 17, 18, 19, 20, 21, 22, 23, 24, 25, 26, 27, 28] (by decide +kernel) (by decide +kernel)
set_option maxRecDepth 20000 in
theorem gX2_sum_X2_isIn : GoodIn wsX2_sum (wsV RX2 58 RX2 yX2_isIn wsX2_isIn) := goodIn_app (goodIn_of _ (by decide +kernel)) ggX2_sum_X2_isIn
theorem dX2_sum_0 : decode cX2_sum 0 = .ok (.lconst 0, 1) := by decide +kernel
theorem dX2_sum_1 : decode cX2_sum 1 = .ok (.lstore_n 3, 1) := by decide +kernel
theorem dX2_sum_2 : decode cX2_sum 2 = .ok (.iconst 0, 1) := by decide +kernel
theorem dX2_sum_3 : decode cX2_sum 3 = .ok (.istore 5, 2) := by decide +kernel
theorem dX2_sum_5 : decode cX2_sum 5 = .ok (.iload 5, 2) := by decide +kernel
theorem dX2_sum_7 : decode cX2_sum 7 = .ok (.aload_n 0, 1) := by decide +kernel
theorem dX2_sum_8 : decode cX2_sum 8 = .ok (.getfield 32, 3) := by decide +kernel
theorem dX2_sum_11 : decode cX2_sum 11 = .ok (.if_icmp .ge 35, 3) := by decide +kernel
theorem dX2_sum_14 : decode cX2_sum 14 = .ok (.aload_n 0, 1) := by decide +kernel
theorem dX2_sum_15 : decode cX2_sum 15 = .ok (.iload 5, 2) := by decide +kernel
theorem dX2_sum_17 : decode cX2_sum 17 = .ok (.iload_n 1, 1) := by decide +kernel
theorem dX2_sum_18 : decode cX2_sum 18 = .ok (.iload_n 2, 1) := by decide +kernel
theorem dX2_sum_19 : decode cX2_sum 19 = .ok (.invokevirtual 58, 3) := by decide +kernel
theorem dX2_sum_22 : decode cX2_sum 22 = .ok (.ifCond .eq 16, 3) := by decide +kernel
theorem dX2_sum_25 : decode cX2_sum 25 = .ok (.lload_n 3, 1) := by decide +kernel
theorem dX2_sum_26 : decode cX2_sum 26 = .ok (.aload_n 0, 1) := by decide +kernel
theorem dX2_sum_27 : decode cX2_sum 27 = .ok (.getfield 20, 3) := by decide +kernel
theorem dX2_sum_30 : decode cX2_sum 30 = .ok (.iload 5, 2) := by decide +kernel
theorem dX2_sum_32 : decode cX2_sum 32 = .ok (.iaload, 1) := by decide +kernel
theorem dX2_sum_33 : decode cX2_sum 33 = .ok (.i2l, 1) := by decide +kernel
theorem dX2_sum_34 : decode cX2_sum 34 = .ok (.ladd, 1) := by decide +kernel
theorem dX2_sum_35 : decode cX2_sum 35 = .ok (.goto 4, 3) := by decide +kernel
theorem dX2_sum_38 : decode cX2_sum 38 = .ok (.lload_n 3, 1) := by decide +kernel
theorem dX2_sum_39 : decode cX2_sum 39 = .ok (.lstore_n 3, 1) := by decide +kernel
theorem dX2_sum_40 : decode cX2_sum 40 = .ok (.iinc 5 1, 3) := by decide +kernel
theorem dX2_sum_43 : decode cX2_sum 43 = .ok (.goto (-38), 3) := by decide +kernel
theorem dX2_sum_46 : decode cX2_sum 46 = .ok (.lload_n 3, 1) := by decide +kernel
theorem dX2_sum_47 : decode cX2_sum 47 = .ok (.lreturn, 1) := by decide +kernel
set_option maxRecDepth 20000 in
theorem ggX2_at_X2_kept : GoodIn wsX2_at wsX2_kept := goodIn_r _ [8, 1, 9, 10, 11, 12, 7, 13, 14, 15, 16, 17, 2, 18, 19, 20, 21, 22, 23, 24] (by decide +kernel) (by decide +kernel)
set_option maxRecDepth 20000 in
theorem gX2_at_X2_kept : GoodIn wsX2_at (wsV RX2 43 RX2 yX2_kept wsX2_kept) := goodIn_app (goodIn_of _ (by decide +kernel)) ggX2_at_X2_kept
theorem dX2_at_0 : decode cX2_at 0 = .ok (.iconst (-1), 1) := by decide +kernel
theorem dX2_at_1 : decode cX2_at 1 = .ok (.istore_n 3, 1) := by decide +kernel
theorem dX2_at_2 : decode cX2_at 2 = .ok (.aload_n 0, 1) := by decide +kernel
theorem dX2_at_3 : decode cX2_at 3 = .ok (.getfield 32, 3) := by decide +kernel
theorem dX2_at_6 : decode cX2_at 6 = .ok (.aload_n 0, 1) := by decide +kernel
theorem dX2_at_7 : decode cX2_at 7 = .ok (.iconst 0, 1) := by decide +kernel
theorem dX2_at_8 : decode cX2_at 8 = .ok (.invokevirtual 43, 3) := by decide +kernel
theorem dX2_at_11 : decode cX2_at 11 = .ok (.isub, 1) := by decide +kernel
theorem dX2_at_12 : decode cX2_at 12 = .ok (.istore 4, 2) := by decide +kernel
theorem dX2_at_14 : decode cX2_at 14 = .ok (.iload 4, 2) := by decide +kernel
theorem dX2_at_16 : decode cX2_at 16 = .ok (.aload_n 0, 1) := by decide +kernel
theorem dX2_at_17 : decode cX2_at 17 = .ok (.getfield 32, 3) := by decide +kernel
theorem dX2_at_20 : decode cX2_at 20 = .ok (.if_icmp .ge 27, 3) := by decide +kernel
theorem dX2_at_23 : decode cX2_at 23 = .ok (.aload_n 0, 1) := by decide +kernel
theorem dX2_at_24 : decode cX2_at 24 = .ok (.getfield 17, 3) := by decide +kernel
theorem dX2_at_27 : decode cX2_at 27 = .ok (.iload 4, 2) := by decide +kernel
theorem dX2_at_29 : decode cX2_at 29 = .ok (.iaload, 1) := by decide +kernel
theorem dX2_at_30 : decode cX2_at 30 = .ok (.iload_n 1, 1) := by decide +kernel
theorem dX2_at_31 : decode cX2_at 31 = .ok (.if_icmp .gt 8, 3) := by decide +kernel
theorem dX2_at_34 : decode cX2_at 34 = .ok (.iload 4, 2) := by decide +kernel
theorem dX2_at_36 : decode cX2_at 36 = .ok (.goto 4, 3) := by decide +kernel
theorem dX2_at_39 : decode cX2_at 39 = .ok (.iload_n 3, 1) := by decide +kernel
theorem dX2_at_40 : decode cX2_at 40 = .ok (.istore_n 3, 1) := by decide +kernel
theorem dX2_at_41 : decode cX2_at 41 = .ok (.iinc 4 1, 3) := by decide +kernel
theorem dX2_at_44 : decode cX2_at 44 = .ok (.goto (-30), 3) := by decide +kernel
theorem dX2_at_47 : decode cX2_at 47 = .ok (.iload_n 3, 1) := by decide +kernel
theorem dX2_at_48 : decode cX2_at 48 = .ok (.ifCond .ge 5, 3) := by decide +kernel
theorem dX2_at_51 : decode cX2_at 51 = .ok (.iconst 0, 1) := by decide +kernel
theorem dX2_at_52 : decode cX2_at 52 = .ok (.ireturn, 1) := by decide +kernel
theorem dX2_at_53 : decode cX2_at 53 = .ok (.iload_n 2, 1) := by decide +kernel
theorem dX2_at_54 : decode cX2_at 54 = .ok (.ifCond .eq 13, 3) := by decide +kernel
theorem dX2_at_57 : decode cX2_at 57 = .ok (.iload_n 3, 1) := by decide +kernel
theorem dX2_at_58 : decode cX2_at 58 = .ok (.aload_n 0, 1) := by decide +kernel
theorem dX2_at_59 : decode cX2_at 59 = .ok (.getfield 32, 3) := by decide +kernel
theorem dX2_at_62 : decode cX2_at 62 = .ok (.iconst 1, 1) := by decide +kernel
theorem dX2_at_63 : decode cX2_at 63 = .ok (.isub, 1) := by decide +kernel
theorem dX2_at_64 : decode cX2_at 64 = .ok (.if_icmp .ne 10, 3) := by decide +kernel
theorem dX2_at_67 : decode cX2_at 67 = .ok (.aload_n 0, 1) := by decide +kernel
theorem dX2_at_68 : decode cX2_at 68 = .ok (.getfield 20, 3) := by decide +kernel
theorem dX2_at_71 : decode cX2_at 71 = .ok (.iload_n 3, 1) := by decide +kernel
theorem dX2_at_72 : decode cX2_at 72 = .ok (.iaload, 1) := by decide +kernel
theorem dX2_at_73 : decode cX2_at 73 = .ok (.ireturn, 1) := by decide +kernel
theorem dX2_at_74 : decode cX2_at 74 = .ok (.aload_n 0, 1) := by decide +kernel
theorem dX2_at_75 : decode cX2_at 75 = .ok (.getfield 20, 3) := by decide +kernel
theorem dX2_at_78 : decode cX2_at 78 = .ok (.iload_n 3, 1) := by decide +kernel
theorem dX2_at_79 : decode cX2_at 79 = .ok (.iconst 1, 1) := by decide +kernel
theorem dX2_at_80 : decode cX2_at 80 = .ok (.iadd, 1) := by decide +kernel
theorem dX2_at_81 : decode cX2_at 81 = .ok (.iaload, 1) := by decide +kernel
theorem dX2_at_82 : decode cX2_at 82 = .ok (.i2l, 1) := by decide +kernel
theorem dX2_at_83 : decode cX2_at 83 = .ok (.aload_n 0, 1) := by decide +kernel
theorem dX2_at_84 : decode cX2_at 84 = .ok (.getfield 20, 3) := by decide +kernel
theorem dX2_at_87 : decode cX2_at 87 = .ok (.iload_n 3, 1) := by decide +kernel
theorem dX2_at_88 : decode cX2_at 88 = .ok (.iaload, 1) := by decide +kernel
theorem dX2_at_89 : decode cX2_at 89 = .ok (.i2l, 1) := by decide +kernel
theorem dX2_at_90 : decode cX2_at 90 = .ok (.lsub, 1) := by decide +kernel
theorem dX2_at_91 : decode cX2_at 91 = .ok (.lstore 4, 2) := by decide +kernel
theorem dX2_at_93 : decode cX2_at 93 = .ok (.iload_n 1, 1) := by decide +kernel
theorem dX2_at_94 : decode cX2_at 94 = .ok (.i2l, 1) := by decide +kernel
theorem dX2_at_95 : decode cX2_at 95 = .ok (.aload_n 0, 1) := by decide +kernel
theorem dX2_at_96 : decode cX2_at 96 = .ok (.getfield 17, 3) := by decide +kernel
theorem dX2_at_99 : decode cX2_at 99 = .ok (.iload_n 3, 1) := by decide +kernel
theorem dX2_at_100 : decode cX2_at 100 = .ok (.iaload, 1) := by decide +kernel
theorem dX2_at_101 : decode cX2_at 101 = .ok (.i2l, 1) := by decide +kernel
theorem dX2_at_102 : decode cX2_at 102 = .ok (.lsub, 1) := by decide +kernel
theorem dX2_at_103 : decode cX2_at 103 = .ok (.lstore 6, 2) := by decide +kernel
theorem dX2_at_105 : decode cX2_at 105 = .ok (.aload_n 0, 1) := by decide +kernel
theorem dX2_at_106 : decode cX2_at 106 = .ok (.getfield 20, 3) := by decide +kernel
theorem dX2_at_109 : decode cX2_at 109 = .ok (.iload_n 3, 1) := by decide +kernel
theorem dX2_at_110 : decode cX2_at 110 = .ok (.iaload, 1) := by decide +kernel
theorem dX2_at_111 : decode cX2_at 111 = .ok (.i2l, 1) := by decide +kernel
theorem dX2_at_112 : decode cX2_at 112 = .ok (.lload 4, 2) := by decide +kernel
theorem dX2_at_114 : decode cX2_at 114 = .ok (.lload 6, 2) := by decide +kernel
theorem dX2_at_116 : decode cX2_at 116 = .ok (.lmul, 1) := by decide +kernel
theorem dX2_at_117 : decode cX2_at 117 = .ok (.aload_n 0, 1) := by decide +kernel
theorem dX2_at_118 : decode cX2_at 118 = .ok (.getfield 17, 3) := by decide +kernel
theorem dX2_at_121 : decode cX2_at 121 = .ok (.iload_n 3, 1) := by decide +kernel
theorem dX2_at_122 : decode cX2_at 122 = .ok (.iconst 1, 1) := by decide +kernel
theorem dX2_at_123 : decode cX2_at 123 = .ok (.iadd, 1) := by decide +kernel
theorem dX2_at_124 : decode cX2_at 124 = .ok (.iaload, 1) := by decide +kernel
theorem dX2_at_125 : decode cX2_at 125 = .ok (.aload_n 0, 1) := by decide +kernel
theorem dX2_at_126 : decode cX2_at 126 = .ok (.getfield 17, 3) := by decide +kernel
theorem dX2_at_129 : decode cX2_at 129 = .ok (.iload_n 3, 1) := by decide +kernel
theorem dX2_at_130 : decode cX2_at 130 = .ok (.iaload, 1) := by decide +kernel
theorem dX2_at_131 : decode cX2_at 131 = .ok (.isub, 1) := by decide +kernel
theorem dX2_at_132 : decode cX2_at 132 = .ok (.i2l, 1) := by decide +kernel
theorem dX2_at_133 : decode cX2_at 133 = .ok (.ldiv, 1) := by decide +kernel
theorem dX2_at_134 : decode cX2_at 134 = .ok (.ladd, 1) := by decide +kernel
theorem dX2_at_135 : decode cX2_at 135 = .ok (.l2i, 1) := by decide +kernel
theorem dX2_at_136 : decode cX2_at 136 = .ok (.ireturn, 1) := by decide +kernel
set_option maxRecDepth 20000 in
theorem ggX2_steepest_X2_kept : GoodIn wsX2_steepest wsX2_kept := goodIn_r _ [7, 1, 8, 9, 10, 11, 6, 12, 13, 14, 15, 16, 17, 18, 23, 24, 25, 26, 27, 28] (by decide +kernel) (by decide +kernel)
set_option maxRecDepth 20000 in
theorem gX2_steepest_X2_kept : GoodIn wsX2_steepest (wsV RX2 43 RX2 yX2_kept wsX2_kept) := goodIn_app (goodIn_of _ (by decide +kernel)) ggX2_steepest_X2_kept
set_option maxRecDepth 20000 in
theorem ggX2_steepest_X2_isIn : GoodIn wsX2_steepest wsX2_isIn := goodIn_r _ [22, 1, 17, 3, 4, 5, 6, 7, 8, 9, 10, 11, 12, 13, 14, 15, 16, 18, 23, 24, 25, 26, 27, 28] (by decide +kernel) (by decide +kernel)
set_option maxRecDepth 20000 in
theorem gX2_steepest_X2_isIn : GoodIn wsX2_steepest (wsV RX2 58 RX2 yX2_isIn wsX2_isIn) := goodIn_app (goodIn_of _ (by decide +kernel)) ggX2_steepest_X2_isIn
theorem dX2_steepest_0 : decode cX2_steepest 0 = .ok (.aload_n 0, 1) := by decide +kernel
theorem dX2_steepest_1 : decode cX2_steepest 1 = .ok (.getfield 32, 3) := by decide +kernel
theorem dX2_steepest_4 : decode cX2_steepest 4 = .ok (.aload_n 0, 1) := by decide +kernel
theorem dX2_steepest_5 : decode cX2_steepest 5 = .ok (.iconst 0, 1) := by decide +kernel
theorem dX2_steepest_6 : decode cX2_steepest 6 = .ok (.invokevirtual 43, 3) := by decide +kernel
theorem dX2_steepest_9 : decode cX2_steepest 9 = .ok (.isub, 1) := by decide +kernel
theorem dX2_steepest_10 : decode cX2_steepest 10 = .ok (.istore_n 3, 1) := by decide +kernel
theorem dX2_steepest_11 : decode cX2_steepest 11 = .ok (.iconst (-1), 1) := by decide +kernel
theorem dX2_steepest_12 : decode cX2_steepest 12 = .ok (.istore 4, 2) := by decide +kernel
theorem dX2_steepest_14 : decode cX2_steepest 14 = .ok (.lconst 0, 1) := by decide +kernel
theorem dX2_steepest_15 : decode cX2_steepest 15 = .ok (.lstore 5, 2) := by decide +kernel
theorem dX2_steepest_17 : decode cX2_steepest 17 = .ok (.iload_n 3, 1) := by decide +kernel
theorem dX2_steepest_18 : decode cX2_steepest 18 = .ok (.iconst 1, 1) := by decide +kernel
theorem dX2_steepest_19 : decode cX2_steepest 19 = .ok (.iadd, 1) := by decide +kernel
theorem dX2_steepest_20 : decode cX2_steepest 20 = .ok (.istore 7, 2) := by decide +kernel
theorem dX2_steepest_22 : decode cX2_steepest 22 = .ok (.iload 7, 2) := by decide +kernel
theorem dX2_steepest_24 : decode cX2_steepest 24 = .ok (.aload_n 0, 1) := by decide +kernel
theorem dX2_steepest_25 : decode cX2_steepest 25 = .ok (.getfield 32, 3) := by decide +kernel
theorem dX2_steepest_28 : decode cX2_steepest 28 = .ok (.if_icmp .ge 78, 3) := by decide +kernel
theorem dX2_steepest_31 : decode cX2_steepest 31 = .ok (.aload_n 0, 1) := by decide +kernel
theorem dX2_steepest_32 : decode cX2_steepest 32 = .ok (.getfield 20, 3) := by decide +kernel
theorem dX2_steepest_35 : decode cX2_steepest 35 = .ok (.iload 7, 2) := by decide +kernel
theorem dX2_steepest_37 : decode cX2_steepest 37 = .ok (.iaload, 1) := by decide +kernel
theorem dX2_steepest_38 : decode cX2_steepest 38 = .ok (.i2l, 1) := by decide +kernel
theorem dX2_steepest_39 : decode cX2_steepest 39 = .ok (.aload_n 0, 1) := by decide +kernel
theorem dX2_steepest_40 : decode cX2_steepest 40 = .ok (.getfield 20, 3) := by decide +kernel
theorem dX2_steepest_43 : decode cX2_steepest 43 = .ok (.iload 7, 2) := by decide +kernel
theorem dX2_steepest_45 : decode cX2_steepest 45 = .ok (.iconst 1, 1) := by decide +kernel
theorem dX2_steepest_46 : decode cX2_steepest 46 = .ok (.isub, 1) := by decide +kernel
theorem dX2_steepest_47 : decode cX2_steepest 47 = .ok (.iaload, 1) := by decide +kernel
theorem dX2_steepest_48 : decode cX2_steepest 48 = .ok (.i2l, 1) := by decide +kernel
theorem dX2_steepest_49 : decode cX2_steepest 49 = .ok (.lsub, 1) := by decide +kernel
theorem dX2_steepest_50 : decode cX2_steepest 50 = .ok (.lstore 8, 2) := by decide +kernel
theorem dX2_steepest_52 : decode cX2_steepest 52 = .ok (.aload_n 0, 1) := by decide +kernel
theorem dX2_steepest_53 : decode cX2_steepest 53 = .ok (.iload 7, 2) := by decide +kernel
theorem dX2_steepest_55 : decode cX2_steepest 55 = .ok (.iconst 1, 1) := by decide +kernel
theorem dX2_steepest_56 : decode cX2_steepest 56 = .ok (.isub, 1) := by decide +kernel
theorem dX2_steepest_57 : decode cX2_steepest 57 = .ok (.iload_n 1, 1) := by decide +kernel
theorem dX2_steepest_58 : decode cX2_steepest 58 = .ok (.iload_n 2, 1) := by decide +kernel
theorem dX2_steepest_59 : decode cX2_steepest 59 = .ok (.invokevirtual 58, 3) := by decide +kernel
theorem dX2_steepest_62 : decode cX2_steepest 62 = .ok (.ifCond .eq 38, 3) := by decide +kernel
theorem dX2_steepest_65 : decode cX2_steepest 65 = .ok (.aload_n 0, 1) := by decide +kernel
theorem dX2_steepest_66 : decode cX2_steepest 66 = .ok (.iload 7, 2) := by decide +kernel
theorem dX2_steepest_68 : decode cX2_steepest 68 = .ok (.iload_n 1, 1) := by decide +kernel
theorem dX2_steepest_69 : decode cX2_steepest 69 = .ok (.iload_n 2, 1) := by decide +kernel
theorem dX2_steepest_70 : decode cX2_steepest 70 = .ok (.invokevirtual 58, 3) := by decide +kernel
theorem dX2_steepest_73 : decode cX2_steepest 73 = .ok (.ifCond .eq 27, 3) := by decide +kernel
theorem dX2_steepest_76 : decode cX2_steepest 76 = .ok (.iload 4, 2) := by decide +kernel
theorem dX2_steepest_78 : decode cX2_steepest 78 = .ok (.iconst (-1), 1) := by decide +kernel
theorem dX2_steepest_79 : decode cX2_steepest 79 = .ok (.if_icmp .eq 11, 3) := by decide +kernel
theorem dX2_steepest_82 : decode cX2_steepest 82 = .ok (.lload 8, 2) := by decide +kernel
theorem dX2_steepest_84 : decode cX2_steepest 84 = .ok (.lload 5, 2) := by decide +kernel
theorem dX2_steepest_86 : decode cX2_steepest 86 = .ok (.lcmp, 1) := by decide +kernel
theorem dX2_steepest_87 : decode cX2_steepest 87 = .ok (.ifCond .le 13, 3) := by decide +kernel
theorem dX2_steepest_90 : decode cX2_steepest 90 = .ok (.iload 7, 2) := by decide +kernel
theorem dX2_steepest_92 : decode cX2_steepest 92 = .ok (.iload_n 3, 1) := by decide +kernel
theorem dX2_steepest_93 : decode cX2_steepest 93 = .ok (.isub, 1) := by decide +kernel
theorem dX2_steepest_94 : decode cX2_steepest 94 = .ok (.istore 4, 2) := by decide +kernel
theorem dX2_steepest_96 : decode cX2_steepest 96 = .ok (.lload 8, 2) := by decide +kernel
theorem dX2_steepest_98 : decode cX2_steepest 98 = .ok (.lstore 5, 2) := by decide +kernel
theorem dX2_steepest_100 : decode cX2_steepest 100 = .ok (.iinc 7 1, 3) := by decide +kernel
theorem dX2_steepest_103 : decode cX2_steepest 103 = .ok (.goto (-81), 3) := by decide +kernel
theorem dX2_steepest_106 : decode cX2_steepest 106 = .ok (.iload 4, 2) := by decide +kernel
theorem dX2_steepest_108 : decode cX2_steepest 108 = .ok (.ireturn, 1) := by decide +kernel
set_option maxRecDepth 20000 in
theorem ggX2_median_X2_many : GoodIn wsX2_median wsX2_many := goodIn_r _ [7, 1, 8, 9, 10, 6, 11, 12, 13, 14, 15, 16, 17, 18, 19, 20, 21, 22, 23, 24, 25, 26, 27, 28, 29, 30, 31, 32] (by decide +kernel) (by decide +kernel)
set_option maxRecDepth 20000 in
theorem gX2_median_X2_many : GoodIn wsX2_median (wsV RX2 61 RX2 yX2_many wsX2_many) := goodIn_app (goodIn_of _ (by decide +kernel)) ggX2_median_X2_many
set_option maxRecDepth 20000 in
theorem ggX2_median_X2_isIn : GoodIn wsX2_median wsX2_isIn := goodIn_r _ [11, 1, 12, 13, 14, 15, 6, 16, 17, 18, 19, 20, 21, 22, 23, 24, 25, 26, 27, 28, 29, 30, 31, 32] (by decide +kernel) (by decide +kernel)
set_option maxRecDepth 20000 in
theorem gX2_median_X2_isIn : GoodIn wsX2_median (wsV RX2 58 RX2 yX2_isIn wsX2_isIn) := goodIn_app (goodIn_of _ (by decide +kernel)) ggX2_median_X2_isIn
theorem dX2_median_0 : decode cX2_median 0 = .ok (.aload_n 0, 1) := by decide +kernel
theorem dX2_median_1 : decode cX2_median 1 = .ok (.iload_n 1, 1) := by decide +kernel
theorem dX2_median_2 : decode cX2_median 2 = .ok (.iload_n 2, 1) := by decide +kernel
theorem dX2_median_3 : decode cX2_median 3 = .ok (.invokevirtual 61, 3) := by decide +kernel
theorem dX2_median_6 : decode cX2_median 6 = .ok (.istore_n 3, 1) := by decide +kernel
theorem dX2_median_7 : decode cX2_median 7 = .ok (.iconst 0, 1) := by decide +kernel
theorem dX2_median_8 : decode cX2_median 8 = .ok (.istore 4, 2) := by decide +kernel
theorem dX2_median_10 : decode cX2_median 10 = .ok (.iload 4, 2) := by decide +kernel
theorem dX2_median_12 : decode cX2_median 12 = .ok (.aload_n 0, 1) := by decide +kernel
theorem dX2_median_13 : decode cX2_median 13 = .ok (.getfield 32, 3) := by decide +kernel
theorem dX2_median_16 : decode cX2_median 16 = .ok (.if_icmp .ge 158, 3) := by decide +kernel
theorem dX2_median_19 : decode cX2_median 19 = .ok (.iload_n 3, 1) := by decide +kernel
theorem dX2_median_20 : decode cX2_median 20 = .ok (.ifCond .le 154, 3) := by decide +kernel
theorem dX2_median_23 : decode cX2_median 23 = .ok (.iconst 0, 1) := by decide +kernel
theorem dX2_median_24 : decode cX2_median 24 = .ok (.istore 5, 2) := by decide +kernel
theorem dX2_median_26 : decode cX2_median 26 = .ok (.iconst 0, 1) := by decide +kernel
theorem dX2_median_27 : decode cX2_median 27 = .ok (.istore 6, 2) := by decide +kernel
theorem dX2_median_29 : decode cX2_median 29 = .ok (.iconst 0, 1) := by decide +kernel
theorem dX2_median_30 : decode cX2_median 30 = .ok (.istore 7, 2) := by decide +kernel
theorem dX2_median_32 : decode cX2_median 32 = .ok (.iload 7, 2) := by decide +kernel
theorem dX2_median_34 : decode cX2_median 34 = .ok (.aload_n 0, 1) := by decide +kernel
theorem dX2_median_35 : decode cX2_median 35 = .ok (.getfield 32, 3) := by decide +kernel
theorem dX2_median_38 : decode cX2_median 38 = .ok (.if_icmp .ge 87, 3) := by decide +kernel
theorem dX2_median_41 : decode cX2_median 41 = .ok (.aload_n 0, 1) := by decide +kernel
theorem dX2_median_42 : decode cX2_median 42 = .ok (.iload 7, 2) := by decide +kernel
theorem dX2_median_44 : decode cX2_median 44 = .ok (.iload_n 1, 1) := by decide +kernel
theorem dX2_median_45 : decode cX2_median 45 = .ok (.iload_n 2, 1) := by decide +kernel
theorem dX2_median_46 : decode cX2_median 46 = .ok (.invokevirtual 58, 3) := by decide +kernel
theorem dX2_median_49 : decode cX2_median 49 = .ok (.ifCond .eq 27, 3) := by decide +kernel
theorem dX2_median_52 : decode cX2_median 52 = .ok (.aload_n 0, 1) := by decide +kernel
theorem dX2_median_53 : decode cX2_median 53 = .ok (.getfield 20, 3) := by decide +kernel
theorem dX2_median_56 : decode cX2_median 56 = .ok (.iload 7, 2) := by decide +kernel
theorem dX2_median_58 : decode cX2_median 58 = .ok (.iaload, 1) := by decide +kernel
theorem dX2_median_59 : decode cX2_median 59 = .ok (.aload_n 0, 1) := by decide +kernel
theorem dX2_median_60 : decode cX2_median 60 = .ok (.getfield 20, 3) := by decide +kernel
theorem dX2_median_63 : decode cX2_median 63 = .ok (.iload 4, 2) := by decide +kernel
theorem dX2_median_65 : decode cX2_median 65 = .ok (.iaload, 1) := by decide +kernel
theorem dX2_median_66 : decode cX2_median 66 = .ok (.if_icmp .ge 10, 3) := by decide +kernel
theorem dX2_median_69 : decode cX2_median 69 = .ok (.iload 5, 2) := by decide +kernel
theorem dX2_median_71 : decode cX2_median 71 = .ok (.iconst 1, 1) := by decide +kernel
theorem dX2_median_72 : decode cX2_median 72 = .ok (.iadd, 1) := by decide +kernel
theorem dX2_median_73 : decode cX2_median 73 = .ok (.goto 5, 3) := by decide +kernel
theorem dX2_median_76 : decode cX2_median 76 = .ok (.iload 5, 2) := by decide +kernel
theorem dX2_median_78 : decode cX2_median 78 = .ok (.istore 5, 2) := by decide +kernel
theorem dX2_median_80 : decode cX2_median 80 = .ok (.aload_n 0, 1) := by decide +kernel
theorem dX2_median_81 : decode cX2_median 81 = .ok (.iload 7, 2) := by decide +kernel
theorem dX2_median_83 : decode cX2_median 83 = .ok (.iload_n 1, 1) := by decide +kernel
theorem dX2_median_84 : decode cX2_median 84 = .ok (.iload_n 2, 1) := by decide +kernel
theorem dX2_median_85 : decode cX2_median 85 = .ok (.invokevirtual 58, 3) := by decide +kernel
theorem dX2_median_88 : decode cX2_median 88 = .ok (.ifCond .eq 27, 3) := by decide +kernel
theorem dX2_median_91 : decode cX2_median 91 = .ok (.aload_n 0, 1) := by decide +kernel
theorem dX2_median_92 : decode cX2_median 92 = .ok (.getfield 20, 3) := by decide +kernel
theorem dX2_median_95 : decode cX2_median 95 = .ok (.iload 7, 2) := by decide +kernel
theorem dX2_median_97 : decode cX2_median 97 = .ok (.iaload, 1) := by decide +kernel
theorem dX2_median_98 : decode cX2_median 98 = .ok (.aload_n 0, 1) := by decide +kernel
theorem dX2_median_99 : decode cX2_median 99 = .ok (.getfield 20, 3) := by decide +kernel
theorem dX2_median_102 : decode cX2_median 102 = .ok (.iload 4, 2) := by decide +kernel
theorem dX2_median_104 : decode cX2_median 104 = .ok (.iaload, 1) := by decide +kernel
theorem dX2_median_105 : decode cX2_median 105 = .ok (.if_icmp .ne 10, 3) := by decide +kernel
theorem dX2_median_108 : decode cX2_median 108 = .ok (.iload 6, 2) := by decide +kernel
theorem dX2_median_110 : decode cX2_median 110 = .ok (.iconst 1, 1) := by decide +kernel
theorem dX2_median_111 : decode cX2_median 111 = .ok (.iadd, 1) := by decide +kernel
theorem dX2_median_112 : decode cX2_median 112 = .ok (.goto 5, 3) := by decide +kernel
theorem dX2_median_115 : decode cX2_median 115 = .ok (.iload 6, 2) := by decide +kernel
theorem dX2_median_117 : decode cX2_median 117 = .ok (.istore 6, 2) := by decide +kernel
theorem dX2_median_119 : decode cX2_median 119 = .ok (.iinc 7 1, 3) := by decide +kernel
theorem dX2_median_122 : decode cX2_median 122 = .ok (.goto (-90), 3) := by decide +kernel
theorem dX2_median_125 : decode cX2_median 125 = .ok (.iload_n 3, 1) := by decide +kernel
theorem dX2_median_126 : decode cX2_median 126 = .ok (.iconst 1, 1) := by decide +kernel
theorem dX2_median_127 : decode cX2_median 127 = .ok (.isub, 1) := by decide +kernel
theorem dX2_median_128 : decode cX2_median 128 = .ok (.iconst 2, 1) := by decide +kernel
theorem dX2_median_129 : decode cX2_median 129 = .ok (.idiv, 1) := by decide +kernel
theorem dX2_median_130 : decode cX2_median 130 = .ok (.istore 7, 2) := by decide +kernel
theorem dX2_median_132 : decode cX2_median 132 = .ok (.aload_n 0, 1) := by decide +kernel
theorem dX2_median_133 : decode cX2_median 133 = .ok (.iload 4, 2) := by decide +kernel
theorem dX2_median_135 : decode cX2_median 135 = .ok (.iload_n 1, 1) := by decide +kernel
theorem dX2_median_136 : decode cX2_median 136 = .ok (.iload_n 2, 1) := by decide +kernel
theorem dX2_median_137 : decode cX2_median 137 = .ok (.invokevirtual 58, 3) := by decide +kernel
theorem dX2_median_140 : decode cX2_median 140 = .ok (.ifCond .eq 28, 3) := by decide +kernel
theorem dX2_median_143 : decode cX2_median 143 = .ok (.iload 5, 2) := by decide +kernel
theorem dX2_median_145 : decode cX2_median 145 = .ok (.iload 7, 2) := by decide +kernel
theorem dX2_median_147 : decode cX2_median 147 = .ok (.if_icmp .gt 21, 3) := by decide +kernel
theorem dX2_median_150 : decode cX2_median 150 = .ok (.iload 7, 2) := by decide +kernel
theorem dX2_median_152 : decode cX2_median 152 = .ok (.iload 5, 2) := by decide +kernel
theorem dX2_median_154 : decode cX2_median 154 = .ok (.iload 6, 2) := by decide +kernel
theorem dX2_median_156 : decode cX2_median 156 = .ok (.iadd, 1) := by decide +kernel
theorem dX2_median_157 : decode cX2_median 157 = .ok (.if_icmp .ge 11, 3) := by decide +kernel
theorem dX2_median_160 : decode cX2_median 160 = .ok (.aload_n 0, 1) := by decide +kernel
theorem dX2_median_161 : decode cX2_median 161 = .ok (.getfield 20, 3) := by decide +kernel
theorem dX2_median_164 : decode cX2_median 164 = .ok (.iload 4, 2) := by decide +kernel
theorem dX2_median_166 : decode cX2_median 166 = .ok (.iaload, 1) := by decide +kernel
theorem dX2_median_167 : decode cX2_median 167 = .ok (.ireturn, 1) := by decide +kernel
theorem dX2_median_168 : decode cX2_median 168 = .ok (.iinc 4 1, 3) := by decide +kernel
theorem dX2_median_171 : decode cX2_median 171 = .ok (.goto (-161), 3) := by decide +kernel
theorem dX2_median_174 : decode cX2_median 174 = .ok (.iconst 0, 1) := by decide +kernel
theorem dX2_median_175 : decode cX2_median 175 = .ok (.ireturn, 1) := by decide +kernel
set_option maxRecDepth 20000 in
theorem ggX2_whole_X2_kept : GoodIn wsX2_whole wsX2_kept := goodIn_r _ [6, 7, 8, 9, 10, 11, 5, 12, 13, 14, 15, 16, 17, 1, 35, 36, 37, 38, 39, 40] (by decide +kernel) (by decide +kernel)
set_option maxRecDepth 20000 in
theorem gX2_whole_X2_kept : GoodIn wsX2_whole (wsV RX2 43 RX2 yX2_kept wsX2_kept) := goodIn_app (goodIn_of _ (by decide +kernel)) ggX2_whole_X2_kept
set_option maxRecDepth 20000 in
theorem ggX2_whole_X2_begin : GoodIn wsX2_whole wsX2_begin := goodIn_r _ [21, 17, 1, 22, 23, 24, 5, 25, 9, 10, 11, 12, 7, 13, 14, 15, 16, 2, 3, 4, 6, 8, 35, 36, 37, 38, 39, 40] (by decide +kernel) (by decide +kernel)
set_option maxRecDepth 20000 in
theorem gX2_whole_X2_begin : GoodIn wsX2_whole (wsV RX2 54 RX2 yX2_begin wsX2_begin) := goodIn_app (goodIn_of _ (by decide +kernel)) ggX2_whole_X2_begin
set_option maxRecDepth 20000 in
theorem ggX2_whole_X2_figure : GoodIn wsX2_whole wsX2_figure := goodIn_r _ [29, 30, 7, 31, 32, 33, 5, 34, 2, 3, 4, 6, 8, 9, 10, 11, 12, 13, 14, 15, 16, 17, 1, 22, 23, 24, 25, 35, 36, 37, 38, 39, 40] (by decide +kernel) (by decide +kernel)
set_option maxRecDepth 20000 in
theorem gX2_whole_X2_figure : GoodIn wsX2_whole (wsV RX2 64 RX2 yX2_figure wsX2_figure) := goodIn_app (goodIn_of _ (by decide +kernel)) ggX2_whole_X2_figure
theorem dX2_whole_0 : decode cX2_whole 0 = .ok (.lconst 0, 1) := by decide +kernel
theorem dX2_whole_1 : decode cX2_whole 1 = .ok (.lstore 6, 2) := by decide +kernel
theorem dX2_whole_3 : decode cX2_whole 3 = .ok (.iconst 0, 1) := by decide +kernel
theorem dX2_whole_4 : decode cX2_whole 4 = .ok (.istore 8, 2) := by decide +kernel
theorem dX2_whole_6 : decode cX2_whole 6 = .ok (.iload 8, 2) := by decide +kernel
theorem dX2_whole_8 : decode cX2_whole 8 = .ok (.aload_n 0, 1) := by decide +kernel
theorem dX2_whole_9 : decode cX2_whole 9 = .ok (.iload_n 1, 1) := by decide +kernel
theorem dX2_whole_10 : decode cX2_whole 10 = .ok (.invokevirtual 43, 3) := by decide +kernel
theorem dX2_whole_13 : decode cX2_whole 13 = .ok (.if_icmp .ge 74, 3) := by decide +kernel
theorem dX2_whole_16 : decode cX2_whole 16 = .ok (.aload_n 0, 1) := by decide +kernel
theorem dX2_whole_17 : decode cX2_whole 17 = .ok (.iload_n 1, 1) := by decide +kernel
theorem dX2_whole_18 : decode cX2_whole 18 = .ok (.iload 8, 2) := by decide +kernel
theorem dX2_whole_20 : decode cX2_whole 20 = .ok (.invokevirtual 54, 3) := by decide +kernel
theorem dX2_whole_23 : decode cX2_whole 23 = .ok (.lstore 9, 2) := by decide +kernel
theorem dX2_whole_25 : decode cX2_whole 25 = .ok (.lload 9, 2) := by decide +kernel
theorem dX2_whole_27 : decode cX2_whole 27 = .ok (.aload_n 0, 1) := by decide +kernel
theorem dX2_whole_28 : decode cX2_whole 28 = .ok (.getfield 13, 3) := by decide +kernel
theorem dX2_whole_31 : decode cX2_whole 31 = .ok (.iload_n 1, 1) := by decide +kernel
theorem dX2_whole_32 : decode cX2_whole 32 = .ok (.laload, 1) := by decide +kernel
theorem dX2_whole_33 : decode cX2_whole 33 = .ok (.ladd, 1) := by decide +kernel
theorem dX2_whole_34 : decode cX2_whole 34 = .ok (.lconst 1, 1) := by decide +kernel
theorem dX2_whole_35 : decode cX2_whole 35 = .ok (.lsub, 1) := by decide +kernel
theorem dX2_whole_36 : decode cX2_whole 36 = .ok (.lstore 11, 2) := by decide +kernel
theorem dX2_whole_38 : decode cX2_whole 38 = .ok (.lload 9, 2) := by decide +kernel
theorem dX2_whole_40 : decode cX2_whole 40 = .ok (.iload_n 2, 1) := by decide +kernel
theorem dX2_whole_41 : decode cX2_whole 41 = .ok (.i2l, 1) := by decide +kernel
theorem dX2_whole_42 : decode cX2_whole 42 = .ok (.lcmp, 1) := by decide +kernel
theorem dX2_whole_43 : decode cX2_whole 43 = .ok (.ifCond .lt 34, 3) := by decide +kernel
theorem dX2_whole_46 : decode cX2_whole 46 = .ok (.lload 11, 2) := by decide +kernel
theorem dX2_whole_48 : decode cX2_whole 48 = .ok (.iload_n 3, 1) := by decide +kernel
theorem dX2_whole_49 : decode cX2_whole 49 = .ok (.i2l, 1) := by decide +kernel
theorem dX2_whole_50 : decode cX2_whole 50 = .ok (.lcmp, 1) := by decide +kernel
theorem dX2_whole_51 : decode cX2_whole 51 = .ok (.ifCond .gt 26, 3) := by decide +kernel
theorem dX2_whole_54 : decode cX2_whole 54 = .ok (.lload 11, 2) := by decide +kernel
theorem dX2_whole_56 : decode cX2_whole 56 = .ok (.lload 4, 2) := by decide +kernel
theorem dX2_whole_58 : decode cX2_whole 58 = .ok (.lcmp, 1) := by decide +kernel
theorem dX2_whole_59 : decode cX2_whole 59 = .ok (.ifCond .ge 18, 3) := by decide +kernel
theorem dX2_whole_62 : decode cX2_whole 62 = .ok (.lload 6, 2) := by decide +kernel
theorem dX2_whole_64 : decode cX2_whole 64 = .ok (.aload_n 0, 1) := by decide +kernel
theorem dX2_whole_65 : decode cX2_whole 65 = .ok (.iload_n 1, 1) := by decide +kernel
theorem dX2_whole_66 : decode cX2_whole 66 = .ok (.iload 8, 2) := by decide +kernel
theorem dX2_whole_68 : decode cX2_whole 68 = .ok (.iconst 3, 1) := by decide +kernel
theorem dX2_whole_69 : decode cX2_whole 69 = .ok (.invokevirtual 64, 3) := by decide +kernel
theorem dX2_whole_72 : decode cX2_whole 72 = .ok (.i2l, 1) := by decide +kernel
theorem dX2_whole_73 : decode cX2_whole 73 = .ok (.ladd, 1) := by decide +kernel
theorem dX2_whole_74 : decode cX2_whole 74 = .ok (.goto 5, 3) := by decide +kernel
theorem dX2_whole_77 : decode cX2_whole 77 = .ok (.lload 6, 2) := by decide +kernel
theorem dX2_whole_79 : decode cX2_whole 79 = .ok (.lstore 6, 2) := by decide +kernel
theorem dX2_whole_81 : decode cX2_whole 81 = .ok (.iinc 8 1, 3) := by decide +kernel
theorem dX2_whole_84 : decode cX2_whole 84 = .ok (.goto (-78), 3) := by decide +kernel
theorem dX2_whole_87 : decode cX2_whole 87 = .ok (.lload 6, 2) := by decide +kernel
theorem dX2_whole_89 : decode cX2_whole 89 = .ok (.lreturn, 1) := by decide +kernel
set_option maxRecDepth 20000 in
theorem ggX2_reach_X2_kept : GoodIn wsX2_reach wsX2_kept := goodIn_r _ [7, 1, 8, 9, 10, 11, 6, 12, 13, 14, 15, 16, 2, 17, 47, 48, 49, 50, 51, 52] (by decide +kernel) (by decide +kernel)
set_option maxRecDepth 20000 in
theorem gX2_reach_X2_kept : GoodIn wsX2_reach (wsV RX2 43 RX2 yX2_kept wsX2_kept) := goodIn_app (goodIn_of _ (by decide +kernel)) ggX2_reach_X2_kept
set_option maxRecDepth 20000 in
theorem ggX2_reach_X2_begin : GoodIn wsX2_reach wsX2_begin := goodIn_r _ [21, 2, 17, 22, 23, 24, 6, 25, 9, 10, 11, 12, 1, 13, 14, 15, 16, 3, 4, 5, 7, 8, 47, 48, 49, 50, 51, 52] (by decide +kernel) (by decide +kernel)
set_option maxRecDepth 20000 in
theorem gX2_reach_X2_begin : GoodIn wsX2_reach (wsV RX2 54 RX2 yX2_begin wsX2_begin) := goodIn_app (goodIn_of _ (by decide +kernel)) ggX2_reach_X2_begin
set_option maxRecDepth 20000 in
theorem ggX2_reach_X2_many : GoodIn wsX2_reach wsX2_many := goodIn_r _ [29, 1, 30, 31, 32, 6, 33, 2, 3, 4, 5, 7, 8, 9, 10, 11, 12, 13, 14, 15, 16, 17, 47, 48, 49, 50, 51, 52] (by decide +kernel) (by decide +kernel)
set_option maxRecDepth 20000 in
theorem gX2_reach_X2_many : GoodIn wsX2_reach (wsV RX2 61 RX2 yX2_many wsX2_many) := goodIn_app (goodIn_of _ (by decide +kernel)) ggX2_reach_X2_many
set_option maxRecDepth 20000 in
theorem ggX2_reach_X2_whole : GoodIn wsX2_reach wsX2_whole := goodIn_r _ [37, 17, 3, 4, 5, 6, 7, 1, 8, 9, 10, 11, 12, 13, 14, 15, 16, 2, 18, 19, 20, 21, 22, 23, 24, 25, 38, 39, 40, 41, 42, 43, 44, 45, 46, 47, 48, 49, 50, 51, 52] (by decide +kernel) (by decide +kernel)
set_option maxRecDepth 20000 in
theorem gX2_reach_X2_whole : GoodIn wsX2_reach (wsV RX2 67 RX2 yX2_whole wsX2_whole) := goodIn_app (goodIn_of _ (by decide +kernel)) ggX2_reach_X2_whole
theorem dX2_reach_0 : decode cX2_reach 0 = .ok (.aload_n 0, 1) := by decide +kernel
theorem dX2_reach_1 : decode cX2_reach 1 = .ok (.getfield 32, 3) := by decide +kernel
theorem dX2_reach_4 : decode cX2_reach 4 = .ok (.ifCond .ne 5, 3) := by decide +kernel
theorem dX2_reach_7 : decode cX2_reach 7 = .ok (.lconst 0, 1) := by decide +kernel
theorem dX2_reach_8 : decode cX2_reach 8 = .ok (.lreturn, 1) := by decide +kernel
theorem dX2_reach_9 : decode cX2_reach 9 = .ok (.aload_n 0, 1) := by decide +kernel
theorem dX2_reach_10 : decode cX2_reach 10 = .ok (.getfield 17, 3) := by decide +kernel
theorem dX2_reach_13 : decode cX2_reach 13 = .ok (.aload_n 0, 1) := by decide +kernel
theorem dX2_reach_14 : decode cX2_reach 14 = .ok (.getfield 32, 3) := by decide +kernel
theorem dX2_reach_17 : decode cX2_reach 17 = .ok (.aload_n 0, 1) := by decide +kernel
theorem dX2_reach_18 : decode cX2_reach 18 = .ok (.iconst 0, 1) := by decide +kernel
theorem dX2_reach_19 : decode cX2_reach 19 = .ok (.invokevirtual 43, 3) := by decide +kernel
theorem dX2_reach_22 : decode cX2_reach 22 = .ok (.isub, 1) := by decide +kernel
theorem dX2_reach_23 : decode cX2_reach 23 = .ok (.iaload, 1) := by decide +kernel
theorem dX2_reach_24 : decode cX2_reach 24 = .ok (.i2l, 1) := by decide +kernel
theorem dX2_reach_25 : decode cX2_reach 25 = .ok (.lstore_n 3, 1) := by decide +kernel
theorem dX2_reach_26 : decode cX2_reach 26 = .ok (.aload_n 0, 1) := by decide +kernel
theorem dX2_reach_27 : decode cX2_reach 27 = .ok (.iconst 1, 1) := by decide +kernel
theorem dX2_reach_28 : decode cX2_reach 28 = .ok (.iconst 0, 1) := by decide +kernel
theorem dX2_reach_29 : decode cX2_reach 29 = .ok (.invokevirtual 54, 3) := by decide +kernel
theorem dX2_reach_32 : decode cX2_reach 32 = .ok (.lstore 5, 2) := by decide +kernel
theorem dX2_reach_34 : decode cX2_reach 34 = .ok (.aload_n 0, 1) := by decide +kernel
theorem dX2_reach_35 : decode cX2_reach 35 = .ok (.iload_n 1, 1) := by decide +kernel
theorem dX2_reach_36 : decode cX2_reach 36 = .ok (.iload_n 2, 1) := by decide +kernel
theorem dX2_reach_37 : decode cX2_reach 37 = .ok (.invokevirtual 61, 3) := by decide +kernel
theorem dX2_reach_40 : decode cX2_reach 40 = .ok (.i2l, 1) := by decide +kernel
theorem dX2_reach_41 : decode cX2_reach 41 = .ok (.aload_n 0, 1) := by decide +kernel
theorem dX2_reach_42 : decode cX2_reach 42 = .ok (.iconst 1, 1) := by decide +kernel
theorem dX2_reach_43 : decode cX2_reach 43 = .ok (.iload_n 1, 1) := by decide +kernel
theorem dX2_reach_44 : decode cX2_reach 44 = .ok (.iload_n 2, 1) := by decide +kernel
theorem dX2_reach_45 : decode cX2_reach 45 = .ok (.lload_n 3, 1) := by decide +kernel
theorem dX2_reach_46 : decode cX2_reach 46 = .ok (.invokevirtual 67, 3) := by decide +kernel
theorem dX2_reach_49 : decode cX2_reach 49 = .ok (.ladd, 1) := by decide +kernel
theorem dX2_reach_50 : decode cX2_reach 50 = .ok (.aload_n 0, 1) := by decide +kernel
theorem dX2_reach_51 : decode cX2_reach 51 = .ok (.iconst 2, 1) := by decide +kernel
theorem dX2_reach_52 : decode cX2_reach 52 = .ok (.iload_n 1, 1) := by decide +kernel
theorem dX2_reach_53 : decode cX2_reach 53 = .ok (.iload_n 2, 1) := by decide +kernel
theorem dX2_reach_54 : decode cX2_reach 54 = .ok (.lload 5, 2) := by decide +kernel
theorem dX2_reach_56 : decode cX2_reach 56 = .ok (.lload_n 3, 1) := by decide +kernel
theorem dX2_reach_57 : decode cX2_reach 57 = .ok (.lcmp, 1) := by decide +kernel
theorem dX2_reach_58 : decode cX2_reach 58 = .ok (.ifCond .ge 8, 3) := by decide +kernel
theorem dX2_reach_61 : decode cX2_reach 61 = .ok (.lload 5, 2) := by decide +kernel
theorem dX2_reach_63 : decode cX2_reach 63 = .ok (.goto 4, 3) := by decide +kernel
theorem dX2_reach_66 : decode cX2_reach 66 = .ok (.lload_n 3, 1) := by decide +kernel
theorem dX2_reach_67 : decode cX2_reach 67 = .ok (.invokevirtual 67, 3) := by decide +kernel
theorem dX2_reach_70 : decode cX2_reach 70 = .ok (.ladd, 1) := by decide +kernel
theorem dX2_reach_71 : decode cX2_reach 71 = .ok (.lreturn, 1) := by decide +kernel
theorem dX2_sound_0 : decode cX2_sound 0 = .ok (.iconst 1, 1) := by decide +kernel
theorem dX2_sound_1 : decode cX2_sound 1 = .ok (.ireturn, 1) := by decide +kernel
theorem dJ9_max_7cf53_0 : decode cJ9_max_7cf53 0 = .ok (.iload_n 0, 1) := by decide +kernel
theorem dJ9_max_7cf53_1 : decode cJ9_max_7cf53 1 = .ok (.iload_n 1, 1) := by decide +kernel
theorem dJ9_max_7cf53_2 : decode cJ9_max_7cf53 2 = .ok (.if_icmp .lt 7, 3) := by decide +kernel
theorem dJ9_max_7cf53_5 : decode cJ9_max_7cf53 5 = .ok (.iload_n 0, 1) := by decide +kernel
theorem dJ9_max_7cf53_6 : decode cJ9_max_7cf53 6 = .ok (.goto 4, 3) := by decide +kernel
theorem dJ9_max_7cf53_9 : decode cJ9_max_7cf53 9 = .ok (.iload_n 1, 1) := by decide +kernel
theorem dJ9_max_7cf53_10 : decode cJ9_max_7cf53 10 = .ok (.ireturn, 1) := by decide +kernel
theorem dJ9_min_7cf53_0 : decode cJ9_min_7cf53 0 = .ok (.iload_n 0, 1) := by decide +kernel
theorem dJ9_min_7cf53_1 : decode cJ9_min_7cf53 1 = .ok (.iload_n 1, 1) := by decide +kernel
theorem dJ9_min_7cf53_2 : decode cJ9_min_7cf53 2 = .ok (.if_icmp .gt 7, 3) := by decide +kernel
theorem dJ9_min_7cf53_5 : decode cJ9_min_7cf53 5 = .ok (.iload_n 0, 1) := by decide +kernel
theorem dJ9_min_7cf53_6 : decode cJ9_min_7cf53 6 = .ok (.goto 4, 3) := by decide +kernel
theorem dJ9_min_7cf53_9 : decode cJ9_min_7cf53 9 = .ok (.iload_n 1, 1) := by decide +kernel
theorem dJ9_min_7cf53_10 : decode cJ9_min_7cf53 10 = .ok (.ireturn, 1) := by decide +kernel
theorem dJ9_min_f86c9_0 : decode cJ9_min_f86c9 0 = .ok (.lload_n 0, 1) := by decide +kernel
theorem dJ9_min_f86c9_1 : decode cJ9_min_f86c9 1 = .ok (.lload_n 2, 1) := by decide +kernel
theorem dJ9_min_f86c9_2 : decode cJ9_min_f86c9 2 = .ok (.lcmp, 1) := by decide +kernel
theorem dJ9_min_f86c9_3 : decode cJ9_min_f86c9 3 = .ok (.ifCond .gt 7, 3) := by decide +kernel
theorem dJ9_min_f86c9_6 : decode cJ9_min_f86c9 6 = .ok (.lload_n 0, 1) := by decide +kernel
theorem dJ9_min_f86c9_7 : decode cJ9_min_f86c9 7 = .ok (.goto 4, 3) := by decide +kernel
theorem dJ9_min_f86c9_10 : decode cJ9_min_f86c9 10 = .ok (.lload_n 2, 1) := by decide +kernel
theorem dJ9_min_f86c9_11 : decode cJ9_min_f86c9 11 = .ok (.lreturn, 1) := by decide +kernel

theorem dX9_gives_52 : decode cX9_gives 52 = .ok (.iconst 2, 1) := by decide +kernel
theorem dX9_gives_53 : decode cX9_gives 53 = .ok (.idiv, 1) := by decide +kernel
theorem dX9_gives_54 : decode cX9_gives 54 = .ok (.ireturn, 1) := by decide +kernel
set_option maxRecDepth 20000 in
theorem ggX9_told_X9_isOne : GoodIn wsX9_told wsX9_isOne := goodIn_r _ [10, 11, 12, 13, 9, 14, 19, 20, 21, 22, 23, 24, 25, 26, 27, 28, 29, 30, 31, 32, 33, 34, 35, 36, 37, 38, 39, 40, 41, 42, 43, 44, 45, 46, 47, 48, 49] rfl (by decide +kernel)
set_option maxRecDepth 20000 in
theorem gX9_told_X9_isOne : GoodIn wsX9_told (wsV RX9 94 RX9 yX9_isOne wsX9_isOne) := goodIn_app (goodIn_of _ (by decide +kernel)) ggX9_told_X9_isOne
set_option maxRecDepth 20000 in
theorem ggX9_told_X9_in : GoodIn wsX9_told wsX9_in := goodIn_r _ [14] rfl (by decide +kernel)
set_option maxRecDepth 20000 in
theorem gX9_told_X9_in : GoodIn wsX9_told (va_wsS RX9 90 yX9_in wsX9_in) := goodIn_app (goodIn_of _ (by decide +kernel)) ggX9_told_X9_in
set_option maxRecDepth 20000 in
theorem ggX9_told_X9_gives : GoodIn wsX9_told wsX9_gives := goodIn_r _ [18, 2, 19, 20, 21, 22, 23, 24, 25, 26, 27, 28, 29, 30, 31, 32, 33, 34, 35, 36, 37, 38, 39, 40, 41, 42, 43, 44, 45, 46, 47, 48, 49] rfl (by decide +kernel)
set_option maxRecDepth 20000 in
theorem gX9_told_X9_gives : GoodIn wsX9_told (wsV RX9 108 RX9 yX9_gives wsX9_gives) := goodIn_app (goodIn_of _ (by decide +kernel)) ggX9_told_X9_gives
theorem dX9_told_0 : decode cX9_told 0 = .ok (.aload_n 0, 1) := by decide +kernel
theorem dX9_told_1 : decode cX9_told 1 = .ok (.iload_n 1, 1) := by decide +kernel
theorem dX9_told_2 : decode cX9_told 2 = .ok (.invokevirtual 94, 3) := by decide +kernel
theorem dX9_told_5 : decode cX9_told 5 = .ok (.ifCond .eq 15, 3) := by decide +kernel
theorem dX9_told_8 : decode cX9_told 8 = .ok (.iload_n 2, 1) := by decide +kernel
theorem dX9_told_9 : decode cX9_told 9 = .ok (.i2l, 1) := by decide +kernel
theorem dX9_told_10 : decode cX9_told 10 = .ok (.lconst 0, 1) := by decide +kernel
theorem dX9_told_11 : decode cX9_told 11 = .ok (.ldc2_w 106, 3) := by decide +kernel
theorem dX9_told_14 : decode cX9_told 14 = .ok (.invokestatic 90, 3) := by decide +kernel
theorem dX9_told_17 : decode cX9_told 17 = .ok (.ifCond .ne 5, 3) := by decide +kernel
theorem dX9_told_20 : decode cX9_told 20 = .ok (.iconst (-1), 1) := by decide +kernel
theorem dX9_told_21 : decode cX9_told 21 = .ok (.ireturn, 1) := by decide +kernel
theorem dX9_told_22 : decode cX9_told 22 = .ok (.iload_n 2, 1) := by decide +kernel
theorem dX9_told_23 : decode cX9_told 23 = .ok (.ifCond .ne 12, 3) := by decide +kernel
theorem dX9_told_26 : decode cX9_told 26 = .ok (.aload_n 0, 1) := by decide +kernel
theorem dX9_told_27 : decode cX9_told 27 = .ok (.getfield 7, 3) := by decide +kernel
theorem dX9_told_30 : decode cX9_told 30 = .ok (.iload_n 1, 1) := by decide +kernel
theorem dX9_told_31 : decode cX9_told 31 = .ok (.iaload, 1) := by decide +kernel
theorem dX9_told_32 : decode cX9_told 32 = .ok (.goto 56, 3) := by decide +kernel
theorem dX9_told_35 : decode cX9_told 35 = .ok (.iload_n 2, 1) := by decide +kernel
theorem dX9_told_36 : decode cX9_told 36 = .ok (.iconst 1, 1) := by decide +kernel
theorem dX9_told_37 : decode cX9_told 37 = .ok (.if_icmp .ne 12, 3) := by decide +kernel
theorem dX9_told_40 : decode cX9_told 40 = .ok (.aload_n 0, 1) := by decide +kernel
theorem dX9_told_41 : decode cX9_told 41 = .ok (.getfield 13, 3) := by decide +kernel
theorem dX9_told_44 : decode cX9_told 44 = .ok (.iload_n 1, 1) := by decide +kernel
theorem dX9_told_45 : decode cX9_told 45 = .ok (.iaload, 1) := by decide +kernel
theorem dX9_told_46 : decode cX9_told 46 = .ok (.goto 42, 3) := by decide +kernel
theorem dX9_told_49 : decode cX9_told 49 = .ok (.iload_n 2, 1) := by decide +kernel
theorem dX9_told_50 : decode cX9_told 50 = .ok (.iconst 2, 1) := by decide +kernel
theorem dX9_told_51 : decode cX9_told 51 = .ok (.if_icmp .ne 17, 3) := by decide +kernel
theorem dX9_told_54 : decode cX9_told 54 = .ok (.aload_n 0, 1) := by decide +kernel
theorem dX9_told_55 : decode cX9_told 55 = .ok (.iload_n 1, 1) := by decide +kernel
theorem dX9_told_56 : decode cX9_told 56 = .ok (.aload_n 0, 1) := by decide +kernel
theorem dX9_told_57 : decode cX9_told 57 = .ok (.getfield 13, 3) := by decide +kernel
theorem dX9_told_60 : decode cX9_told 60 = .ok (.iload_n 1, 1) := by decide +kernel
theorem dX9_told_61 : decode cX9_told 61 = .ok (.iaload, 1) := by decide +kernel
theorem dX9_told_62 : decode cX9_told 62 = .ok (.invokevirtual 108, 3) := by decide +kernel
theorem dX9_told_65 : decode cX9_told 65 = .ok (.goto 23, 3) := by decide +kernel
theorem dX9_told_68 : decode cX9_told 68 = .ok (.iload_n 2, 1) := by decide +kernel
theorem dX9_told_69 : decode cX9_told 69 = .ok (.iconst 3, 1) := by decide +kernel
theorem dX9_told_70 : decode cX9_told 70 = .ok (.if_icmp .ne 12, 3) := by decide +kernel
theorem dX9_told_73 : decode cX9_told 73 = .ok (.aload_n 0, 1) := by decide +kernel
theorem dX9_told_74 : decode cX9_told 74 = .ok (.getfield 16, 3) := by decide +kernel
theorem dX9_told_77 : decode cX9_told 77 = .ok (.iload_n 1, 1) := by decide +kernel
theorem dX9_told_78 : decode cX9_told 78 = .ok (.iaload, 1) := by decide +kernel
theorem dX9_told_79 : decode cX9_told 79 = .ok (.goto 9, 3) := by decide +kernel
theorem dX9_told_82 : decode cX9_told 82 = .ok (.aload_n 0, 1) := by decide +kernel
theorem dX9_told_83 : decode cX9_told 83 = .ok (.getfield 19, 3) := by decide +kernel
theorem dX9_told_86 : decode cX9_told 86 = .ok (.iload_n 1, 1) := by decide +kernel
theorem dX9_told_87 : decode cX9_told 87 = .ok (.iaload, 1) := by decide +kernel
theorem dX9_told_88 : decode cX9_told 88 = .ok (.ireturn, 1) := by decide +kernel
set_option maxRecDepth 20000 in
theorem ggX9_knows_X9_areTwo : GoodIn wsX9_knows wsX9_areTwo := goodIn_r _ [6, 7, 8, 9, 5, 10, 11, 12, 13, 14, 15, 16, 17, 18, 19, 20, 21, 22, 23, 24, 25, 26, 27, 28, 29, 30, 31, 32, 33, 34, 35, 36, 37, 38, 39, 40, 41, 42, 43, 44, 45] rfl (by decide +kernel)
set_option maxRecDepth 20000 in
theorem gX9_knows_X9_areTwo : GoodIn wsX9_knows (wsV RX9 112 RX9 yX9_areTwo wsX9_areTwo) := goodIn_app (goodIn_of _ (by decide +kernel)) ggX9_knows_X9_areTwo
theorem dX9_knows_0 : decode cX9_knows 0 = .ok (.aload_n 0, 1) := by decide +kernel
theorem dX9_knows_1 : decode cX9_knows 1 = .ok (.iload_n 1, 1) := by decide +kernel
theorem dX9_knows_2 : decode cX9_knows 2 = .ok (.iload_n 2, 1) := by decide +kernel
theorem dX9_knows_3 : decode cX9_knows 3 = .ok (.invokevirtual 112, 3) := by decide +kernel
theorem dX9_knows_6 : decode cX9_knows 6 = .ok (.ifCond .ne 5, 3) := by decide +kernel
theorem dX9_knows_9 : decode cX9_knows 9 = .ok (.iconst (-1), 1) := by decide +kernel
theorem dX9_knows_10 : decode cX9_knows 10 = .ok (.ireturn, 1) := by decide +kernel
theorem dX9_knows_11 : decode cX9_knows 11 = .ok (.aload_n 0, 1) := by decide +kernel
theorem dX9_knows_12 : decode cX9_knows 12 = .ok (.getfield 16, 3) := by decide +kernel
theorem dX9_knows_15 : decode cX9_knows 15 = .ok (.iload_n 1, 1) := by decide +kernel
theorem dX9_knows_16 : decode cX9_knows 16 = .ok (.iaload, 1) := by decide +kernel
theorem dX9_knows_17 : decode cX9_knows 17 = .ok (.iload_n 2, 1) := by decide +kernel
theorem dX9_knows_18 : decode cX9_knows 18 = .ok (.ishr, 1) := by decide +kernel
theorem dX9_knows_19 : decode cX9_knows 19 = .ok (.iconst 1, 1) := by decide +kernel
theorem dX9_knows_20 : decode cX9_knows 20 = .ok (.iand, 1) := by decide +kernel
theorem dX9_knows_21 : decode cX9_knows 21 = .ok (.istore 4, 2) := by decide +kernel
theorem dX9_knows_23 : decode cX9_knows 23 = .ok (.aload_n 0, 1) := by decide +kernel
theorem dX9_knows_24 : decode cX9_knows 24 = .ok (.getfield 16, 3) := by decide +kernel
theorem dX9_knows_27 : decode cX9_knows 27 = .ok (.iload_n 1, 1) := by decide +kernel
theorem dX9_knows_28 : decode cX9_knows 28 = .ok (.iload_n 3, 1) := by decide +kernel
theorem dX9_knows_29 : decode cX9_knows 29 = .ok (.ifCond .eq 16, 3) := by decide +kernel
theorem dX9_knows_32 : decode cX9_knows 32 = .ok (.aload_n 0, 1) := by decide +kernel
theorem dX9_knows_33 : decode cX9_knows 33 = .ok (.getfield 16, 3) := by decide +kernel
theorem dX9_knows_36 : decode cX9_knows 36 = .ok (.iload_n 1, 1) := by decide +kernel
theorem dX9_knows_37 : decode cX9_knows 37 = .ok (.iaload, 1) := by decide +kernel
theorem dX9_knows_38 : decode cX9_knows 38 = .ok (.iconst 1, 1) := by decide +kernel
theorem dX9_knows_39 : decode cX9_knows 39 = .ok (.iload_n 2, 1) := by decide +kernel
theorem dX9_knows_40 : decode cX9_knows 40 = .ok (.ishl, 1) := by decide +kernel
theorem dX9_knows_41 : decode cX9_knows 41 = .ok (.ior, 1) := by decide +kernel
theorem dX9_knows_42 : decode cX9_knows 42 = .ok (.goto 15, 3) := by decide +kernel
theorem dX9_knows_45 : decode cX9_knows 45 = .ok (.aload_n 0, 1) := by decide +kernel
theorem dX9_knows_46 : decode cX9_knows 46 = .ok (.getfield 16, 3) := by decide +kernel
theorem dX9_knows_49 : decode cX9_knows 49 = .ok (.iload_n 1, 1) := by decide +kernel
theorem dX9_knows_50 : decode cX9_knows 50 = .ok (.iaload, 1) := by decide +kernel
theorem dX9_knows_51 : decode cX9_knows 51 = .ok (.iconst 1, 1) := by decide +kernel
theorem dX9_knows_52 : decode cX9_knows 52 = .ok (.iload_n 2, 1) := by decide +kernel
theorem dX9_knows_53 : decode cX9_knows 53 = .ok (.ishl, 1) := by decide +kernel
theorem dX9_knows_54 : decode cX9_knows 54 = .ok (.iconst (-1), 1) := by decide +kernel
theorem dX9_knows_55 : decode cX9_knows 55 = .ok (.ixor, 1) := by decide +kernel
theorem dX9_knows_56 : decode cX9_knows 56 = .ok (.iand, 1) := by decide +kernel
theorem dX9_knows_57 : decode cX9_knows 57 = .ok (.iastore, 1) := by decide +kernel
theorem dX9_knows_58 : decode cX9_knows 58 = .ok (.iload 4, 2) := by decide +kernel
theorem dX9_knows_60 : decode cX9_knows 60 = .ok (.ireturn, 1) := by decide +kernel
theorem dX9_begin_0 : decode cX9_begin 0 = .ok (.iconst 0, 1) := by decide +kernel
theorem dX9_begin_1 : decode cX9_begin 1 = .ok (.istore_n 1, 1) := by decide +kernel
theorem dX9_begin_2 : decode cX9_begin 2 = .ok (.iload_n 1, 1) := by decide +kernel
theorem dX9_begin_3 : decode cX9_begin 3 = .ok (.iconst 5, 1) := by decide +kernel
theorem dX9_begin_4 : decode cX9_begin 4 = .ok (.if_icmp .ge 33, 3) := by decide +kernel
theorem dX9_begin_7 : decode cX9_begin 7 = .ok (.aload_n 0, 1) := by decide +kernel
theorem dX9_begin_8 : decode cX9_begin 8 = .ok (.getfield 25, 3) := by decide +kernel
theorem dX9_begin_11 : decode cX9_begin 11 = .ok (.iload_n 1, 1) := by decide +kernel
theorem dX9_begin_12 : decode cX9_begin 12 = .ok (.aload_n 0, 1) := by decide +kernel
theorem dX9_begin_13 : decode cX9_begin 13 = .ok (.getfield 13, 3) := by decide +kernel
theorem dX9_begin_16 : decode cX9_begin 16 = .ok (.iload_n 1, 1) := by decide +kernel
theorem dX9_begin_17 : decode cX9_begin 17 = .ok (.iaload, 1) := by decide +kernel
theorem dX9_begin_18 : decode cX9_begin 18 = .ok (.iastore, 1) := by decide +kernel
theorem dX9_begin_19 : decode cX9_begin 19 = .ok (.aload_n 0, 1) := by decide +kernel
theorem dX9_begin_20 : decode cX9_begin 20 = .ok (.getfield 28, 3) := by decide +kernel
theorem dX9_begin_23 : decode cX9_begin 23 = .ok (.iload_n 1, 1) := by decide +kernel
theorem dX9_begin_24 : decode cX9_begin 24 = .ok (.aload_n 0, 1) := by decide +kernel
theorem dX9_begin_25 : decode cX9_begin 25 = .ok (.getfield 19, 3) := by decide +kernel
theorem dX9_begin_28 : decode cX9_begin 28 = .ok (.iload_n 1, 1) := by decide +kernel
theorem dX9_begin_29 : decode cX9_begin 29 = .ok (.iaload, 1) := by decide +kernel
theorem dX9_begin_30 : decode cX9_begin 30 = .ok (.iastore, 1) := by decide +kernel
theorem dX9_begin_31 : decode cX9_begin 31 = .ok (.iinc 1 1, 3) := by decide +kernel
theorem dX9_begin_34 : decode cX9_begin 34 = .ok (.goto (-32), 3) := by decide +kernel
theorem dX9_begin_37 : decode cX9_begin 37 = .ok (.return_, 1) := by decide +kernel
theorem dX9_newWeek_0 : decode cX9_newWeek 0 = .ok (.iconst 0, 1) := by decide +kernel
theorem dX9_newWeek_1 : decode cX9_newWeek 1 = .ok (.istore_n 1, 1) := by decide +kernel
theorem dX9_newWeek_2 : decode cX9_newWeek 2 = .ok (.iload_n 1, 1) := by decide +kernel
theorem dX9_newWeek_3 : decode cX9_newWeek 3 = .ok (.iconst 5, 1) := by decide +kernel
theorem dX9_newWeek_4 : decode cX9_newWeek 4 = .ok (.if_icmp .ge 16, 3) := by decide +kernel
theorem dX9_newWeek_7 : decode cX9_newWeek 7 = .ok (.aload_n 0, 1) := by decide +kernel
theorem dX9_newWeek_8 : decode cX9_newWeek 8 = .ok (.getfield 28, 3) := by decide +kernel
theorem dX9_newWeek_11 : decode cX9_newWeek 11 = .ok (.iload_n 1, 1) := by decide +kernel
theorem dX9_newWeek_12 : decode cX9_newWeek 12 = .ok (.iconst 0, 1) := by decide +kernel
theorem dX9_newWeek_13 : decode cX9_newWeek 13 = .ok (.iastore, 1) := by decide +kernel
theorem dX9_newWeek_14 : decode cX9_newWeek 14 = .ok (.iinc 1 1, 3) := by decide +kernel
theorem dX9_newWeek_17 : decode cX9_newWeek 17 = .ok (.goto (-15), 3) := by decide +kernel
theorem dX9_newWeek_20 : decode cX9_newWeek 20 = .ok (.return_, 1) := by decide +kernel
set_option maxRecDepth 20000 in
theorem ggX9_tryAsk_X9_has : GoodIn wsX9_tryAsk wsX9_has := goodIn_r _ [7] rfl (by decide +kernel)
set_option maxRecDepth 20000 in
theorem gX9_tryAsk_X9_has : GoodIn wsX9_tryAsk (va_wsS RX9 116 yX9_has wsX9_has) := goodIn_app (goodIn_of _ (by decide +kernel)) ggX9_tryAsk_X9_has
set_option maxRecDepth 20000 in
theorem ggX9_tryAsk_X9_gives : GoodIn wsX9_tryAsk wsX9_gives := goodIn_r _ [11, 12, 13, 14, 15, 16, 17, 18, 19, 20, 21, 22, 23, 24, 25, 26, 27, 28, 29, 30, 31, 32, 33, 34, 35, 36, 37, 38, 39, 40, 41, 42, 43] rfl (by decide +kernel)
set_option maxRecDepth 20000 in
theorem gX9_tryAsk_X9_gives : GoodIn wsX9_tryAsk (wsV RX9 108 RX9 yX9_gives wsX9_gives) := goodIn_app (goodIn_of _ (by decide +kernel)) ggX9_tryAsk_X9_gives
theorem dX9_tryAsk_0 : decode cX9_tryAsk 0 = .ok (.aload_n 0, 1) := by decide +kernel
theorem dX9_tryAsk_1 : decode cX9_tryAsk 1 = .ok (.getfield 16, 3) := by decide +kernel
theorem dX9_tryAsk_4 : decode cX9_tryAsk 4 = .ok (.iload_n 1, 1) := by decide +kernel
theorem dX9_tryAsk_5 : decode cX9_tryAsk 5 = .ok (.iaload, 1) := by decide +kernel
theorem dX9_tryAsk_6 : decode cX9_tryAsk 6 = .ok (.iload_n 2, 1) := by decide +kernel
theorem dX9_tryAsk_7 : decode cX9_tryAsk 7 = .ok (.invokestatic 116, 3) := by decide +kernel
theorem dX9_tryAsk_10 : decode cX9_tryAsk 10 = .ok (.ifCond .eq 25, 3) := by decide +kernel
theorem dX9_tryAsk_13 : decode cX9_tryAsk 13 = .ok (.aload_n 0, 1) := by decide +kernel
theorem dX9_tryAsk_14 : decode cX9_tryAsk 14 = .ok (.getfield 25, 3) := by decide +kernel
theorem dX9_tryAsk_17 : decode cX9_tryAsk 17 = .ok (.iload_n 2, 1) := by decide +kernel
theorem dX9_tryAsk_18 : decode cX9_tryAsk 18 = .ok (.iaload, 1) := by decide +kernel
theorem dX9_tryAsk_19 : decode cX9_tryAsk 19 = .ok (.ifCond .eq 16, 3) := by decide +kernel
theorem dX9_tryAsk_22 : decode cX9_tryAsk 22 = .ok (.aload_n 0, 1) := by decide +kernel
theorem dX9_tryAsk_23 : decode cX9_tryAsk 23 = .ok (.getfield 28, 3) := by decide +kernel
theorem dX9_tryAsk_26 : decode cX9_tryAsk 26 = .ok (.iload_n 1, 1) := by decide +kernel
theorem dX9_tryAsk_27 : decode cX9_tryAsk 27 = .ok (.iaload, 1) := by decide +kernel
theorem dX9_tryAsk_28 : decode cX9_tryAsk 28 = .ok (.iload_n 2, 1) := by decide +kernel
theorem dX9_tryAsk_29 : decode cX9_tryAsk 29 = .ok (.invokestatic 116, 3) := by decide +kernel
theorem dX9_tryAsk_32 : decode cX9_tryAsk 32 = .ok (.ifCond .eq 6, 3) := by decide +kernel
theorem dX9_tryAsk_35 : decode cX9_tryAsk 35 = .ok (.bipush (-2), 2) := by decide +kernel
theorem dX9_tryAsk_37 : decode cX9_tryAsk 37 = .ok (.ireturn, 1) := by decide +kernel
theorem dX9_tryAsk_38 : decode cX9_tryAsk 38 = .ok (.aload_n 0, 1) := by decide +kernel
theorem dX9_tryAsk_39 : decode cX9_tryAsk 39 = .ok (.iload_n 2, 1) := by decide +kernel
theorem dX9_tryAsk_40 : decode cX9_tryAsk 40 = .ok (.aload_n 0, 1) := by decide +kernel
theorem dX9_tryAsk_41 : decode cX9_tryAsk 41 = .ok (.getfield 25, 3) := by decide +kernel
theorem dX9_tryAsk_44 : decode cX9_tryAsk 44 = .ok (.iload_n 2, 1) := by decide +kernel
theorem dX9_tryAsk_45 : decode cX9_tryAsk 45 = .ok (.iaload, 1) := by decide +kernel
theorem dX9_tryAsk_46 : decode cX9_tryAsk 46 = .ok (.invokevirtual 108, 3) := by decide +kernel
theorem dX9_tryAsk_49 : decode cX9_tryAsk 49 = .ok (.istore_n 3, 1) := by decide +kernel
theorem dX9_tryAsk_50 : decode cX9_tryAsk 50 = .ok (.aload_n 0, 1) := by decide +kernel
theorem dX9_tryAsk_51 : decode cX9_tryAsk 51 = .ok (.getfield 25, 3) := by decide +kernel
theorem dX9_tryAsk_54 : decode cX9_tryAsk 54 = .ok (.iload_n 2, 1) := by decide +kernel
theorem dX9_tryAsk_55 : decode cX9_tryAsk 55 = .ok (.dup2, 1) := by decide +kernel
theorem dX9_tryAsk_56 : decode cX9_tryAsk 56 = .ok (.iaload, 1) := by decide +kernel
theorem dX9_tryAsk_57 : decode cX9_tryAsk 57 = .ok (.iload_n 3, 1) := by decide +kernel
theorem dX9_tryAsk_58 : decode cX9_tryAsk 58 = .ok (.isub, 1) := by decide +kernel
theorem dX9_tryAsk_59 : decode cX9_tryAsk 59 = .ok (.iastore, 1) := by decide +kernel
theorem dX9_tryAsk_60 : decode cX9_tryAsk 60 = .ok (.aload_n 0, 1) := by decide +kernel
theorem dX9_tryAsk_61 : decode cX9_tryAsk 61 = .ok (.getfield 25, 3) := by decide +kernel
theorem dX9_tryAsk_64 : decode cX9_tryAsk 64 = .ok (.iload_n 1, 1) := by decide +kernel
theorem dX9_tryAsk_65 : decode cX9_tryAsk 65 = .ok (.dup2, 1) := by decide +kernel
theorem dX9_tryAsk_66 : decode cX9_tryAsk 66 = .ok (.iaload, 1) := by decide +kernel
theorem dX9_tryAsk_67 : decode cX9_tryAsk 67 = .ok (.iload_n 3, 1) := by decide +kernel
theorem dX9_tryAsk_68 : decode cX9_tryAsk 68 = .ok (.iadd, 1) := by decide +kernel
theorem dX9_tryAsk_69 : decode cX9_tryAsk 69 = .ok (.iastore, 1) := by decide +kernel
theorem dX9_tryAsk_70 : decode cX9_tryAsk 70 = .ok (.aload_n 0, 1) := by decide +kernel
theorem dX9_tryAsk_71 : decode cX9_tryAsk 71 = .ok (.getfield 28, 3) := by decide +kernel
theorem dX9_tryAsk_74 : decode cX9_tryAsk 74 = .ok (.iload_n 1, 1) := by decide +kernel
theorem dX9_tryAsk_75 : decode cX9_tryAsk 75 = .ok (.dup2, 1) := by decide +kernel
theorem dX9_tryAsk_76 : decode cX9_tryAsk 76 = .ok (.iaload, 1) := by decide +kernel
theorem dX9_tryAsk_77 : decode cX9_tryAsk 77 = .ok (.iconst 1, 1) := by decide +kernel
theorem dX9_tryAsk_78 : decode cX9_tryAsk 78 = .ok (.iload_n 2, 1) := by decide +kernel
theorem dX9_tryAsk_79 : decode cX9_tryAsk 79 = .ok (.ishl, 1) := by decide +kernel
theorem dX9_tryAsk_80 : decode cX9_tryAsk 80 = .ok (.ior, 1) := by decide +kernel
theorem dX9_tryAsk_81 : decode cX9_tryAsk 81 = .ok (.iastore, 1) := by decide +kernel
theorem dX9_tryAsk_82 : decode cX9_tryAsk 82 = .ok (.iload_n 3, 1) := by decide +kernel
theorem dX9_tryAsk_83 : decode cX9_tryAsk 83 = .ok (.ireturn, 1) := by decide +kernel
theorem dX9_keep_0 : decode cX9_keep 0 = .ok (.iconst 0, 1) := by decide +kernel
theorem dX9_keep_1 : decode cX9_keep 1 = .ok (.istore_n 1, 1) := by decide +kernel
theorem dX9_keep_2 : decode cX9_keep 2 = .ok (.iload_n 1, 1) := by decide +kernel
theorem dX9_keep_3 : decode cX9_keep 3 = .ok (.iconst 5, 1) := by decide +kernel
theorem dX9_keep_4 : decode cX9_keep 4 = .ok (.if_icmp .ge 33, 3) := by decide +kernel
theorem dX9_keep_7 : decode cX9_keep 7 = .ok (.aload_n 0, 1) := by decide +kernel
theorem dX9_keep_8 : decode cX9_keep 8 = .ok (.getfield 13, 3) := by decide +kernel
theorem dX9_keep_11 : decode cX9_keep 11 = .ok (.iload_n 1, 1) := by decide +kernel
theorem dX9_keep_12 : decode cX9_keep 12 = .ok (.aload_n 0, 1) := by decide +kernel
theorem dX9_keep_13 : decode cX9_keep 13 = .ok (.getfield 25, 3) := by decide +kernel
theorem dX9_keep_16 : decode cX9_keep 16 = .ok (.iload_n 1, 1) := by decide +kernel
theorem dX9_keep_17 : decode cX9_keep 17 = .ok (.iaload, 1) := by decide +kernel
theorem dX9_keep_18 : decode cX9_keep 18 = .ok (.iastore, 1) := by decide +kernel
theorem dX9_keep_19 : decode cX9_keep 19 = .ok (.aload_n 0, 1) := by decide +kernel
theorem dX9_keep_20 : decode cX9_keep 20 = .ok (.getfield 19, 3) := by decide +kernel
theorem dX9_keep_23 : decode cX9_keep 23 = .ok (.iload_n 1, 1) := by decide +kernel
theorem dX9_keep_24 : decode cX9_keep 24 = .ok (.aload_n 0, 1) := by decide +kernel
theorem dX9_keep_25 : decode cX9_keep 25 = .ok (.getfield 28, 3) := by decide +kernel
theorem dX9_keep_28 : decode cX9_keep 28 = .ok (.iload_n 1, 1) := by decide +kernel
theorem dX9_keep_29 : decode cX9_keep 29 = .ok (.iaload, 1) := by decide +kernel
theorem dX9_keep_30 : decode cX9_keep 30 = .ok (.iastore, 1) := by decide +kernel
theorem dX9_keep_31 : decode cX9_keep 31 = .ok (.iinc 1 1, 3) := by decide +kernel
theorem dX9_keep_34 : decode cX9_keep 34 = .ok (.goto (-32), 3) := by decide +kernel
theorem dX9_keep_37 : decode cX9_keep 37 = .ok (.return_, 1) := by decide +kernel
set_option maxRecDepth 20000 in
theorem ggX9_ask_X9_areTwo : GoodIn wsX9_ask wsX9_areTwo := goodIn_r _ [5, 6, 7, 8, 4, 9, 10, 11, 12, 13, 39, 40, 41, 42, 43, 44, 45, 46, 47, 48, 49, 50, 51, 52, 53, 54, 55, 56, 57, 58, 59, 60, 61, 62, 63, 64, 65, 66, 67, 68, 69] rfl (by decide +kernel)
set_option maxRecDepth 20000 in
theorem gX9_ask_X9_areTwo : GoodIn wsX9_ask (wsV RX9 112 RX9 yX9_areTwo wsX9_areTwo) := goodIn_app (goodIn_of _ (by decide +kernel)) ggX9_ask_X9_areTwo
set_option maxRecDepth 20000 in
theorem ggX9_ask_X9_begin : GoodIn wsX9_ask wsX9_begin := goodIn_r _ [17, 18, 19, 20, 21, 39, 40, 41, 42, 43, 44, 45, 46, 47, 48, 49, 50, 51, 52, 53, 54, 55, 56, 57, 58, 59, 60, 61, 62, 63, 64, 65, 66, 67, 68, 69] rfl (by decide +kernel)
set_option maxRecDepth 20000 in
theorem gX9_ask_X9_begin : GoodIn wsX9_ask (wsV RX9 119 RX9 yX9_begin wsX9_begin) := goodIn_app (goodIn_of _ (by decide +kernel)) ggX9_ask_X9_begin
set_option maxRecDepth 20000 in
theorem ggX9_ask_X9_tryAsk : GoodIn wsX9_ask wsX9_tryAsk := goodIn_r _ [25, 26, 18, 20, 27, 28, 4, 29, 30, 31, 32, 33, 34, 39, 40, 41, 42, 43, 44, 45, 46, 47, 48, 49, 50, 51, 52, 53, 54, 55, 56, 57, 58, 59, 60, 61, 62, 63, 64, 65, 66, 67, 68, 69] rfl (by decide +kernel)
set_option maxRecDepth 20000 in
theorem gX9_ask_X9_tryAsk : GoodIn wsX9_ask (wsV RX9 122 RX9 yX9_tryAsk wsX9_tryAsk) := goodIn_app (goodIn_of _ (by decide +kernel)) ggX9_ask_X9_tryAsk
set_option maxRecDepth 20000 in
theorem ggX9_ask_X9_keep : GoodIn wsX9_ask wsX9_keep := goodIn_r _ [38, 19, 18, 21, 20, 39, 40, 41, 42, 43, 44, 45, 46, 47, 48, 49, 50, 51, 52, 53, 54, 55, 56, 57, 58, 59, 60, 61, 62, 63, 64, 65, 66, 67, 68, 69] rfl (by decide +kernel)
set_option maxRecDepth 20000 in
theorem gX9_ask_X9_keep : GoodIn wsX9_ask (wsV RX9 125 RX9 yX9_keep wsX9_keep) := goodIn_app (goodIn_of _ (by decide +kernel)) ggX9_ask_X9_keep
theorem dX9_ask_0 : decode cX9_ask 0 = .ok (.aload_n 0, 1) := by decide +kernel
theorem dX9_ask_1 : decode cX9_ask 1 = .ok (.iload_n 1, 1) := by decide +kernel
theorem dX9_ask_2 : decode cX9_ask 2 = .ok (.iload_n 2, 1) := by decide +kernel
theorem dX9_ask_3 : decode cX9_ask 3 = .ok (.invokevirtual 112, 3) := by decide +kernel
theorem dX9_ask_6 : decode cX9_ask 6 = .ok (.ifCond .ne 5, 3) := by decide +kernel
theorem dX9_ask_9 : decode cX9_ask 9 = .ok (.iconst (-1), 1) := by decide +kernel
theorem dX9_ask_10 : decode cX9_ask 10 = .ok (.ireturn, 1) := by decide +kernel
theorem dX9_ask_11 : decode cX9_ask 11 = .ok (.aload_n 0, 1) := by decide +kernel
theorem dX9_ask_12 : decode cX9_ask 12 = .ok (.invokevirtual 119, 3) := by decide +kernel
theorem dX9_ask_15 : decode cX9_ask 15 = .ok (.aload_n 0, 1) := by decide +kernel
theorem dX9_ask_16 : decode cX9_ask 16 = .ok (.iload_n 1, 1) := by decide +kernel
theorem dX9_ask_17 : decode cX9_ask 17 = .ok (.iload_n 2, 1) := by decide +kernel
theorem dX9_ask_18 : decode cX9_ask 18 = .ok (.invokevirtual 122, 3) := by decide +kernel
theorem dX9_ask_21 : decode cX9_ask 21 = .ok (.istore_n 3, 1) := by decide +kernel
theorem dX9_ask_22 : decode cX9_ask 22 = .ok (.aload_n 0, 1) := by decide +kernel
theorem dX9_ask_23 : decode cX9_ask 23 = .ok (.invokevirtual 125, 3) := by decide +kernel
theorem dX9_ask_26 : decode cX9_ask 26 = .ok (.iload_n 3, 1) := by decide +kernel
theorem dX9_ask_27 : decode cX9_ask 27 = .ok (.ireturn, 1) := by decide +kernel
set_option maxRecDepth 20000 in
theorem ggX9_askings_X9_ones : GoodIn wsX9_askings wsX9_ones := goodIn_r _ [6] rfl (by decide +kernel)
set_option maxRecDepth 20000 in
theorem gX9_askings_X9_ones : GoodIn wsX9_askings (va_wsS RX9 128 yX9_ones wsX9_ones) := goodIn_app (goodIn_of _ (by decide +kernel)) ggX9_askings_X9_ones
theorem dX9_askings_0 : decode cX9_askings 0 = .ok (.iconst 0, 1) := by decide +kernel
theorem dX9_askings_1 : decode cX9_askings 1 = .ok (.istore_n 1, 1) := by decide +kernel
theorem dX9_askings_2 : decode cX9_askings 2 = .ok (.iconst 0, 1) := by decide +kernel
theorem dX9_askings_3 : decode cX9_askings 3 = .ok (.istore_n 2, 1) := by decide +kernel
theorem dX9_askings_4 : decode cX9_askings 4 = .ok (.iload_n 2, 1) := by decide +kernel
theorem dX9_askings_5 : decode cX9_askings 5 = .ok (.aload_n 0, 1) := by decide +kernel
theorem dX9_askings_6 : decode cX9_askings 6 = .ok (.getfield 86, 3) := by decide +kernel
theorem dX9_askings_9 : decode cX9_askings 9 = .ok (.if_icmp .ge 21, 3) := by decide +kernel
theorem dX9_askings_12 : decode cX9_askings 12 = .ok (.iload_n 1, 1) := by decide +kernel
theorem dX9_askings_13 : decode cX9_askings 13 = .ok (.aload_n 0, 1) := by decide +kernel
theorem dX9_askings_14 : decode cX9_askings 14 = .ok (.getfield 19, 3) := by decide +kernel
theorem dX9_askings_17 : decode cX9_askings 17 = .ok (.iload_n 2, 1) := by decide +kernel
theorem dX9_askings_18 : decode cX9_askings 18 = .ok (.iaload, 1) := by decide +kernel
theorem dX9_askings_19 : decode cX9_askings 19 = .ok (.invokestatic 128, 3) := by decide +kernel
theorem dX9_askings_22 : decode cX9_askings 22 = .ok (.iadd, 1) := by decide +kernel
theorem dX9_askings_23 : decode cX9_askings 23 = .ok (.istore_n 1, 1) := by decide +kernel
theorem dX9_askings_24 : decode cX9_askings 24 = .ok (.iinc 2 1, 3) := by decide +kernel
theorem dX9_askings_27 : decode cX9_askings 27 = .ok (.goto (-23), 3) := by decide +kernel
theorem dX9_askings_30 : decode cX9_askings 30 = .ok (.iload_n 1, 1) := by decide +kernel
theorem dX9_askings_31 : decode cX9_askings 31 = .ok (.ireturn, 1) := by decide +kernel
set_option maxRecDepth 20000 in
theorem ggX9_week_X9_askings : GoodIn wsX9_week wsX9_askings := goodIn_r _ [5, 6, 7, 8, 9, 4, 10, 26, 27, 28, 29, 30, 31, 32, 33, 34, 35, 36, 37, 38, 39, 40, 41, 42, 43, 44, 45, 46, 47, 48, 49, 50, 51, 52, 53, 54, 55, 56] rfl (by decide +kernel)
set_option maxRecDepth 20000 in
theorem gX9_week_X9_askings : GoodIn wsX9_week (wsV RX9 132 RX9 yX9_askings wsX9_askings) := goodIn_app (goodIn_of _ (by decide +kernel)) ggX9_week_X9_askings
set_option maxRecDepth 20000 in
theorem ggX9_week_X9_begin : GoodIn wsX9_week wsX9_begin := goodIn_r _ [14, 15, 16, 17, 7, 26, 27, 28, 29, 30, 31, 32, 33, 34, 35, 36, 37, 38, 39, 40, 41, 42, 43, 44, 45, 46, 47, 48, 49, 50, 51, 52, 53, 54, 55, 56] rfl (by decide +kernel)
set_option maxRecDepth 20000 in
theorem gX9_week_X9_begin : GoodIn wsX9_week (wsV RX9 119 RX9 yX9_begin wsX9_begin) := goodIn_app (goodIn_of _ (by decide +kernel)) ggX9_week_X9_begin
set_option maxRecDepth 20000 in
theorem ggX9_week_X9_newWeek : GoodIn wsX9_week wsX9_newWeek := goodIn_r _ [21, 17, 26, 27, 28, 29, 30, 31, 32, 33, 34, 35, 36, 37, 38, 39, 40, 41, 42, 43, 44, 45, 46, 47, 48, 49, 50, 51, 52, 53, 54, 55, 56] rfl (by decide +kernel)
set_option maxRecDepth 20000 in
theorem gX9_week_X9_newWeek : GoodIn wsX9_week (wsV RX9 136 RX9 yX9_newWeek wsX9_newWeek) := goodIn_app (goodIn_of _ (by decide +kernel)) ggX9_week_X9_newWeek
set_option maxRecDepth 20000 in
theorem ggX9_week_X9_keep : GoodIn wsX9_week wsX9_keep := goodIn_r _ [25, 16, 15, 7, 17, 26, 27, 28, 29, 30, 31, 32, 33, 34, 35, 36, 37, 38, 39, 40, 41, 42, 43, 44, 45, 46, 47, 48, 49, 50, 51, 52, 53, 54, 55, 56] rfl (by decide +kernel)
set_option maxRecDepth 20000 in
theorem gX9_week_X9_keep : GoodIn wsX9_week (wsV RX9 125 RX9 yX9_keep wsX9_keep) := goodIn_app (goodIn_of _ (by decide +kernel)) ggX9_week_X9_keep
theorem dX9_week_0 : decode cX9_week 0 = .ok (.aload_n 0, 1) := by decide +kernel
theorem dX9_week_1 : decode cX9_week 1 = .ok (.invokevirtual 132, 3) := by decide +kernel
theorem dX9_week_4 : decode cX9_week 4 = .ok (.istore_n 1, 1) := by decide +kernel
theorem dX9_week_5 : decode cX9_week 5 = .ok (.aload_n 0, 1) := by decide +kernel
theorem dX9_week_6 : decode cX9_week 6 = .ok (.invokevirtual 119, 3) := by decide +kernel
theorem dX9_week_9 : decode cX9_week 9 = .ok (.aload_n 0, 1) := by decide +kernel
theorem dX9_week_10 : decode cX9_week 10 = .ok (.invokevirtual 136, 3) := by decide +kernel
theorem dX9_week_13 : decode cX9_week 13 = .ok (.aload_n 0, 1) := by decide +kernel
theorem dX9_week_14 : decode cX9_week 14 = .ok (.invokevirtual 125, 3) := by decide +kernel
theorem dX9_week_17 : decode cX9_week 17 = .ok (.iload_n 1, 1) := by decide +kernel
theorem dX9_week_18 : decode cX9_week 18 = .ok (.ireturn, 1) := by decide +kernel
set_option maxRecDepth 20000 in
theorem ggX9_count_X9_askings : GoodIn wsX9_count wsX9_askings := goodIn_r _ [9, 1, 10, 11, 12, 8, 13, 14, 15, 16, 17, 18, 19, 20, 21, 22, 23, 24, 25, 26, 27, 28, 29, 30, 31, 32, 33, 34, 35, 36, 37, 38, 39, 40, 41, 42, 43, 44] rfl (by decide +kernel)
set_option maxRecDepth 20000 in
theorem gX9_count_X9_askings : GoodIn wsX9_count (wsV RX9 132 RX9 yX9_askings wsX9_askings) := goodIn_app (goodIn_of _ (by decide +kernel)) ggX9_count_X9_askings
theorem dX9_count_0 : decode cX9_count 0 = .ok (.iconst 0, 1) := by decide +kernel
theorem dX9_count_1 : decode cX9_count 1 = .ok (.istore_n 2, 1) := by decide +kernel
theorem dX9_count_2 : decode cX9_count 2 = .ok (.iconst 0, 1) := by decide +kernel
theorem dX9_count_3 : decode cX9_count 3 = .ok (.istore_n 3, 1) := by decide +kernel
theorem dX9_count_4 : decode cX9_count 4 = .ok (.iconst 0, 1) := by decide +kernel
theorem dX9_count_5 : decode cX9_count 5 = .ok (.istore 4, 2) := by decide +kernel
theorem dX9_count_7 : decode cX9_count 7 = .ok (.iload 4, 2) := by decide +kernel
theorem dX9_count_9 : decode cX9_count 9 = .ok (.aload_n 0, 1) := by decide +kernel
theorem dX9_count_10 : decode cX9_count 10 = .ok (.getfield 86, 3) := by decide +kernel
theorem dX9_count_13 : decode cX9_count 13 = .ok (.if_icmp .ge 19, 3) := by decide +kernel
theorem dX9_count_16 : decode cX9_count 16 = .ok (.iload_n 2, 1) := by decide +kernel
theorem dX9_count_17 : decode cX9_count 17 = .ok (.aload_n 0, 1) := by decide +kernel
theorem dX9_count_18 : decode cX9_count 18 = .ok (.getfield 13, 3) := by decide +kernel
theorem dX9_count_21 : decode cX9_count 21 = .ok (.iload 4, 2) := by decide +kernel
theorem dX9_count_23 : decode cX9_count 23 = .ok (.iaload, 1) := by decide +kernel
theorem dX9_count_24 : decode cX9_count 24 = .ok (.iadd, 1) := by decide +kernel
theorem dX9_count_25 : decode cX9_count 25 = .ok (.istore_n 2, 1) := by decide +kernel
theorem dX9_count_26 : decode cX9_count 26 = .ok (.iinc 4 1, 3) := by decide +kernel
theorem dX9_count_29 : decode cX9_count 29 = .ok (.goto (-22), 3) := by decide +kernel
theorem dX9_count_32 : decode cX9_count 32 = .ok (.iconst 0, 1) := by decide +kernel
theorem dX9_count_33 : decode cX9_count 33 = .ok (.istore 4, 2) := by decide +kernel
theorem dX9_count_35 : decode cX9_count 35 = .ok (.iload 4, 2) := by decide +kernel
theorem dX9_count_37 : decode cX9_count 37 = .ok (.aload_n 0, 1) := by decide +kernel
theorem dX9_count_38 : decode cX9_count 38 = .ok (.getfield 139, 3) := by decide +kernel
theorem dX9_count_41 : decode cX9_count 41 = .ok (.if_icmp .ge 23, 3) := by decide +kernel
theorem dX9_count_44 : decode cX9_count 44 = .ok (.iload_n 3, 1) := by decide +kernel
theorem dX9_count_45 : decode cX9_count 45 = .ok (.aload_n 0, 1) := by decide +kernel
theorem dX9_count_46 : decode cX9_count 46 = .ok (.getfield 22, 3) := by decide +kernel
theorem dX9_count_49 : decode cX9_count 49 = .ok (.iconst 3, 1) := by decide +kernel
theorem dX9_count_50 : decode cX9_count 50 = .ok (.iload 4, 2) := by decide +kernel
theorem dX9_count_52 : decode cX9_count 52 = .ok (.imul, 1) := by decide +kernel
theorem dX9_count_53 : decode cX9_count 53 = .ok (.iconst 2, 1) := by decide +kernel
theorem dX9_count_54 : decode cX9_count 54 = .ok (.iadd, 1) := by decide +kernel
theorem dX9_count_55 : decode cX9_count 55 = .ok (.iaload, 1) := by decide +kernel
theorem dX9_count_56 : decode cX9_count 56 = .ok (.iadd, 1) := by decide +kernel
theorem dX9_count_57 : decode cX9_count 57 = .ok (.istore_n 3, 1) := by decide +kernel
theorem dX9_count_58 : decode cX9_count 58 = .ok (.iinc 4 1, 3) := by decide +kernel
theorem dX9_count_61 : decode cX9_count 61 = .ok (.goto (-26), 3) := by decide +kernel
theorem dX9_count_64 : decode cX9_count 64 = .ok (.iload_n 1, 1) := by decide +kernel
theorem dX9_count_65 : decode cX9_count 65 = .ok (.tableswitch 54 0 4 #[35, 40, 42, 47, 52], 35) := by decide +kernel
theorem dX9_count_100 : decode cX9_count 100 = .ok (.aload_n 0, 1) := by decide +kernel
theorem dX9_count_101 : decode cX9_count 101 = .ok (.getfield 86, 3) := by decide +kernel
theorem dX9_count_104 : decode cX9_count 104 = .ok (.ireturn, 1) := by decide +kernel
theorem dX9_count_105 : decode cX9_count 105 = .ok (.iload_n 2, 1) := by decide +kernel
theorem dX9_count_106 : decode cX9_count 106 = .ok (.ireturn, 1) := by decide +kernel
theorem dX9_count_107 : decode cX9_count 107 = .ok (.aload_n 0, 1) := by decide +kernel
theorem dX9_count_108 : decode cX9_count 108 = .ok (.invokevirtual 132, 3) := by decide +kernel
theorem dX9_count_111 : decode cX9_count 111 = .ok (.ireturn, 1) := by decide +kernel
theorem dX9_count_112 : decode cX9_count 112 = .ok (.aload_n 0, 1) := by decide +kernel
theorem dX9_count_113 : decode cX9_count 113 = .ok (.getfield 139, 3) := by decide +kernel
theorem dX9_count_116 : decode cX9_count 116 = .ok (.ireturn, 1) := by decide +kernel
theorem dX9_count_117 : decode cX9_count 117 = .ok (.iload_n 3, 1) := by decide +kernel
theorem dX9_count_118 : decode cX9_count 118 = .ok (.ireturn, 1) := by decide +kernel
theorem dX9_count_119 : decode cX9_count 119 = .ok (.iconst (-1), 1) := by decide +kernel
theorem dX9_count_120 : decode cX9_count 120 = .ok (.ireturn, 1) := by decide +kernel
set_option maxRecDepth 20000 in
theorem ggX9_type_X9_in : GoodIn wsX9_type wsX9_in := goodIn_r _ [10] rfl (by decide +kernel)
set_option maxRecDepth 20000 in
theorem gX9_type_X9_in : GoodIn wsX9_type (va_wsS RX9 90 yX9_in wsX9_in) := goodIn_app (goodIn_of _ (by decide +kernel)) ggX9_type_X9_in
theorem dX9_type_0 : decode cX9_type 0 = .ok (.iload_n 3, 1) := by decide +kernel
theorem dX9_type_1 : decode cX9_type 1 = .ok (.i2l, 1) := by decide +kernel
theorem dX9_type_2 : decode cX9_type 2 = .ok (.lconst 1, 1) := by decide +kernel
theorem dX9_type_3 : decode cX9_type 3 = .ok (.ldc2_w 142, 3) := by decide +kernel
theorem dX9_type_6 : decode cX9_type 6 = .ok (.invokestatic 90, 3) := by decide +kernel
theorem dX9_type_9 : decode cX9_type 9 = .ok (.ifCond .ne 5, 3) := by decide +kernel
theorem dX9_type_12 : decode cX9_type 12 = .ok (.iconst (-1), 1) := by decide +kernel
theorem dX9_type_13 : decode cX9_type 13 = .ok (.ireturn, 1) := by decide +kernel
theorem dX9_type_14 : decode cX9_type 14 = .ok (.iload_n 3, 1) := by decide +kernel
theorem dX9_type_15 : decode cX9_type 15 = .ok (.iconst 1, 1) := by decide +kernel
theorem dX9_type_16 : decode cX9_type 16 = .ok (.isub, 1) := by decide +kernel
theorem dX9_type_17 : decode cX9_type 17 = .ok (.istore 4, 2) := by decide +kernel
theorem dX9_type_19 : decode cX9_type 19 = .ok (.iload 4, 2) := by decide +kernel
theorem dX9_type_21 : decode cX9_type 21 = .ok (.ifCond .lt 34, 3) := by decide +kernel
theorem dX9_type_24 : decode cX9_type 24 = .ok (.lload_n 1, 1) := by decide +kernel
theorem dX9_type_25 : decode cX9_type 25 = .ok (.bipush 8, 2) := by decide +kernel
theorem dX9_type_27 : decode cX9_type 27 = .ok (.iload 4, 2) := by decide +kernel
theorem dX9_type_29 : decode cX9_type 29 = .ok (.imul, 1) := by decide +kernel
theorem dX9_type_30 : decode cX9_type 30 = .ok (.lshr, 1) := by decide +kernel
theorem dX9_type_31 : decode cX9_type 31 = .ok (.ldc2_w 144, 3) := by decide +kernel
theorem dX9_type_34 : decode cX9_type 34 = .ok (.land, 1) := by decide +kernel
theorem dX9_type_35 : decode cX9_type 35 = .ok (.ldc2_w 146, 3) := by decide +kernel
theorem dX9_type_38 : decode cX9_type 38 = .ok (.ldc2_w 148, 3) := by decide +kernel
theorem dX9_type_41 : decode cX9_type 41 = .ok (.invokestatic 90, 3) := by decide +kernel
theorem dX9_type_44 : decode cX9_type 44 = .ok (.ifCond .ne 5, 3) := by decide +kernel
theorem dX9_type_47 : decode cX9_type 47 = .ok (.iconst (-1), 1) := by decide +kernel
theorem dX9_type_48 : decode cX9_type 48 = .ok (.ireturn, 1) := by decide +kernel
theorem dX9_type_49 : decode cX9_type 49 = .ok (.iinc 4 (-1), 3) := by decide +kernel
theorem dX9_type_52 : decode cX9_type 52 = .ok (.goto (-33), 3) := by decide +kernel
theorem dX9_type_55 : decode cX9_type 55 = .ok (.aload_n 0, 1) := by decide +kernel
theorem dX9_type_56 : decode cX9_type 56 = .ok (.getfield 150, 3) := by decide +kernel
theorem dX9_type_59 : decode cX9_type 59 = .ok (.iload_n 3, 1) := by decide +kernel
theorem dX9_type_60 : decode cX9_type 60 = .ok (.iadd, 1) := by decide +kernel
theorem dX9_type_61 : decode cX9_type 61 = .ok (.bipush 80, 2) := by decide +kernel
theorem dX9_type_63 : decode cX9_type 63 = .ok (.if_icmp .le 6, 3) := by decide +kernel
theorem dX9_type_66 : decode cX9_type 66 = .ok (.bipush (-3), 2) := by decide +kernel
theorem dX9_type_68 : decode cX9_type 68 = .ok (.ireturn, 1) := by decide +kernel
theorem dX9_type_69 : decode cX9_type 69 = .ok (.iload_n 3, 1) := by decide +kernel
theorem dX9_type_70 : decode cX9_type 70 = .ok (.iconst 1, 1) := by decide +kernel
theorem dX9_type_71 : decode cX9_type 71 = .ok (.isub, 1) := by decide +kernel
theorem dX9_type_72 : decode cX9_type 72 = .ok (.istore 4, 2) := by decide +kernel
theorem dX9_type_74 : decode cX9_type 74 = .ok (.iload 4, 2) := by decide +kernel
theorem dX9_type_76 : decode cX9_type 76 = .ok (.ifCond .lt 40, 3) := by decide +kernel
theorem dX9_type_79 : decode cX9_type 79 = .ok (.aload_n 0, 1) := by decide +kernel
theorem dX9_type_80 : decode cX9_type 80 = .ok (.getfield 31, 3) := by decide +kernel
theorem dX9_type_83 : decode cX9_type 83 = .ok (.aload_n 0, 1) := by decide +kernel
theorem dX9_type_84 : decode cX9_type 84 = .ok (.getfield 150, 3) := by decide +kernel
theorem dX9_type_87 : decode cX9_type 87 = .ok (.lload_n 1, 1) := by decide +kernel
theorem dX9_type_88 : decode cX9_type 88 = .ok (.bipush 8, 2) := by decide +kernel
theorem dX9_type_90 : decode cX9_type 90 = .ok (.iload 4, 2) := by decide +kernel
theorem dX9_type_92 : decode cX9_type 92 = .ok (.imul, 1) := by decide +kernel
theorem dX9_type_93 : decode cX9_type 93 = .ok (.lshr, 1) := by decide +kernel
theorem dX9_type_94 : decode cX9_type 94 = .ok (.ldc2_w 144, 3) := by decide +kernel
theorem dX9_type_97 : decode cX9_type 97 = .ok (.land, 1) := by decide +kernel
theorem dX9_type_98 : decode cX9_type 98 = .ok (.l2i, 1) := by decide +kernel
theorem dX9_type_99 : decode cX9_type 99 = .ok (.iastore, 1) := by decide +kernel
theorem dX9_type_100 : decode cX9_type 100 = .ok (.aload_n 0, 1) := by decide +kernel
theorem dX9_type_101 : decode cX9_type 101 = .ok (.dup, 1) := by decide +kernel
theorem dX9_type_102 : decode cX9_type 102 = .ok (.getfield 150, 3) := by decide +kernel
theorem dX9_type_105 : decode cX9_type 105 = .ok (.iconst 1, 1) := by decide +kernel
theorem dX9_type_106 : decode cX9_type 106 = .ok (.iadd, 1) := by decide +kernel
theorem dX9_type_107 : decode cX9_type 107 = .ok (.putfield 150, 3) := by decide +kernel
theorem dX9_type_110 : decode cX9_type 110 = .ok (.iinc 4 (-1), 3) := by decide +kernel
theorem dX9_type_113 : decode cX9_type 113 = .ok (.goto (-39), 3) := by decide +kernel
theorem dX9_type_116 : decode cX9_type 116 = .ok (.aload_n 0, 1) := by decide +kernel
theorem dX9_type_117 : decode cX9_type 117 = .ok (.getfield 150, 3) := by decide +kernel
theorem dX9_type_120 : decode cX9_type 120 = .ok (.ireturn, 1) := by decide +kernel
theorem dX9_nextByte_0 : decode cX9_nextByte 0 = .ok (.aload_n 0, 1) := by decide +kernel
theorem dX9_nextByte_1 : decode cX9_nextByte 1 = .ok (.getfield 153, 3) := by decide +kernel
theorem dX9_nextByte_4 : decode cX9_nextByte 4 = .ok (.aload_n 0, 1) := by decide +kernel
theorem dX9_nextByte_5 : decode cX9_nextByte 5 = .ok (.getfield 150, 3) := by decide +kernel
theorem dX9_nextByte_8 : decode cX9_nextByte 8 = .ok (.if_icmp .ge 30, 3) := by decide +kernel
theorem dX9_nextByte_11 : decode cX9_nextByte 11 = .ok (.aload_n 0, 1) := by decide +kernel
theorem dX9_nextByte_12 : decode cX9_nextByte 12 = .ok (.getfield 31, 3) := by decide +kernel
theorem dX9_nextByte_15 : decode cX9_nextByte 15 = .ok (.aload_n 0, 1) := by decide +kernel
theorem dX9_nextByte_16 : decode cX9_nextByte 16 = .ok (.getfield 153, 3) := by decide +kernel
theorem dX9_nextByte_19 : decode cX9_nextByte 19 = .ok (.iaload, 1) := by decide +kernel
theorem dX9_nextByte_20 : decode cX9_nextByte 20 = .ok (.bipush 32, 2) := by decide +kernel
theorem dX9_nextByte_22 : decode cX9_nextByte 22 = .ok (.if_icmp .ne 16, 3) := by decide +kernel
theorem dX9_nextByte_25 : decode cX9_nextByte 25 = .ok (.aload_n 0, 1) := by decide +kernel
theorem dX9_nextByte_26 : decode cX9_nextByte 26 = .ok (.dup, 1) := by decide +kernel
theorem dX9_nextByte_27 : decode cX9_nextByte 27 = .ok (.getfield 153, 3) := by decide +kernel
theorem dX9_nextByte_30 : decode cX9_nextByte 30 = .ok (.iconst 1, 1) := by decide +kernel
theorem dX9_nextByte_31 : decode cX9_nextByte 31 = .ok (.iadd, 1) := by decide +kernel
theorem dX9_nextByte_32 : decode cX9_nextByte 32 = .ok (.putfield 153, 3) := by decide +kernel
theorem dX9_nextByte_35 : decode cX9_nextByte 35 = .ok (.goto (-35), 3) := by decide +kernel
theorem dX9_nextByte_38 : decode cX9_nextByte 38 = .ok (.aload_n 0, 1) := by decide +kernel
theorem dX9_nextByte_39 : decode cX9_nextByte 39 = .ok (.getfield 153, 3) := by decide +kernel
theorem dX9_nextByte_42 : decode cX9_nextByte 42 = .ok (.aload_n 0, 1) := by decide +kernel
theorem dX9_nextByte_43 : decode cX9_nextByte 43 = .ok (.getfield 150, 3) := by decide +kernel
theorem dX9_nextByte_46 : decode cX9_nextByte 46 = .ok (.if_icmp .ge 15, 3) := by decide +kernel
theorem dX9_nextByte_49 : decode cX9_nextByte 49 = .ok (.aload_n 0, 1) := by decide +kernel
theorem dX9_nextByte_50 : decode cX9_nextByte 50 = .ok (.getfield 31, 3) := by decide +kernel
theorem dX9_nextByte_53 : decode cX9_nextByte 53 = .ok (.aload_n 0, 1) := by decide +kernel
theorem dX9_nextByte_54 : decode cX9_nextByte 54 = .ok (.getfield 153, 3) := by decide +kernel
theorem dX9_nextByte_57 : decode cX9_nextByte 57 = .ok (.iaload, 1) := by decide +kernel
theorem dX9_nextByte_58 : decode cX9_nextByte 58 = .ok (.goto 4, 3) := by decide +kernel
theorem dX9_nextByte_61 : decode cX9_nextByte 61 = .ok (.iconst (-1), 1) := by decide +kernel
theorem dX9_nextByte_62 : decode cX9_nextByte 62 = .ok (.ireturn, 1) := by decide +kernel
set_option maxRecDepth 20000 in
theorem ggX9_readNumber_X9_nextByte : GoodIn wsX9_readNumber wsX9_nextByte := goodIn_r _ [11, 1, 2, 3, 15, 16, 17, 18, 19, 20, 21, 22, 23, 24, 25, 26, 27, 28, 29, 30, 31, 32, 33, 34, 35, 36, 37, 38, 39, 40, 41, 42, 43, 44, 45] rfl (by decide +kernel)
set_option maxRecDepth 20000 in
theorem gX9_readNumber_X9_nextByte : GoodIn wsX9_readNumber (wsV RX9 156 RX9 yX9_nextByte wsX9_nextByte) := goodIn_app (goodIn_of _ (by decide +kernel)) ggX9_readNumber_X9_nextByte
set_option maxRecDepth 20000 in
theorem ggX9_readNumber_X9_in : GoodIn wsX9_readNumber wsX9_in := goodIn_r _ [14] rfl (by decide +kernel)
set_option maxRecDepth 20000 in
theorem gX9_readNumber_X9_in : GoodIn wsX9_readNumber (va_wsS RX9 90 yX9_in wsX9_in) := goodIn_app (goodIn_of _ (by decide +kernel)) ggX9_readNumber_X9_in
theorem dX9_readNumber_0 : decode cX9_readNumber 0 = .ok (.aload_n 0, 1) := by decide +kernel
theorem dX9_readNumber_1 : decode cX9_readNumber 1 = .ok (.invokevirtual 156, 3) := by decide +kernel
theorem dX9_readNumber_4 : decode cX9_readNumber 4 = .ok (.pop, 1) := by decide +kernel
theorem dX9_readNumber_5 : decode cX9_readNumber 5 = .ok (.aload_n 0, 1) := by decide +kernel
theorem dX9_readNumber_6 : decode cX9_readNumber 6 = .ok (.getfield 153, 3) := by decide +kernel
theorem dX9_readNumber_9 : decode cX9_readNumber 9 = .ok (.istore_n 2, 1) := by decide +kernel
theorem dX9_readNumber_10 : decode cX9_readNumber 10 = .ok (.iconst 0, 1) := by decide +kernel
theorem dX9_readNumber_11 : decode cX9_readNumber 11 = .ok (.istore_n 3, 1) := by decide +kernel
theorem dX9_readNumber_12 : decode cX9_readNumber 12 = .ok (.aload_n 0, 1) := by decide +kernel
theorem dX9_readNumber_13 : decode cX9_readNumber 13 = .ok (.getfield 153, 3) := by decide +kernel
theorem dX9_readNumber_16 : decode cX9_readNumber 16 = .ok (.aload_n 0, 1) := by decide +kernel
theorem dX9_readNumber_17 : decode cX9_readNumber 17 = .ok (.getfield 150, 3) := by decide +kernel
theorem dX9_readNumber_20 : decode cX9_readNumber 20 = .ok (.if_icmp .ge 66, 3) := by decide +kernel
theorem dX9_readNumber_23 : decode cX9_readNumber 23 = .ok (.aload_n 0, 1) := by decide +kernel
theorem dX9_readNumber_24 : decode cX9_readNumber 24 = .ok (.getfield 31, 3) := by decide +kernel
theorem dX9_readNumber_27 : decode cX9_readNumber 27 = .ok (.aload_n 0, 1) := by decide +kernel
theorem dX9_readNumber_28 : decode cX9_readNumber 28 = .ok (.getfield 153, 3) := by decide +kernel
theorem dX9_readNumber_31 : decode cX9_readNumber 31 = .ok (.iaload, 1) := by decide +kernel
theorem dX9_readNumber_32 : decode cX9_readNumber 32 = .ok (.i2l, 1) := by decide +kernel
theorem dX9_readNumber_33 : decode cX9_readNumber 33 = .ok (.ldc2_w 159, 3) := by decide +kernel
theorem dX9_readNumber_36 : decode cX9_readNumber 36 = .ok (.ldc2_w 161, 3) := by decide +kernel
theorem dX9_readNumber_39 : decode cX9_readNumber 39 = .ok (.invokestatic 90, 3) := by decide +kernel
theorem dX9_readNumber_42 : decode cX9_readNumber 42 = .ok (.ifCond .eq 44, 3) := by decide +kernel
theorem dX9_readNumber_45 : decode cX9_readNumber 45 = .ok (.iload_n 3, 1) := by decide +kernel
theorem dX9_readNumber_46 : decode cX9_readNumber 46 = .ok (.ldc 163, 2) := by decide +kernel
theorem dX9_readNumber_48 : decode cX9_readNumber 48 = .ok (.if_icmp .le 7, 3) := by decide +kernel
theorem dX9_readNumber_51 : decode cX9_readNumber 51 = .ok (.iload_n 3, 1) := by decide +kernel
theorem dX9_readNumber_52 : decode cX9_readNumber 52 = .ok (.goto 20, 3) := by decide +kernel
theorem dX9_readNumber_55 : decode cX9_readNumber 55 = .ok (.bipush 10, 2) := by decide +kernel
theorem dX9_readNumber_57 : decode cX9_readNumber 57 = .ok (.iload_n 3, 1) := by decide +kernel
theorem dX9_readNumber_58 : decode cX9_readNumber 58 = .ok (.imul, 1) := by decide +kernel
theorem dX9_readNumber_59 : decode cX9_readNumber 59 = .ok (.aload_n 0, 1) := by decide +kernel
theorem dX9_readNumber_60 : decode cX9_readNumber 60 = .ok (.getfield 31, 3) := by decide +kernel
theorem dX9_readNumber_63 : decode cX9_readNumber 63 = .ok (.aload_n 0, 1) := by decide +kernel
theorem dX9_readNumber_64 : decode cX9_readNumber 64 = .ok (.getfield 153, 3) := by decide +kernel
theorem dX9_readNumber_67 : decode cX9_readNumber 67 = .ok (.iaload, 1) := by decide +kernel
theorem dX9_readNumber_68 : decode cX9_readNumber 68 = .ok (.iadd, 1) := by decide +kernel
theorem dX9_readNumber_69 : decode cX9_readNumber 69 = .ok (.bipush 48, 2) := by decide +kernel
theorem dX9_readNumber_71 : decode cX9_readNumber 71 = .ok (.isub, 1) := by decide +kernel
theorem dX9_readNumber_72 : decode cX9_readNumber 72 = .ok (.istore_n 3, 1) := by decide +kernel
theorem dX9_readNumber_73 : decode cX9_readNumber 73 = .ok (.aload_n 0, 1) := by decide +kernel
theorem dX9_readNumber_74 : decode cX9_readNumber 74 = .ok (.dup, 1) := by decide +kernel
theorem dX9_readNumber_75 : decode cX9_readNumber 75 = .ok (.getfield 153, 3) := by decide +kernel
theorem dX9_readNumber_78 : decode cX9_readNumber 78 = .ok (.iconst 1, 1) := by decide +kernel
theorem dX9_readNumber_79 : decode cX9_readNumber 79 = .ok (.iadd, 1) := by decide +kernel
theorem dX9_readNumber_80 : decode cX9_readNumber 80 = .ok (.putfield 153, 3) := by decide +kernel
theorem dX9_readNumber_83 : decode cX9_readNumber 83 = .ok (.goto (-71), 3) := by decide +kernel
theorem dX9_readNumber_86 : decode cX9_readNumber 86 = .ok (.aload_n 0, 1) := by decide +kernel
theorem dX9_readNumber_87 : decode cX9_readNumber 87 = .ok (.getfield 153, 3) := by decide +kernel
theorem dX9_readNumber_90 : decode cX9_readNumber 90 = .ok (.iload_n 2, 1) := by decide +kernel
theorem dX9_readNumber_91 : decode cX9_readNumber 91 = .ok (.if_icmp .ne 5, 3) := by decide +kernel
theorem dX9_readNumber_94 : decode cX9_readNumber 94 = .ok (.iconst (-1), 1) := by decide +kernel
theorem dX9_readNumber_95 : decode cX9_readNumber 95 = .ok (.ireturn, 1) := by decide +kernel
theorem dX9_readNumber_96 : decode cX9_readNumber 96 = .ok (.iload_n 3, 1) := by decide +kernel
theorem dX9_readNumber_97 : decode cX9_readNumber 97 = .ok (.iload_n 1, 1) := by decide +kernel
theorem dX9_readNumber_98 : decode cX9_readNumber 98 = .ok (.if_icmp .le 10, 3) := by decide +kernel
theorem dX9_readNumber_101 : decode cX9_readNumber 101 = .ok (.aload_n 0, 1) := by decide +kernel
theorem dX9_readNumber_102 : decode cX9_readNumber 102 = .ok (.iload_n 2, 1) := by decide +kernel
theorem dX9_readNumber_103 : decode cX9_readNumber 103 = .ok (.putfield 153, 3) := by decide +kernel
theorem dX9_readNumber_106 : decode cX9_readNumber 106 = .ok (.iconst (-1), 1) := by decide +kernel
theorem dX9_readNumber_107 : decode cX9_readNumber 107 = .ok (.ireturn, 1) := by decide +kernel
theorem dX9_readNumber_108 : decode cX9_readNumber 108 = .ok (.iload_n 3, 1) := by decide +kernel
theorem dX9_readNumber_109 : decode cX9_readNumber 109 = .ok (.ireturn, 1) := by decide +kernel
set_option maxRecDepth 20000 in
theorem ggX9_readOne_X9_nextByte : GoodIn wsX9_readOne wsX9_nextByte := goodIn_r _ [7, 2, 8, 9, 20, 21, 22, 23, 24, 25, 26, 27, 28, 29, 30, 31, 32, 33, 34, 35, 36, 37, 38, 39, 40, 41, 42, 43, 44, 45, 46, 47, 48, 49, 50] rfl (by decide +kernel)
set_option maxRecDepth 20000 in
theorem gX9_readOne_X9_nextByte : GoodIn wsX9_readOne (wsV RX9 156 RX9 yX9_nextByte wsX9_nextByte) := goodIn_app (goodIn_of _ (by decide +kernel)) ggX9_readOne_X9_nextByte
set_option maxRecDepth 20000 in
theorem ggX9_readOne_X9_readNumber : GoodIn wsX9_readOne wsX9_readNumber := goodIn_r _ [13, 2, 8, 9, 14, 15, 16, 3, 4, 5, 6, 7, 17, 18, 19, 20, 21, 22, 23, 24, 25, 26, 27, 28, 29, 30, 31, 32, 33, 34, 35, 36, 37, 38, 39, 40, 41, 42, 43, 44, 45, 46, 47, 48, 49, 50] rfl (by decide +kernel)
set_option maxRecDepth 20000 in
theorem gX9_readOne_X9_readNumber : GoodIn wsX9_readOne (wsV RX9 164 RX9 yX9_readNumber wsX9_readNumber) := goodIn_app (goodIn_of _ (by decide +kernel)) ggX9_readOne_X9_readNumber
theorem dX9_readOne_0 : decode cX9_readOne 0 = .ok (.aload_n 0, 1) := by decide +kernel
theorem dX9_readOne_1 : decode cX9_readOne 1 = .ok (.invokevirtual 156, 3) := by decide +kernel
theorem dX9_readOne_4 : decode cX9_readOne 4 = .ok (.istore_n 2, 1) := by decide +kernel
theorem dX9_readOne_5 : decode cX9_readOne 5 = .ok (.aload_n 0, 1) := by decide +kernel
theorem dX9_readOne_6 : decode cX9_readOne 6 = .ok (.getfield 34, 3) := by decide +kernel
theorem dX9_readOne_9 : decode cX9_readOne 9 = .ok (.iload_n 1, 1) := by decide +kernel
theorem dX9_readOne_10 : decode cX9_readOne 10 = .ok (.iload_n 2, 1) := by decide +kernel
theorem dX9_readOne_11 : decode cX9_readOne 11 = .ok (.bipush 102, 2) := by decide +kernel
theorem dX9_readOne_13 : decode cX9_readOne 13 = .ok (.if_icmp .ne 7, 3) := by decide +kernel
theorem dX9_readOne_16 : decode cX9_readOne 16 = .ok (.iconst 0, 1) := by decide +kernel
theorem dX9_readOne_17 : decode cX9_readOne 17 = .ok (.goto 34, 3) := by decide +kernel
theorem dX9_readOne_20 : decode cX9_readOne 20 = .ok (.iload_n 2, 1) := by decide +kernel
theorem dX9_readOne_21 : decode cX9_readOne 21 = .ok (.bipush 99, 2) := by decide +kernel
theorem dX9_readOne_23 : decode cX9_readOne 23 = .ok (.if_icmp .ne 7, 3) := by decide +kernel
theorem dX9_readOne_26 : decode cX9_readOne 26 = .ok (.iconst 1, 1) := by decide +kernel
theorem dX9_readOne_27 : decode cX9_readOne 27 = .ok (.goto 24, 3) := by decide +kernel
theorem dX9_readOne_30 : decode cX9_readOne 30 = .ok (.iload_n 2, 1) := by decide +kernel
theorem dX9_readOne_31 : decode cX9_readOne 31 = .ok (.bipush 116, 2) := by decide +kernel
theorem dX9_readOne_33 : decode cX9_readOne 33 = .ok (.if_icmp .ne 7, 3) := by decide +kernel
theorem dX9_readOne_36 : decode cX9_readOne 36 = .ok (.iconst 2, 1) := by decide +kernel
theorem dX9_readOne_37 : decode cX9_readOne 37 = .ok (.goto 14, 3) := by decide +kernel
theorem dX9_readOne_40 : decode cX9_readOne 40 = .ok (.iload_n 2, 1) := by decide +kernel
theorem dX9_readOne_41 : decode cX9_readOne 41 = .ok (.bipush 119, 2) := by decide +kernel
theorem dX9_readOne_43 : decode cX9_readOne 43 = .ok (.if_icmp .ne 7, 3) := by decide +kernel
theorem dX9_readOne_46 : decode cX9_readOne 46 = .ok (.iconst 3, 1) := by decide +kernel
theorem dX9_readOne_47 : decode cX9_readOne 47 = .ok (.goto 4, 3) := by decide +kernel
theorem dX9_readOne_50 : decode cX9_readOne 50 = .ok (.iconst (-1), 1) := by decide +kernel
theorem dX9_readOne_51 : decode cX9_readOne 51 = .ok (.iastore, 1) := by decide +kernel
theorem dX9_readOne_52 : decode cX9_readOne 52 = .ok (.aload_n 0, 1) := by decide +kernel
theorem dX9_readOne_53 : decode cX9_readOne 53 = .ok (.getfield 34, 3) := by decide +kernel
theorem dX9_readOne_56 : decode cX9_readOne 56 = .ok (.iload_n 1, 1) := by decide +kernel
theorem dX9_readOne_57 : decode cX9_readOne 57 = .ok (.iaload, 1) := by decide +kernel
theorem dX9_readOne_58 : decode cX9_readOne 58 = .ok (.ifCond .ge 5, 3) := by decide +kernel
theorem dX9_readOne_61 : decode cX9_readOne 61 = .ok (.iconst 0, 1) := by decide +kernel
theorem dX9_readOne_62 : decode cX9_readOne 62 = .ok (.ireturn, 1) := by decide +kernel
theorem dX9_readOne_63 : decode cX9_readOne 63 = .ok (.aload_n 0, 1) := by decide +kernel
theorem dX9_readOne_64 : decode cX9_readOne 64 = .ok (.dup, 1) := by decide +kernel
theorem dX9_readOne_65 : decode cX9_readOne 65 = .ok (.getfield 153, 3) := by decide +kernel
theorem dX9_readOne_68 : decode cX9_readOne 68 = .ok (.iconst 1, 1) := by decide +kernel
theorem dX9_readOne_69 : decode cX9_readOne 69 = .ok (.iadd, 1) := by decide +kernel
theorem dX9_readOne_70 : decode cX9_readOne 70 = .ok (.putfield 153, 3) := by decide +kernel
theorem dX9_readOne_73 : decode cX9_readOne 73 = .ok (.aload_n 0, 1) := by decide +kernel
theorem dX9_readOne_74 : decode cX9_readOne 74 = .ok (.getfield 34, 3) := by decide +kernel
theorem dX9_readOne_77 : decode cX9_readOne 77 = .ok (.iload_n 1, 1) := by decide +kernel
theorem dX9_readOne_78 : decode cX9_readOne 78 = .ok (.iconst 1, 1) := by decide +kernel
theorem dX9_readOne_79 : decode cX9_readOne 79 = .ok (.iadd, 1) := by decide +kernel
theorem dX9_readOne_80 : decode cX9_readOne 80 = .ok (.aload_n 0, 1) := by decide +kernel
theorem dX9_readOne_81 : decode cX9_readOne 81 = .ok (.sipush 9999, 3) := by decide +kernel
theorem dX9_readOne_84 : decode cX9_readOne 84 = .ok (.invokevirtual 164, 3) := by decide +kernel
theorem dX9_readOne_87 : decode cX9_readOne 87 = .ok (.iastore, 1) := by decide +kernel
theorem dX9_readOne_88 : decode cX9_readOne 88 = .ok (.aload_n 0, 1) := by decide +kernel
theorem dX9_readOne_89 : decode cX9_readOne 89 = .ok (.getfield 34, 3) := by decide +kernel
theorem dX9_readOne_92 : decode cX9_readOne 92 = .ok (.iload_n 1, 1) := by decide +kernel
theorem dX9_readOne_93 : decode cX9_readOne 93 = .ok (.iconst 1, 1) := by decide +kernel
theorem dX9_readOne_94 : decode cX9_readOne 94 = .ok (.iadd, 1) := by decide +kernel
theorem dX9_readOne_95 : decode cX9_readOne 95 = .ok (.iaload, 1) := by decide +kernel
theorem dX9_readOne_96 : decode cX9_readOne 96 = .ok (.ifCond .lt 7, 3) := by decide +kernel
theorem dX9_readOne_99 : decode cX9_readOne 99 = .ok (.iconst 1, 1) := by decide +kernel
theorem dX9_readOne_100 : decode cX9_readOne 100 = .ok (.goto 4, 3) := by decide +kernel
theorem dX9_readOne_103 : decode cX9_readOne 103 = .ok (.iconst 0, 1) := by decide +kernel
theorem dX9_readOne_104 : decode cX9_readOne 104 = .ok (.ireturn, 1) := by decide +kernel
set_option maxRecDepth 20000 in
theorem ggX9_readPeople_X9_readOne : GoodIn wsX9_readPeople wsX9_readOne := goodIn_r _ [7, 8, 1, 9, 10, 11, 6, 12, 13, 14, 15, 16, 17, 18, 19, 20, 21, 22, 23, 24, 25, 26, 27, 28, 29, 30, 31, 32, 33, 34, 35, 36, 37, 38, 39, 40, 41, 42, 43, 44, 45, 46, 47, 48, 49, 50, 51, 52, 53, 54, 55] rfl (by decide +kernel)
set_option maxRecDepth 20000 in
theorem gX9_readPeople_X9_readOne : GoodIn wsX9_readPeople (wsV RX9 167 RX9 yX9_readOne wsX9_readOne) := goodIn_app (goodIn_of _ (by decide +kernel)) ggX9_readPeople_X9_readOne
set_option maxRecDepth 20000 in
theorem ggX9_readPeople_X9_nextByte : GoodIn wsX9_readPeople wsX9_nextByte := goodIn_r _ [12, 1, 13, 14, 25, 26, 27, 28, 29, 30, 31, 32, 33, 34, 35, 36, 37, 38, 39, 40, 41, 42, 43, 44, 45, 46, 47, 48, 49, 50, 51, 52, 53, 54, 55] rfl (by decide +kernel)
set_option maxRecDepth 20000 in
theorem gX9_readPeople_X9_nextByte : GoodIn wsX9_readPeople (wsV RX9 156 RX9 yX9_nextByte wsX9_nextByte) := goodIn_app (goodIn_of _ (by decide +kernel)) ggX9_readPeople_X9_nextByte
theorem dX9_readPeople_0 : decode cX9_readPeople 0 = .ok (.aload_n 0, 1) := by decide +kernel
theorem dX9_readPeople_1 : decode cX9_readPeople 1 = .ok (.iconst 0, 1) := by decide +kernel
theorem dX9_readPeople_2 : decode cX9_readPeople 2 = .ok (.putfield 153, 3) := by decide +kernel
theorem dX9_readPeople_5 : decode cX9_readPeople 5 = .ok (.iconst 0, 1) := by decide +kernel
theorem dX9_readPeople_6 : decode cX9_readPeople 6 = .ok (.istore_n 1, 1) := by decide +kernel
theorem dX9_readPeople_7 : decode cX9_readPeople 7 = .ok (.iload_n 1, 1) := by decide +kernel
theorem dX9_readPeople_8 : decode cX9_readPeople 8 = .ok (.iconst 5, 1) := by decide +kernel
theorem dX9_readPeople_9 : decode cX9_readPeople 9 = .ok (.if_icmp .ge 62, 3) := by decide +kernel
theorem dX9_readPeople_12 : decode cX9_readPeople 12 = .ok (.aload_n 0, 1) := by decide +kernel
theorem dX9_readPeople_13 : decode cX9_readPeople 13 = .ok (.iconst 2, 1) := by decide +kernel
theorem dX9_readPeople_14 : decode cX9_readPeople 14 = .ok (.iload_n 1, 1) := by decide +kernel
theorem dX9_readPeople_15 : decode cX9_readPeople 15 = .ok (.imul, 1) := by decide +kernel
theorem dX9_readPeople_16 : decode cX9_readPeople 16 = .ok (.invokevirtual 167, 3) := by decide +kernel
theorem dX9_readPeople_19 : decode cX9_readPeople 19 = .ok (.ifCond .ne 5, 3) := by decide +kernel
theorem dX9_readPeople_22 : decode cX9_readPeople 22 = .ok (.iconst 0, 1) := by decide +kernel
theorem dX9_readPeople_23 : decode cX9_readPeople 23 = .ok (.ireturn, 1) := by decide +kernel
theorem dX9_readPeople_24 : decode cX9_readPeople 24 = .ok (.aload_n 0, 1) := by decide +kernel
theorem dX9_readPeople_25 : decode cX9_readPeople 25 = .ok (.iload_n 1, 1) := by decide +kernel
theorem dX9_readPeople_26 : decode cX9_readPeople 26 = .ok (.iconst 1, 1) := by decide +kernel
theorem dX9_readPeople_27 : decode cX9_readPeople 27 = .ok (.iadd, 1) := by decide +kernel
theorem dX9_readPeople_28 : decode cX9_readPeople 28 = .ok (.putfield 170, 3) := by decide +kernel
theorem dX9_readPeople_31 : decode cX9_readPeople 31 = .ok (.aload_n 0, 1) := by decide +kernel
theorem dX9_readPeople_32 : decode cX9_readPeople 32 = .ok (.invokevirtual 156, 3) := by decide +kernel
theorem dX9_readPeople_35 : decode cX9_readPeople 35 = .ok (.istore_n 2, 1) := by decide +kernel
theorem dX9_readPeople_36 : decode cX9_readPeople 36 = .ok (.iload_n 2, 1) := by decide +kernel
theorem dX9_readPeople_37 : decode cX9_readPeople 37 = .ok (.ifCond .ge 5, 3) := by decide +kernel
theorem dX9_readPeople_40 : decode cX9_readPeople 40 = .ok (.iconst 1, 1) := by decide +kernel
theorem dX9_readPeople_41 : decode cX9_readPeople 41 = .ok (.ireturn, 1) := by decide +kernel
theorem dX9_readPeople_42 : decode cX9_readPeople 42 = .ok (.iload_n 2, 1) := by decide +kernel
theorem dX9_readPeople_43 : decode cX9_readPeople 43 = .ok (.bipush 44, 2) := by decide +kernel
theorem dX9_readPeople_45 : decode cX9_readPeople 45 = .ok (.if_icmp .ne 8, 3) := by decide +kernel
theorem dX9_readPeople_48 : decode cX9_readPeople 48 = .ok (.iload_n 1, 1) := by decide +kernel
theorem dX9_readPeople_49 : decode cX9_readPeople 49 = .ok (.iconst 4, 1) := by decide +kernel
theorem dX9_readPeople_50 : decode cX9_readPeople 50 = .ok (.if_icmp .ne 5, 3) := by decide +kernel
theorem dX9_readPeople_53 : decode cX9_readPeople 53 = .ok (.iconst 0, 1) := by decide +kernel
theorem dX9_readPeople_54 : decode cX9_readPeople 54 = .ok (.ireturn, 1) := by decide +kernel
theorem dX9_readPeople_55 : decode cX9_readPeople 55 = .ok (.aload_n 0, 1) := by decide +kernel
theorem dX9_readPeople_56 : decode cX9_readPeople 56 = .ok (.dup, 1) := by decide +kernel
theorem dX9_readPeople_57 : decode cX9_readPeople 57 = .ok (.getfield 153, 3) := by decide +kernel
theorem dX9_readPeople_60 : decode cX9_readPeople 60 = .ok (.iconst 1, 1) := by decide +kernel
theorem dX9_readPeople_61 : decode cX9_readPeople 61 = .ok (.iadd, 1) := by decide +kernel
theorem dX9_readPeople_62 : decode cX9_readPeople 62 = .ok (.putfield 153, 3) := by decide +kernel
theorem dX9_readPeople_65 : decode cX9_readPeople 65 = .ok (.iinc 1 1, 3) := by decide +kernel
theorem dX9_readPeople_68 : decode cX9_readPeople 68 = .ok (.goto (-61), 3) := by decide +kernel
theorem dX9_readPeople_71 : decode cX9_readPeople 71 = .ok (.iconst 0, 1) := by decide +kernel
theorem dX9_readPeople_72 : decode cX9_readPeople 72 = .ok (.ireturn, 1) := by decide +kernel
set_option maxRecDepth 20000 in
theorem ggX9_people_X9_readPeople : GoodIn wsX9_people wsX9_readPeople := goodIn_r _ [11, 2, 5, 12, 13, 14, 10, 15, 6, 16, 17, 18, 19, 1, 20, 21, 22, 23, 24, 25, 26, 27, 28, 29, 30, 39, 40, 41, 42, 43, 44, 45, 46, 47, 48, 49, 50, 51, 52, 53, 54, 55, 56, 57, 58, 59, 60, 61, 62, 63, 64, 65, 66, 67, 68, 69] rfl (by decide +kernel)
set_option maxRecDepth 20000 in
theorem gX9_people_X9_readPeople : GoodIn wsX9_people (wsV RX9 173 RX9 yX9_readPeople wsX9_readPeople) := goodIn_app (goodIn_of _ (by decide +kernel)) ggX9_people_X9_readPeople
set_option maxRecDepth 20000 in
theorem ggX9_people_X9_nextByte : GoodIn wsX9_people wsX9_nextByte := goodIn_r _ [19, 2, 1, 20, 39, 40, 41, 42, 43, 44, 45, 46, 47, 48, 49, 50, 51, 52, 53, 54, 55, 56, 57, 58, 59, 60, 61, 62, 63, 64, 65, 66, 67, 68, 69] rfl (by decide +kernel)
set_option maxRecDepth 20000 in
theorem gX9_people_X9_nextByte : GoodIn wsX9_people (wsV RX9 156 RX9 yX9_nextByte wsX9_nextByte) := goodIn_app (goodIn_of _ (by decide +kernel)) ggX9_people_X9_nextByte
set_option maxRecDepth 20000 in
theorem ggX9_people_X9_add : GoodIn wsX9_people wsX9_add := goodIn_r _ [34, 35, 3, 36, 37, 38, 39, 40, 41, 42, 43, 44, 45, 46, 47, 48, 49, 50, 51, 52, 53, 54, 55, 56, 57, 58, 59, 60, 61, 62, 63, 64, 65, 66, 67, 68, 69] rfl (by decide +kernel)
set_option maxRecDepth 20000 in
theorem gX9_people_X9_add : GoodIn wsX9_people (wsV RX9 102 RX9 yX9_add wsX9_add) := goodIn_app (goodIn_of _ (by decide +kernel)) ggX9_people_X9_add
theorem dX9_people_0 : decode cX9_people 0 = .ok (.aload_n 0, 1) := by decide +kernel
theorem dX9_people_1 : decode cX9_people 1 = .ok (.invokevirtual 173, 3) := by decide +kernel
theorem dX9_people_4 : decode cX9_people 4 = .ok (.istore_n 1, 1) := by decide +kernel
theorem dX9_people_5 : decode cX9_people 5 = .ok (.iload_n 1, 1) := by decide +kernel
theorem dX9_people_6 : decode cX9_people 6 = .ok (.ifCond .ne 8, 3) := by decide +kernel
theorem dX9_people_9 : decode cX9_people 9 = .ok (.aload_n 0, 1) := by decide +kernel
theorem dX9_people_10 : decode cX9_people 10 = .ok (.invokevirtual 156, 3) := by decide +kernel
theorem dX9_people_13 : decode cX9_people 13 = .ok (.pop, 1) := by decide +kernel
theorem dX9_people_14 : decode cX9_people 14 = .ok (.aload_n 0, 1) := by decide +kernel
theorem dX9_people_15 : decode cX9_people 15 = .ok (.iconst 0, 1) := by decide +kernel
theorem dX9_people_16 : decode cX9_people 16 = .ok (.putfield 150, 3) := by decide +kernel
theorem dX9_people_19 : decode cX9_people 19 = .ok (.iload_n 1, 1) := by decide +kernel
theorem dX9_people_20 : decode cX9_people 20 = .ok (.ifCond .ne 11, 3) := by decide +kernel
theorem dX9_people_23 : decode cX9_people 23 = .ok (.bipush (-20), 2) := by decide +kernel
theorem dX9_people_25 : decode cX9_people 25 = .ok (.aload_n 0, 1) := by decide +kernel
theorem dX9_people_26 : decode cX9_people 26 = .ok (.getfield 153, 3) := by decide +kernel
theorem dX9_people_29 : decode cX9_people 29 = .ok (.isub, 1) := by decide +kernel
theorem dX9_people_30 : decode cX9_people 30 = .ok (.ireturn, 1) := by decide +kernel
theorem dX9_people_31 : decode cX9_people 31 = .ok (.aload_n 0, 1) := by decide +kernel
theorem dX9_people_32 : decode cX9_people 32 = .ok (.iconst 0, 1) := by decide +kernel
theorem dX9_people_33 : decode cX9_people 33 = .ok (.putfield 86, 3) := by decide +kernel
theorem dX9_people_36 : decode cX9_people 36 = .ok (.aload_n 0, 1) := by decide +kernel
theorem dX9_people_37 : decode cX9_people 37 = .ok (.iconst 0, 1) := by decide +kernel
theorem dX9_people_38 : decode cX9_people 38 = .ok (.putfield 139, 3) := by decide +kernel
theorem dX9_people_41 : decode cX9_people 41 = .ok (.iconst 0, 1) := by decide +kernel
theorem dX9_people_42 : decode cX9_people 42 = .ok (.istore_n 2, 1) := by decide +kernel
theorem dX9_people_43 : decode cX9_people 43 = .ok (.iload_n 2, 1) := by decide +kernel
theorem dX9_people_44 : decode cX9_people 44 = .ok (.aload_n 0, 1) := by decide +kernel
theorem dX9_people_45 : decode cX9_people 45 = .ok (.getfield 170, 3) := by decide +kernel
theorem dX9_people_48 : decode cX9_people 48 = .ok (.if_icmp .ge 31, 3) := by decide +kernel
theorem dX9_people_51 : decode cX9_people 51 = .ok (.aload_n 0, 1) := by decide +kernel
theorem dX9_people_52 : decode cX9_people 52 = .ok (.aload_n 0, 1) := by decide +kernel
theorem dX9_people_53 : decode cX9_people 53 = .ok (.getfield 34, 3) := by decide +kernel
theorem dX9_people_56 : decode cX9_people 56 = .ok (.iconst 2, 1) := by decide +kernel
theorem dX9_people_57 : decode cX9_people 57 = .ok (.iload_n 2, 1) := by decide +kernel
theorem dX9_people_58 : decode cX9_people 58 = .ok (.imul, 1) := by decide +kernel
theorem dX9_people_59 : decode cX9_people 59 = .ok (.iaload, 1) := by decide +kernel
theorem dX9_people_60 : decode cX9_people 60 = .ok (.aload_n 0, 1) := by decide +kernel
theorem dX9_people_61 : decode cX9_people 61 = .ok (.getfield 34, 3) := by decide +kernel
theorem dX9_people_64 : decode cX9_people 64 = .ok (.iconst 2, 1) := by decide +kernel
theorem dX9_people_65 : decode cX9_people 65 = .ok (.iload_n 2, 1) := by decide +kernel
theorem dX9_people_66 : decode cX9_people 66 = .ok (.imul, 1) := by decide +kernel
theorem dX9_people_67 : decode cX9_people 67 = .ok (.iconst 1, 1) := by decide +kernel
theorem dX9_people_68 : decode cX9_people 68 = .ok (.iadd, 1) := by decide +kernel
theorem dX9_people_69 : decode cX9_people 69 = .ok (.iaload, 1) := by decide +kernel
theorem dX9_people_70 : decode cX9_people 70 = .ok (.invokevirtual 102, 3) := by decide +kernel
theorem dX9_people_73 : decode cX9_people 73 = .ok (.iinc 2 1, 3) := by decide +kernel
theorem dX9_people_76 : decode cX9_people 76 = .ok (.goto (-33), 3) := by decide +kernel
theorem dX9_people_79 : decode cX9_people 79 = .ok (.aload_n 0, 1) := by decide +kernel
theorem dX9_people_80 : decode cX9_people 80 = .ok (.getfield 86, 3) := by decide +kernel
theorem dX9_people_83 : decode cX9_people 83 = .ok (.ireturn, 1) := by decide +kernel
set_option maxRecDepth 20000 in
theorem ggX9_readAsking_X9_nextByte : GoodIn wsX9_readAsking wsX9_nextByte := goodIn_r _ [7, 1, 8, 9, 18, 19, 20, 21, 22, 23, 24, 25, 26, 27, 28, 29, 30, 31, 32, 33, 34, 35, 36, 37, 38, 39, 40, 41, 42, 43, 44, 45, 46, 47, 48] rfl (by decide +kernel)
set_option maxRecDepth 20000 in
theorem gX9_readAsking_X9_nextByte : GoodIn wsX9_readAsking (wsV RX9 156 RX9 yX9_nextByte wsX9_nextByte) := goodIn_app (goodIn_of _ (by decide +kernel)) ggX9_readAsking_X9_nextByte
set_option maxRecDepth 20000 in
theorem ggX9_readAsking_X9_isOne : GoodIn wsX9_readAsking wsX9_isOne := goodIn_r _ [13, 14, 15, 16, 6, 17, 18, 19, 20, 21, 22, 23, 24, 25, 26, 27, 28, 29, 30, 31, 32, 33, 34, 35, 36, 37, 38, 39, 40, 41, 42, 43, 44, 45, 46, 47, 48] rfl (by decide +kernel)
set_option maxRecDepth 20000 in
theorem gX9_readAsking_X9_isOne : GoodIn wsX9_readAsking (wsV RX9 94 RX9 yX9_isOne wsX9_isOne) := goodIn_app (goodIn_of _ (by decide +kernel)) ggX9_readAsking_X9_isOne
theorem dX9_readAsking_0 : decode cX9_readAsking 0 = .ok (.aload_n 0, 1) := by decide +kernel
theorem dX9_readAsking_1 : decode cX9_readAsking 1 = .ok (.invokevirtual 156, 3) := by decide +kernel
theorem dX9_readAsking_4 : decode cX9_readAsking 4 = .ok (.bipush 48, 2) := by decide +kernel
theorem dX9_readAsking_6 : decode cX9_readAsking 6 = .ok (.isub, 1) := by decide +kernel
theorem dX9_readAsking_7 : decode cX9_readAsking 7 = .ok (.istore_n 2, 1) := by decide +kernel
theorem dX9_readAsking_8 : decode cX9_readAsking 8 = .ok (.aload_n 0, 1) := by decide +kernel
theorem dX9_readAsking_9 : decode cX9_readAsking 9 = .ok (.iload_n 2, 1) := by decide +kernel
theorem dX9_readAsking_10 : decode cX9_readAsking 10 = .ok (.invokevirtual 94, 3) := by decide +kernel
theorem dX9_readAsking_13 : decode cX9_readAsking 13 = .ok (.ifCond .ne 5, 3) := by decide +kernel
theorem dX9_readAsking_16 : decode cX9_readAsking 16 = .ok (.iconst 0, 1) := by decide +kernel
theorem dX9_readAsking_17 : decode cX9_readAsking 17 = .ok (.ireturn, 1) := by decide +kernel
theorem dX9_readAsking_18 : decode cX9_readAsking 18 = .ok (.aload_n 0, 1) := by decide +kernel
theorem dX9_readAsking_19 : decode cX9_readAsking 19 = .ok (.dup, 1) := by decide +kernel
theorem dX9_readAsking_20 : decode cX9_readAsking 20 = .ok (.getfield 153, 3) := by decide +kernel
theorem dX9_readAsking_23 : decode cX9_readAsking 23 = .ok (.iconst 1, 1) := by decide +kernel
theorem dX9_readAsking_24 : decode cX9_readAsking 24 = .ok (.iadd, 1) := by decide +kernel
theorem dX9_readAsking_25 : decode cX9_readAsking 25 = .ok (.putfield 153, 3) := by decide +kernel
theorem dX9_readAsking_28 : decode cX9_readAsking 28 = .ok (.aload_n 0, 1) := by decide +kernel
theorem dX9_readAsking_29 : decode cX9_readAsking 29 = .ok (.invokevirtual 156, 3) := by decide +kernel
theorem dX9_readAsking_32 : decode cX9_readAsking 32 = .ok (.bipush 62, 2) := by decide +kernel
theorem dX9_readAsking_34 : decode cX9_readAsking 34 = .ok (.if_icmp .eq 5, 3) := by decide +kernel
theorem dX9_readAsking_37 : decode cX9_readAsking 37 = .ok (.iconst 0, 1) := by decide +kernel
theorem dX9_readAsking_38 : decode cX9_readAsking 38 = .ok (.ireturn, 1) := by decide +kernel
theorem dX9_readAsking_39 : decode cX9_readAsking 39 = .ok (.aload_n 0, 1) := by decide +kernel
theorem dX9_readAsking_40 : decode cX9_readAsking 40 = .ok (.dup, 1) := by decide +kernel
theorem dX9_readAsking_41 : decode cX9_readAsking 41 = .ok (.getfield 153, 3) := by decide +kernel
theorem dX9_readAsking_44 : decode cX9_readAsking 44 = .ok (.iconst 1, 1) := by decide +kernel
theorem dX9_readAsking_45 : decode cX9_readAsking 45 = .ok (.iadd, 1) := by decide +kernel
theorem dX9_readAsking_46 : decode cX9_readAsking 46 = .ok (.putfield 153, 3) := by decide +kernel
theorem dX9_readAsking_49 : decode cX9_readAsking 49 = .ok (.aload_n 0, 1) := by decide +kernel
theorem dX9_readAsking_50 : decode cX9_readAsking 50 = .ok (.invokevirtual 156, 3) := by decide +kernel
theorem dX9_readAsking_53 : decode cX9_readAsking 53 = .ok (.bipush 48, 2) := by decide +kernel
theorem dX9_readAsking_55 : decode cX9_readAsking 55 = .ok (.isub, 1) := by decide +kernel
theorem dX9_readAsking_56 : decode cX9_readAsking 56 = .ok (.istore_n 3, 1) := by decide +kernel
theorem dX9_readAsking_57 : decode cX9_readAsking 57 = .ok (.aload_n 0, 1) := by decide +kernel
theorem dX9_readAsking_58 : decode cX9_readAsking 58 = .ok (.iload_n 3, 1) := by decide +kernel
theorem dX9_readAsking_59 : decode cX9_readAsking 59 = .ok (.invokevirtual 94, 3) := by decide +kernel
theorem dX9_readAsking_62 : decode cX9_readAsking 62 = .ok (.ifCond .eq 8, 3) := by decide +kernel
theorem dX9_readAsking_65 : decode cX9_readAsking 65 = .ok (.iload_n 3, 1) := by decide +kernel
theorem dX9_readAsking_66 : decode cX9_readAsking 66 = .ok (.iload_n 2, 1) := by decide +kernel
theorem dX9_readAsking_67 : decode cX9_readAsking 67 = .ok (.if_icmp .ne 5, 3) := by decide +kernel
theorem dX9_readAsking_70 : decode cX9_readAsking 70 = .ok (.iconst 0, 1) := by decide +kernel
theorem dX9_readAsking_71 : decode cX9_readAsking 71 = .ok (.ireturn, 1) := by decide +kernel
theorem dX9_readAsking_72 : decode cX9_readAsking 72 = .ok (.aload_n 0, 1) := by decide +kernel
theorem dX9_readAsking_73 : decode cX9_readAsking 73 = .ok (.dup, 1) := by decide +kernel
theorem dX9_readAsking_74 : decode cX9_readAsking 74 = .ok (.getfield 153, 3) := by decide +kernel
theorem dX9_readAsking_77 : decode cX9_readAsking 77 = .ok (.iconst 1, 1) := by decide +kernel
theorem dX9_readAsking_78 : decode cX9_readAsking 78 = .ok (.iadd, 1) := by decide +kernel
theorem dX9_readAsking_79 : decode cX9_readAsking 79 = .ok (.putfield 153, 3) := by decide +kernel
theorem dX9_readAsking_82 : decode cX9_readAsking 82 = .ok (.aload_n 0, 1) := by decide +kernel
theorem dX9_readAsking_83 : decode cX9_readAsking 83 = .ok (.getfield 34, 3) := by decide +kernel
theorem dX9_readAsking_86 : decode cX9_readAsking 86 = .ok (.iload_n 1, 1) := by decide +kernel
theorem dX9_readAsking_87 : decode cX9_readAsking 87 = .ok (.iload_n 2, 1) := by decide +kernel
theorem dX9_readAsking_88 : decode cX9_readAsking 88 = .ok (.iastore, 1) := by decide +kernel
theorem dX9_readAsking_89 : decode cX9_readAsking 89 = .ok (.aload_n 0, 1) := by decide +kernel
theorem dX9_readAsking_90 : decode cX9_readAsking 90 = .ok (.getfield 34, 3) := by decide +kernel
theorem dX9_readAsking_93 : decode cX9_readAsking 93 = .ok (.iload_n 1, 1) := by decide +kernel
theorem dX9_readAsking_94 : decode cX9_readAsking 94 = .ok (.iconst 1, 1) := by decide +kernel
theorem dX9_readAsking_95 : decode cX9_readAsking 95 = .ok (.iadd, 1) := by decide +kernel
theorem dX9_readAsking_96 : decode cX9_readAsking 96 = .ok (.iload_n 3, 1) := by decide +kernel
theorem dX9_readAsking_97 : decode cX9_readAsking 97 = .ok (.iastore, 1) := by decide +kernel
theorem dX9_readAsking_98 : decode cX9_readAsking 98 = .ok (.aload_n 0, 1) := by decide +kernel
theorem dX9_readAsking_99 : decode cX9_readAsking 99 = .ok (.getfield 34, 3) := by decide +kernel
theorem dX9_readAsking_102 : decode cX9_readAsking 102 = .ok (.iload_n 1, 1) := by decide +kernel
theorem dX9_readAsking_103 : decode cX9_readAsking 103 = .ok (.iconst 2, 1) := by decide +kernel
theorem dX9_readAsking_104 : decode cX9_readAsking 104 = .ok (.iadd, 1) := by decide +kernel
theorem dX9_readAsking_105 : decode cX9_readAsking 105 = .ok (.iconst 0, 1) := by decide +kernel
theorem dX9_readAsking_106 : decode cX9_readAsking 106 = .ok (.iastore, 1) := by decide +kernel
theorem dX9_readAsking_107 : decode cX9_readAsking 107 = .ok (.iconst 1, 1) := by decide +kernel
theorem dX9_readAsking_108 : decode cX9_readAsking 108 = .ok (.ireturn, 1) := by decide +kernel
set_option maxRecDepth 20000 in
theorem ggX9_readPlan_X9_readAsking : GoodIn wsX9_readPlan wsX9_readAsking := goodIn_r _ [8, 1, 3, 9, 10, 11, 7, 12, 13, 14, 15, 16, 17, 18, 19, 20, 21, 22, 23, 24, 25, 26, 27, 28, 29, 30, 31, 32, 33, 34, 35, 36, 37, 38, 39, 40, 41, 42, 43, 44, 45, 46, 47, 48, 49, 50, 51, 52, 53] rfl (by decide +kernel)
set_option maxRecDepth 20000 in
theorem gX9_readPlan_X9_readAsking : GoodIn wsX9_readPlan (wsV RX9 177 RX9 yX9_readAsking wsX9_readAsking) := goodIn_app (goodIn_of _ (by decide +kernel)) ggX9_readPlan_X9_readAsking
set_option maxRecDepth 20000 in
theorem ggX9_readPlan_X9_nextByte : GoodIn wsX9_readPlan wsX9_nextByte := goodIn_r _ [12, 1, 13, 14, 23, 24, 25, 26, 27, 28, 29, 30, 31, 32, 33, 34, 35, 36, 37, 38, 39, 40, 41, 42, 43, 44, 45, 46, 47, 48, 49, 50, 51, 52, 53] rfl (by decide +kernel)
set_option maxRecDepth 20000 in
theorem gX9_readPlan_X9_nextByte : GoodIn wsX9_readPlan (wsV RX9 156 RX9 yX9_nextByte wsX9_nextByte) := goodIn_app (goodIn_of _ (by decide +kernel)) ggX9_readPlan_X9_nextByte
theorem dX9_readPlan_0 : decode cX9_readPlan 0 = .ok (.aload_n 0, 1) := by decide +kernel
theorem dX9_readPlan_1 : decode cX9_readPlan 1 = .ok (.iconst 0, 1) := by decide +kernel
theorem dX9_readPlan_2 : decode cX9_readPlan 2 = .ok (.putfield 153, 3) := by decide +kernel
theorem dX9_readPlan_5 : decode cX9_readPlan 5 = .ok (.iconst 0, 1) := by decide +kernel
theorem dX9_readPlan_6 : decode cX9_readPlan 6 = .ok (.istore_n 1, 1) := by decide +kernel
theorem dX9_readPlan_7 : decode cX9_readPlan 7 = .ok (.iload_n 1, 1) := by decide +kernel
theorem dX9_readPlan_8 : decode cX9_readPlan 8 = .ok (.bipush 8, 2) := by decide +kernel
theorem dX9_readPlan_10 : decode cX9_readPlan 10 = .ok (.if_icmp .ge 102, 3) := by decide +kernel
theorem dX9_readPlan_13 : decode cX9_readPlan 13 = .ok (.aload_n 0, 1) := by decide +kernel
theorem dX9_readPlan_14 : decode cX9_readPlan 14 = .ok (.iconst 3, 1) := by decide +kernel
theorem dX9_readPlan_15 : decode cX9_readPlan 15 = .ok (.iload_n 1, 1) := by decide +kernel
theorem dX9_readPlan_16 : decode cX9_readPlan 16 = .ok (.imul, 1) := by decide +kernel
theorem dX9_readPlan_17 : decode cX9_readPlan 17 = .ok (.invokevirtual 177, 3) := by decide +kernel
theorem dX9_readPlan_20 : decode cX9_readPlan 20 = .ok (.ifCond .ne 5, 3) := by decide +kernel
theorem dX9_readPlan_23 : decode cX9_readPlan 23 = .ok (.iconst 0, 1) := by decide +kernel
theorem dX9_readPlan_24 : decode cX9_readPlan 24 = .ok (.ireturn, 1) := by decide +kernel
theorem dX9_readPlan_25 : decode cX9_readPlan 25 = .ok (.aload_n 0, 1) := by decide +kernel
theorem dX9_readPlan_26 : decode cX9_readPlan 26 = .ok (.iload_n 1, 1) := by decide +kernel
theorem dX9_readPlan_27 : decode cX9_readPlan 27 = .ok (.iconst 1, 1) := by decide +kernel
theorem dX9_readPlan_28 : decode cX9_readPlan 28 = .ok (.iadd, 1) := by decide +kernel
theorem dX9_readPlan_29 : decode cX9_readPlan 29 = .ok (.putfield 170, 3) := by decide +kernel
theorem dX9_readPlan_32 : decode cX9_readPlan 32 = .ok (.aload_n 0, 1) := by decide +kernel
theorem dX9_readPlan_33 : decode cX9_readPlan 33 = .ok (.invokevirtual 156, 3) := by decide +kernel
theorem dX9_readPlan_36 : decode cX9_readPlan 36 = .ok (.istore_n 2, 1) := by decide +kernel
theorem dX9_readPlan_37 : decode cX9_readPlan 37 = .ok (.iload_n 2, 1) := by decide +kernel
theorem dX9_readPlan_38 : decode cX9_readPlan 38 = .ok (.bipush 59, 2) := by decide +kernel
theorem dX9_readPlan_40 : decode cX9_readPlan 40 = .ok (.if_icmp .ne 33, 3) := by decide +kernel
theorem dX9_readPlan_43 : decode cX9_readPlan 43 = .ok (.aload_n 0, 1) := by decide +kernel
theorem dX9_readPlan_44 : decode cX9_readPlan 44 = .ok (.getfield 34, 3) := by decide +kernel
theorem dX9_readPlan_47 : decode cX9_readPlan 47 = .ok (.iconst 3, 1) := by decide +kernel
theorem dX9_readPlan_48 : decode cX9_readPlan 48 = .ok (.iload_n 1, 1) := by decide +kernel
theorem dX9_readPlan_49 : decode cX9_readPlan 49 = .ok (.imul, 1) := by decide +kernel
theorem dX9_readPlan_50 : decode cX9_readPlan 50 = .ok (.iconst 2, 1) := by decide +kernel
theorem dX9_readPlan_51 : decode cX9_readPlan 51 = .ok (.iadd, 1) := by decide +kernel
theorem dX9_readPlan_52 : decode cX9_readPlan 52 = .ok (.iconst 1, 1) := by decide +kernel
theorem dX9_readPlan_53 : decode cX9_readPlan 53 = .ok (.iastore, 1) := by decide +kernel
theorem dX9_readPlan_54 : decode cX9_readPlan 54 = .ok (.aload_n 0, 1) := by decide +kernel
theorem dX9_readPlan_55 : decode cX9_readPlan 55 = .ok (.dup, 1) := by decide +kernel
theorem dX9_readPlan_56 : decode cX9_readPlan 56 = .ok (.getfield 153, 3) := by decide +kernel
theorem dX9_readPlan_59 : decode cX9_readPlan 59 = .ok (.iconst 1, 1) := by decide +kernel
theorem dX9_readPlan_60 : decode cX9_readPlan 60 = .ok (.iadd, 1) := by decide +kernel
theorem dX9_readPlan_61 : decode cX9_readPlan 61 = .ok (.putfield 153, 3) := by decide +kernel
theorem dX9_readPlan_64 : decode cX9_readPlan 64 = .ok (.aload_n 0, 1) := by decide +kernel
theorem dX9_readPlan_65 : decode cX9_readPlan 65 = .ok (.invokevirtual 156, 3) := by decide +kernel
theorem dX9_readPlan_68 : decode cX9_readPlan 68 = .ok (.ifCond .ge 38, 3) := by decide +kernel
theorem dX9_readPlan_71 : decode cX9_readPlan 71 = .ok (.iconst 1, 1) := by decide +kernel
theorem dX9_readPlan_72 : decode cX9_readPlan 72 = .ok (.ireturn, 1) := by decide +kernel
theorem dX9_readPlan_73 : decode cX9_readPlan 73 = .ok (.iload_n 2, 1) := by decide +kernel
theorem dX9_readPlan_74 : decode cX9_readPlan 74 = .ok (.ifCond .ge 5, 3) := by decide +kernel
theorem dX9_readPlan_77 : decode cX9_readPlan 77 = .ok (.iconst 1, 1) := by decide +kernel
theorem dX9_readPlan_78 : decode cX9_readPlan 78 = .ok (.ireturn, 1) := by decide +kernel
theorem dX9_readPlan_79 : decode cX9_readPlan 79 = .ok (.iload_n 2, 1) := by decide +kernel
theorem dX9_readPlan_80 : decode cX9_readPlan 80 = .ok (.bipush 44, 2) := by decide +kernel
theorem dX9_readPlan_82 : decode cX9_readPlan 82 = .ok (.if_icmp .ne 22, 3) := by decide +kernel
theorem dX9_readPlan_85 : decode cX9_readPlan 85 = .ok (.iload_n 1, 1) := by decide +kernel
theorem dX9_readPlan_86 : decode cX9_readPlan 86 = .ok (.bipush 7, 2) := by decide +kernel
theorem dX9_readPlan_88 : decode cX9_readPlan 88 = .ok (.if_icmp .ge 16, 3) := by decide +kernel
theorem dX9_readPlan_91 : decode cX9_readPlan 91 = .ok (.aload_n 0, 1) := by decide +kernel
theorem dX9_readPlan_92 : decode cX9_readPlan 92 = .ok (.dup, 1) := by decide +kernel
theorem dX9_readPlan_93 : decode cX9_readPlan 93 = .ok (.getfield 153, 3) := by decide +kernel
theorem dX9_readPlan_96 : decode cX9_readPlan 96 = .ok (.iconst 1, 1) := by decide +kernel
theorem dX9_readPlan_97 : decode cX9_readPlan 97 = .ok (.iadd, 1) := by decide +kernel
theorem dX9_readPlan_98 : decode cX9_readPlan 98 = .ok (.putfield 153, 3) := by decide +kernel
theorem dX9_readPlan_101 : decode cX9_readPlan 101 = .ok (.goto 5, 3) := by decide +kernel
theorem dX9_readPlan_104 : decode cX9_readPlan 104 = .ok (.iconst 0, 1) := by decide +kernel
theorem dX9_readPlan_105 : decode cX9_readPlan 105 = .ok (.ireturn, 1) := by decide +kernel
theorem dX9_readPlan_106 : decode cX9_readPlan 106 = .ok (.iinc 1 1, 3) := by decide +kernel
theorem dX9_readPlan_109 : decode cX9_readPlan 109 = .ok (.goto (-102), 3) := by decide +kernel
theorem dX9_readPlan_112 : decode cX9_readPlan 112 = .ok (.iconst 0, 1) := by decide +kernel
theorem dX9_readPlan_113 : decode cX9_readPlan 113 = .ok (.ireturn, 1) := by decide +kernel
set_option maxRecDepth 20000 in
theorem ggX9_plan_X9_readPlan : GoodIn wsX9_plan wsX9_readPlan := goodIn_r _ [11, 2, 3, 6, 12, 13, 14, 10, 15, 16, 17, 18, 19, 1, 20, 21, 22, 23, 24, 25, 26, 27, 28, 29, 30, 31, 32, 33, 34, 35, 36, 37, 38, 39, 40, 41, 42, 43, 44, 45, 46, 47, 48, 49, 50, 51, 52, 53, 54, 55, 56, 57, 58, 59] rfl (by decide +kernel)
set_option maxRecDepth 20000 in
theorem gX9_plan_X9_readPlan : GoodIn wsX9_plan (wsV RX9 180 RX9 yX9_readPlan wsX9_readPlan) := goodIn_app (goodIn_of _ (by decide +kernel)) ggX9_plan_X9_readPlan
set_option maxRecDepth 20000 in
theorem ggX9_plan_X9_nextByte : GoodIn wsX9_plan wsX9_nextByte := goodIn_r _ [19, 2, 1, 20, 29, 30, 31, 32, 33, 34, 35, 36, 37, 38, 39, 40, 41, 42, 43, 44, 45, 46, 47, 48, 49, 50, 51, 52, 53, 54, 55, 56, 57, 58, 59] rfl (by decide +kernel)
set_option maxRecDepth 20000 in
theorem gX9_plan_X9_nextByte : GoodIn wsX9_plan (wsV RX9 156 RX9 yX9_nextByte wsX9_nextByte) := goodIn_app (goodIn_of _ (by decide +kernel)) ggX9_plan_X9_nextByte
theorem dX9_plan_0 : decode cX9_plan 0 = .ok (.aload_n 0, 1) := by decide +kernel
theorem dX9_plan_1 : decode cX9_plan 1 = .ok (.invokevirtual 180, 3) := by decide +kernel
theorem dX9_plan_4 : decode cX9_plan 4 = .ok (.istore_n 1, 1) := by decide +kernel
theorem dX9_plan_5 : decode cX9_plan 5 = .ok (.iload_n 1, 1) := by decide +kernel
theorem dX9_plan_6 : decode cX9_plan 6 = .ok (.ifCond .ne 8, 3) := by decide +kernel
theorem dX9_plan_9 : decode cX9_plan 9 = .ok (.aload_n 0, 1) := by decide +kernel
theorem dX9_plan_10 : decode cX9_plan 10 = .ok (.invokevirtual 156, 3) := by decide +kernel

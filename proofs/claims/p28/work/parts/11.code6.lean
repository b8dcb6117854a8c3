theorem dX9_plan_13 : decode cX9_plan 13 = .ok (.pop, 1) := by decide +kernel
theorem dX9_plan_14 : decode cX9_plan 14 = .ok (.aload_n 0, 1) := by decide +kernel
theorem dX9_plan_15 : decode cX9_plan 15 = .ok (.iconst 0, 1) := by decide +kernel
theorem dX9_plan_16 : decode cX9_plan 16 = .ok (.putfield 150, 3) := by decide +kernel
theorem dX9_plan_19 : decode cX9_plan 19 = .ok (.iload_n 1, 1) := by decide +kernel
theorem dX9_plan_20 : decode cX9_plan 20 = .ok (.ifCond .ne 11, 3) := by decide +kernel
theorem dX9_plan_23 : decode cX9_plan 23 = .ok (.bipush (-20), 2) := by decide +kernel
theorem dX9_plan_25 : decode cX9_plan 25 = .ok (.aload_n 0, 1) := by decide +kernel
theorem dX9_plan_26 : decode cX9_plan 26 = .ok (.getfield 153, 3) := by decide +kernel
theorem dX9_plan_29 : decode cX9_plan 29 = .ok (.isub, 1) := by decide +kernel
theorem dX9_plan_30 : decode cX9_plan 30 = .ok (.ireturn, 1) := by decide +kernel
theorem dX9_plan_31 : decode cX9_plan 31 = .ok (.aload_n 0, 1) := by decide +kernel
theorem dX9_plan_32 : decode cX9_plan 32 = .ok (.aload_n 0, 1) := by decide +kernel
theorem dX9_plan_33 : decode cX9_plan 33 = .ok (.getfield 170, 3) := by decide +kernel
theorem dX9_plan_36 : decode cX9_plan 36 = .ok (.putfield 139, 3) := by decide +kernel
theorem dX9_plan_39 : decode cX9_plan 39 = .ok (.iconst 0, 1) := by decide +kernel
theorem dX9_plan_40 : decode cX9_plan 40 = .ok (.istore_n 2, 1) := by decide +kernel
theorem dX9_plan_41 : decode cX9_plan 41 = .ok (.iload_n 2, 1) := by decide +kernel
theorem dX9_plan_42 : decode cX9_plan 42 = .ok (.iconst 3, 1) := by decide +kernel
theorem dX9_plan_43 : decode cX9_plan 43 = .ok (.aload_n 0, 1) := by decide +kernel
theorem dX9_plan_44 : decode cX9_plan 44 = .ok (.getfield 170, 3) := by decide +kernel
theorem dX9_plan_47 : decode cX9_plan 47 = .ok (.imul, 1) := by decide +kernel
theorem dX9_plan_48 : decode cX9_plan 48 = .ok (.if_icmp .ge 21, 3) := by decide +kernel
theorem dX9_plan_51 : decode cX9_plan 51 = .ok (.aload_n 0, 1) := by decide +kernel
theorem dX9_plan_52 : decode cX9_plan 52 = .ok (.getfield 22, 3) := by decide +kernel
theorem dX9_plan_55 : decode cX9_plan 55 = .ok (.iload_n 2, 1) := by decide +kernel
theorem dX9_plan_56 : decode cX9_plan 56 = .ok (.aload_n 0, 1) := by decide +kernel
theorem dX9_plan_57 : decode cX9_plan 57 = .ok (.getfield 34, 3) := by decide +kernel
theorem dX9_plan_60 : decode cX9_plan 60 = .ok (.iload_n 2, 1) := by decide +kernel
theorem dX9_plan_61 : decode cX9_plan 61 = .ok (.iaload, 1) := by decide +kernel
theorem dX9_plan_62 : decode cX9_plan 62 = .ok (.iastore, 1) := by decide +kernel
theorem dX9_plan_63 : decode cX9_plan 63 = .ok (.iinc 2 1, 3) := by decide +kernel
theorem dX9_plan_66 : decode cX9_plan 66 = .ok (.goto (-25), 3) := by decide +kernel
theorem dX9_plan_69 : decode cX9_plan 69 = .ok (.aload_n 0, 1) := by decide +kernel
theorem dX9_plan_70 : decode cX9_plan 70 = .ok (.getfield 139, 3) := by decide +kernel
theorem dX9_plan_73 : decode cX9_plan 73 = .ok (.ireturn, 1) := by decide +kernel
set_option maxRecDepth 20000 in
theorem ggX9_run_X9_begin : GoodIn wsX9_run wsX9_begin := goodIn_r _ [7, 8, 9, 10, 11, 33, 34, 35, 36, 37, 38, 39, 40, 41, 42, 43, 44, 45, 46, 47, 48, 49, 50, 51, 52, 53, 54, 55, 56, 57, 58, 59, 60, 61, 62, 63] rfl (by decide +kernel)
set_option maxRecDepth 20000 in
theorem gX9_run_X9_begin : GoodIn wsX9_run (wsV RX9 119 RX9 yX9_begin wsX9_begin) := goodIn_app (goodIn_of _ (by decide +kernel)) ggX9_run_X9_begin
set_option maxRecDepth 20000 in
theorem ggX9_run_X9_tryAsk : GoodIn wsX9_run wsX9_tryAsk := goodIn_r _ [15, 16, 8, 10, 17, 18, 6, 19, 20, 21, 22, 23, 24, 33, 34, 35, 36, 37, 38, 39, 40, 41, 42, 43, 44, 45, 46, 47, 48, 49, 50, 51, 52, 53, 54, 55, 56, 57, 58, 59, 60, 61, 62, 63] rfl (by decide +kernel)
set_option maxRecDepth 20000 in
theorem gX9_run_X9_tryAsk : GoodIn wsX9_run (wsV RX9 122 RX9 yX9_tryAsk wsX9_tryAsk) := goodIn_app (goodIn_of _ (by decide +kernel)) ggX9_run_X9_tryAsk
set_option maxRecDepth 20000 in
theorem ggX9_run_X9_newWeek : GoodIn wsX9_run wsX9_newWeek := goodIn_r _ [28, 10, 33, 34, 35, 36, 37, 38, 39, 40, 41, 42, 43, 44, 45, 46, 47, 48, 49, 50, 51, 52, 53, 54, 55, 56, 57, 58, 59, 60, 61, 62, 63] rfl (by decide +kernel)
set_option maxRecDepth 20000 in
theorem gX9_run_X9_newWeek : GoodIn wsX9_run (wsV RX9 136 RX9 yX9_newWeek wsX9_newWeek) := goodIn_app (goodIn_of _ (by decide +kernel)) ggX9_run_X9_newWeek
set_option maxRecDepth 20000 in
theorem ggX9_run_X9_keep : GoodIn wsX9_run wsX9_keep := goodIn_r _ [32, 9, 8, 11, 10, 33, 34, 35, 36, 37, 38, 39, 40, 41, 42, 43, 44, 45, 46, 47, 48, 49, 50, 51, 52, 53, 54, 55, 56, 57, 58, 59, 60, 61, 62, 63] rfl (by decide +kernel)
set_option maxRecDepth 20000 in
theorem gX9_run_X9_keep : GoodIn wsX9_run (wsV RX9 125 RX9 yX9_keep wsX9_keep) := goodIn_app (goodIn_of _ (by decide +kernel)) ggX9_run_X9_keep
theorem dX9_run_0 : decode cX9_run 0 = .ok (.aload_n 0, 1) := by decide +kernel
theorem dX9_run_1 : decode cX9_run 1 = .ok (.invokevirtual 119, 3) := by decide +kernel
theorem dX9_run_4 : decode cX9_run 4 = .ok (.iconst 0, 1) := by decide +kernel
theorem dX9_run_5 : decode cX9_run 5 = .ok (.istore_n 1, 1) := by decide +kernel
theorem dX9_run_6 : decode cX9_run 6 = .ok (.iload_n 1, 1) := by decide +kernel
theorem dX9_run_7 : decode cX9_run 7 = .ok (.aload_n 0, 1) := by decide +kernel
theorem dX9_run_8 : decode cX9_run 8 = .ok (.getfield 139, 3) := by decide +kernel
theorem dX9_run_11 : decode cX9_run 11 = .ok (.if_icmp .ge 52, 3) := by decide +kernel
theorem dX9_run_14 : decode cX9_run 14 = .ok (.aload_n 0, 1) := by decide +kernel
theorem dX9_run_15 : decode cX9_run 15 = .ok (.aload_n 0, 1) := by decide +kernel
theorem dX9_run_16 : decode cX9_run 16 = .ok (.getfield 22, 3) := by decide +kernel
theorem dX9_run_19 : decode cX9_run 19 = .ok (.iconst 3, 1) := by decide +kernel
theorem dX9_run_20 : decode cX9_run 20 = .ok (.iload_n 1, 1) := by decide +kernel
theorem dX9_run_21 : decode cX9_run 21 = .ok (.imul, 1) := by decide +kernel
theorem dX9_run_22 : decode cX9_run 22 = .ok (.iaload, 1) := by decide +kernel
theorem dX9_run_23 : decode cX9_run 23 = .ok (.aload_n 0, 1) := by decide +kernel
theorem dX9_run_24 : decode cX9_run 24 = .ok (.getfield 22, 3) := by decide +kernel
theorem dX9_run_27 : decode cX9_run 27 = .ok (.iconst 3, 1) := by decide +kernel
theorem dX9_run_28 : decode cX9_run 28 = .ok (.iload_n 1, 1) := by decide +kernel
theorem dX9_run_29 : decode cX9_run 29 = .ok (.imul, 1) := by decide +kernel
theorem dX9_run_30 : decode cX9_run 30 = .ok (.iconst 1, 1) := by decide +kernel
theorem dX9_run_31 : decode cX9_run 31 = .ok (.iadd, 1) := by decide +kernel
theorem dX9_run_32 : decode cX9_run 32 = .ok (.iaload, 1) := by decide +kernel
theorem dX9_run_33 : decode cX9_run 33 = .ok (.invokevirtual 122, 3) := by decide +kernel
theorem dX9_run_36 : decode cX9_run 36 = .ok (.ifCond .lt 27, 3) := by decide +kernel
theorem dX9_run_39 : decode cX9_run 39 = .ok (.aload_n 0, 1) := by decide +kernel
theorem dX9_run_40 : decode cX9_run 40 = .ok (.getfield 22, 3) := by decide +kernel
theorem dX9_run_43 : decode cX9_run 43 = .ok (.iconst 3, 1) := by decide +kernel
theorem dX9_run_44 : decode cX9_run 44 = .ok (.iload_n 1, 1) := by decide +kernel
theorem dX9_run_45 : decode cX9_run 45 = .ok (.imul, 1) := by decide +kernel
theorem dX9_run_46 : decode cX9_run 46 = .ok (.iconst 2, 1) := by decide +kernel
theorem dX9_run_47 : decode cX9_run 47 = .ok (.iadd, 1) := by decide +kernel
theorem dX9_run_48 : decode cX9_run 48 = .ok (.iaload, 1) := by decide +kernel
theorem dX9_run_49 : decode cX9_run 49 = .ok (.iconst 1, 1) := by decide +kernel
theorem dX9_run_50 : decode cX9_run 50 = .ok (.if_icmp .ne 7, 3) := by decide +kernel
theorem dX9_run_53 : decode cX9_run 53 = .ok (.aload_n 0, 1) := by decide +kernel
theorem dX9_run_54 : decode cX9_run 54 = .ok (.invokevirtual 136, 3) := by decide +kernel
theorem dX9_run_57 : decode cX9_run 57 = .ok (.iinc 1 1, 3) := by decide +kernel
theorem dX9_run_60 : decode cX9_run 60 = .ok (.goto (-54), 3) := by decide +kernel
theorem dX9_run_63 : decode cX9_run 63 = .ok (.aload_n 0, 1) := by decide +kernel
theorem dX9_run_64 : decode cX9_run 64 = .ok (.invokevirtual 125, 3) := by decide +kernel
theorem dX9_run_67 : decode cX9_run 67 = .ok (.iload_n 1, 1) := by decide +kernel
theorem dX9_run_68 : decode cX9_run 68 = .ok (.ireturn, 1) := by decide +kernel
set_option maxRecDepth 20000 in
theorem ggX9_askAt_X9_tryAsk : GoodIn wsX9_askAt wsX9_tryAsk := goodIn_r _ [7, 8, 9, 10, 11, 12, 6, 13, 14, 15, 16, 17, 18, 19, 20, 21, 22, 23, 24, 25, 26, 27, 28, 29, 30, 31, 32, 33, 34, 35, 36, 37, 38, 39, 40, 41, 42, 43, 44, 45, 46, 47, 48, 49] rfl (by decide +kernel)
set_option maxRecDepth 20000 in
theorem gX9_askAt_X9_tryAsk : GoodIn wsX9_askAt (wsV RX9 122 RX9 yX9_tryAsk wsX9_tryAsk) := goodIn_app (goodIn_of _ (by decide +kernel)) ggX9_askAt_X9_tryAsk
theorem dX9_askAt_0 : decode cX9_askAt 0 = .ok (.iconst 0, 1) := by decide +kernel
theorem dX9_askAt_1 : decode cX9_askAt 1 = .ok (.istore_n 3, 1) := by decide +kernel
theorem dX9_askAt_2 : decode cX9_askAt 2 = .ok (.iload_n 3, 1) := by decide +kernel
theorem dX9_askAt_3 : decode cX9_askAt 3 = .ok (.aload_n 0, 1) := by decide +kernel
theorem dX9_askAt_4 : decode cX9_askAt 4 = .ok (.getfield 86, 3) := by decide +kernel
theorem dX9_askAt_7 : decode cX9_askAt 7 = .ok (.if_icmp .ge 31, 3) := by decide +kernel
theorem dX9_askAt_10 : decode cX9_askAt 10 = .ok (.iload_n 3, 1) := by decide +kernel
theorem dX9_askAt_11 : decode cX9_askAt 11 = .ok (.iload_n 1, 1) := by decide +kernel
theorem dX9_askAt_12 : decode cX9_askAt 12 = .ok (.if_icmp .eq 20, 3) := by decide +kernel
theorem dX9_askAt_15 : decode cX9_askAt 15 = .ok (.aload_n 0, 1) := by decide +kernel
theorem dX9_askAt_16 : decode cX9_askAt 16 = .ok (.getfield 37, 3) := by decide +kernel
theorem dX9_askAt_19 : decode cX9_askAt 19 = .ok (.iload_n 3, 1) := by decide +kernel
theorem dX9_askAt_20 : decode cX9_askAt 20 = .ok (.iaload, 1) := by decide +kernel
theorem dX9_askAt_21 : decode cX9_askAt 21 = .ok (.iload_n 2, 1) := by decide +kernel
theorem dX9_askAt_22 : decode cX9_askAt 22 = .ok (.if_icmp .ne 10, 3) := by decide +kernel
theorem dX9_askAt_25 : decode cX9_askAt 25 = .ok (.aload_n 0, 1) := by decide +kernel
theorem dX9_askAt_26 : decode cX9_askAt 26 = .ok (.iload_n 1, 1) := by decide +kernel
theorem dX9_askAt_27 : decode cX9_askAt 27 = .ok (.iload_n 3, 1) := by decide +kernel
theorem dX9_askAt_28 : decode cX9_askAt 28 = .ok (.invokevirtual 122, 3) := by decide +kernel
theorem dX9_askAt_31 : decode cX9_askAt 31 = .ok (.pop, 1) := by decide +kernel
theorem dX9_askAt_32 : decode cX9_askAt 32 = .ok (.iinc 3 1, 3) := by decide +kernel
theorem dX9_askAt_35 : decode cX9_askAt 35 = .ok (.goto (-33), 3) := by decide +kernel
theorem dX9_askAt_38 : decode cX9_askAt 38 = .ok (.return_, 1) := by decide +kernel
set_option maxRecDepth 20000 in
theorem ggX9_goWith_X9_begin : GoodIn wsX9_goWith wsX9_begin := goodIn_r _ [8, 3, 9, 10, 11, 35, 36, 37, 38, 39, 40, 41, 42, 43, 44, 45, 46, 47, 48, 49, 50, 51, 52, 53, 54, 55, 56, 57, 58, 59, 60, 61, 62, 63, 64, 65] rfl (by decide +kernel)
set_option maxRecDepth 20000 in
theorem gX9_goWith_X9_begin : GoodIn wsX9_goWith (wsV RX9 119 RX9 yX9_begin wsX9_begin) := goodIn_app (goodIn_of _ (by decide +kernel)) ggX9_goWith_X9_begin
set_option maxRecDepth 20000 in
theorem ggX9_goWith_X9_askAt : GoodIn wsX9_goWith wsX9_askAt := goodIn_r _ [15, 16, 17, 18, 19, 20, 7, 21, 22, 3, 10, 23, 24, 25, 26, 27, 28, 29, 30, 35, 36, 37, 38, 39, 40, 41, 42, 43, 44, 45, 46, 47, 48, 49, 50, 51, 52, 53, 54, 55, 56, 57, 58, 59, 60, 61, 62, 63, 64, 65] rfl (by decide +kernel)
set_option maxRecDepth 20000 in
theorem gX9_goWith_X9_askAt : GoodIn wsX9_goWith (wsV RX9 183 RX9 yX9_askAt wsX9_askAt) := goodIn_app (goodIn_of _ (by decide +kernel)) ggX9_goWith_X9_askAt
set_option maxRecDepth 20000 in
theorem ggX9_goWith_X9_tryAsk : GoodIn wsX9_goWith wsX9_tryAsk := goodIn_r _ [21, 22, 3, 10, 23, 24, 7, 25, 26, 27, 28, 29, 30, 35, 36, 37, 38, 39, 40, 41, 42, 43, 44, 45, 46, 47, 48, 49, 50, 51, 52, 53, 54, 55, 56, 57, 58, 59, 60, 61, 62, 63, 64, 65] rfl (by decide +kernel)
set_option maxRecDepth 20000 in
theorem gX9_goWith_X9_tryAsk : GoodIn wsX9_goWith (wsV RX9 122 RX9 yX9_tryAsk wsX9_tryAsk) := goodIn_app (goodIn_of _ (by decide +kernel)) ggX9_goWith_X9_tryAsk
set_option maxRecDepth 20000 in
theorem ggX9_goWith_X9_newWeek : GoodIn wsX9_goWith wsX9_newWeek := goodIn_r _ [34, 10, 35, 36, 37, 38, 39, 40, 41, 42, 43, 44, 45, 46, 47, 48, 49, 50, 51, 52, 53, 54, 55, 56, 57, 58, 59, 60, 61, 62, 63, 64, 65] rfl (by decide +kernel)
set_option maxRecDepth 20000 in
theorem gX9_goWith_X9_newWeek : GoodIn wsX9_goWith (wsV RX9 136 RX9 yX9_newWeek wsX9_newWeek) := goodIn_app (goodIn_of _ (by decide +kernel)) ggX9_goWith_X9_newWeek
theorem dX9_goWith_0 : decode cX9_goWith 0 = .ok (.aload_n 0, 1) := by decide +kernel
theorem dX9_goWith_1 : decode cX9_goWith 1 = .ok (.invokevirtual 119, 3) := by decide +kernel
theorem dX9_goWith_4 : decode cX9_goWith 4 = .ok (.aload_n 0, 1) := by decide +kernel
theorem dX9_goWith_5 : decode cX9_goWith 5 = .ok (.iload_n 1, 1) := by decide +kernel
theorem dX9_goWith_6 : decode cX9_goWith 6 = .ok (.iconst 0, 1) := by decide +kernel
theorem dX9_goWith_7 : decode cX9_goWith 7 = .ok (.invokevirtual 183, 3) := by decide +kernel
theorem dX9_goWith_10 : decode cX9_goWith 10 = .ok (.iconst 0, 1) := by decide +kernel
theorem dX9_goWith_11 : decode cX9_goWith 11 = .ok (.istore_n 2, 1) := by decide +kernel
theorem dX9_goWith_12 : decode cX9_goWith 12 = .ok (.iload_n 2, 1) := by decide +kernel
theorem dX9_goWith_13 : decode cX9_goWith 13 = .ok (.aload_n 0, 1) := by decide +kernel
theorem dX9_goWith_14 : decode cX9_goWith 14 = .ok (.getfield 139, 3) := by decide +kernel
theorem dX9_goWith_17 : decode cX9_goWith 17 = .ok (.if_icmp .ge 58, 3) := by decide +kernel
theorem dX9_goWith_20 : decode cX9_goWith 20 = .ok (.aload_n 0, 1) := by decide +kernel
theorem dX9_goWith_21 : decode cX9_goWith 21 = .ok (.aload_n 0, 1) := by decide +kernel
theorem dX9_goWith_22 : decode cX9_goWith 22 = .ok (.getfield 22, 3) := by decide +kernel
theorem dX9_goWith_25 : decode cX9_goWith 25 = .ok (.iconst 3, 1) := by decide +kernel
theorem dX9_goWith_26 : decode cX9_goWith 26 = .ok (.iload_n 2, 1) := by decide +kernel
theorem dX9_goWith_27 : decode cX9_goWith 27 = .ok (.imul, 1) := by decide +kernel
theorem dX9_goWith_28 : decode cX9_goWith 28 = .ok (.iaload, 1) := by decide +kernel
theorem dX9_goWith_29 : decode cX9_goWith 29 = .ok (.aload_n 0, 1) := by decide +kernel
theorem dX9_goWith_30 : decode cX9_goWith 30 = .ok (.getfield 22, 3) := by decide +kernel
theorem dX9_goWith_33 : decode cX9_goWith 33 = .ok (.iconst 3, 1) := by decide +kernel
theorem dX9_goWith_34 : decode cX9_goWith 34 = .ok (.iload_n 2, 1) := by decide +kernel
theorem dX9_goWith_35 : decode cX9_goWith 35 = .ok (.imul, 1) := by decide +kernel
theorem dX9_goWith_36 : decode cX9_goWith 36 = .ok (.iconst 1, 1) := by decide +kernel
theorem dX9_goWith_37 : decode cX9_goWith 37 = .ok (.iadd, 1) := by decide +kernel
theorem dX9_goWith_38 : decode cX9_goWith 38 = .ok (.iaload, 1) := by decide +kernel
theorem dX9_goWith_39 : decode cX9_goWith 39 = .ok (.invokevirtual 122, 3) := by decide +kernel
theorem dX9_goWith_42 : decode cX9_goWith 42 = .ok (.pop, 1) := by decide +kernel
theorem dX9_goWith_43 : decode cX9_goWith 43 = .ok (.aload_n 0, 1) := by decide +kernel
theorem dX9_goWith_44 : decode cX9_goWith 44 = .ok (.getfield 22, 3) := by decide +kernel
theorem dX9_goWith_47 : decode cX9_goWith 47 = .ok (.iconst 3, 1) := by decide +kernel
theorem dX9_goWith_48 : decode cX9_goWith 48 = .ok (.iload_n 2, 1) := by decide +kernel
theorem dX9_goWith_49 : decode cX9_goWith 49 = .ok (.imul, 1) := by decide +kernel
theorem dX9_goWith_50 : decode cX9_goWith 50 = .ok (.iconst 2, 1) := by decide +kernel
theorem dX9_goWith_51 : decode cX9_goWith 51 = .ok (.iadd, 1) := by decide +kernel
theorem dX9_goWith_52 : decode cX9_goWith 52 = .ok (.iaload, 1) := by decide +kernel
theorem dX9_goWith_53 : decode cX9_goWith 53 = .ok (.iconst 1, 1) := by decide +kernel
theorem dX9_goWith_54 : decode cX9_goWith 54 = .ok (.if_icmp .ne 7, 3) := by decide +kernel
theorem dX9_goWith_57 : decode cX9_goWith 57 = .ok (.aload_n 0, 1) := by decide +kernel
theorem dX9_goWith_58 : decode cX9_goWith 58 = .ok (.invokevirtual 136, 3) := by decide +kernel
theorem dX9_goWith_61 : decode cX9_goWith 61 = .ok (.aload_n 0, 1) := by decide +kernel
theorem dX9_goWith_62 : decode cX9_goWith 62 = .ok (.iload_n 1, 1) := by decide +kernel
theorem dX9_goWith_63 : decode cX9_goWith 63 = .ok (.iload_n 2, 1) := by decide +kernel
theorem dX9_goWith_64 : decode cX9_goWith 64 = .ok (.iconst 1, 1) := by decide +kernel
theorem dX9_goWith_65 : decode cX9_goWith 65 = .ok (.iadd, 1) := by decide +kernel
theorem dX9_goWith_66 : decode cX9_goWith 66 = .ok (.invokevirtual 183, 3) := by decide +kernel
theorem dX9_goWith_69 : decode cX9_goWith 69 = .ok (.iinc 2 1, 3) := by decide +kernel
theorem dX9_goWith_72 : decode cX9_goWith 72 = .ok (.goto (-60), 3) := by decide +kernel
theorem dX9_goWith_75 : decode cX9_goWith 75 = .ok (.aload_n 0, 1) := by decide +kernel
theorem dX9_goWith_76 : decode cX9_goWith 76 = .ok (.getfield 25, 3) := by decide +kernel
theorem dX9_goWith_79 : decode cX9_goWith 79 = .ok (.iload_n 1, 1) := by decide +kernel
theorem dX9_goWith_80 : decode cX9_goWith 80 = .ok (.iaload, 1) := by decide +kernel
theorem dX9_goWith_81 : decode cX9_goWith 81 = .ok (.ireturn, 1) := by decide +kernel
theorem dX9_nextTimes_0 : decode cX9_nextTimes 0 = .ok (.aload_n 0, 1) := by decide +kernel
theorem dX9_nextTimes_1 : decode cX9_nextTimes 1 = .ok (.getfield 86, 3) := by decide +kernel
theorem dX9_nextTimes_4 : decode cX9_nextTimes 4 = .ok (.iconst 1, 1) := by decide +kernel
theorem dX9_nextTimes_5 : decode cX9_nextTimes 5 = .ok (.isub, 1) := by decide +kernel
theorem dX9_nextTimes_6 : decode cX9_nextTimes 6 = .ok (.istore_n 2, 1) := by decide +kernel
theorem dX9_nextTimes_7 : decode cX9_nextTimes 7 = .ok (.iload_n 2, 1) := by decide +kernel
theorem dX9_nextTimes_8 : decode cX9_nextTimes 8 = .ok (.ifCond .lt 66, 3) := by decide +kernel
theorem dX9_nextTimes_11 : decode cX9_nextTimes 11 = .ok (.iload_n 2, 1) := by decide +kernel
theorem dX9_nextTimes_12 : decode cX9_nextTimes 12 = .ok (.iload_n 1, 1) := by decide +kernel
theorem dX9_nextTimes_13 : decode cX9_nextTimes 13 = .ok (.if_icmp .eq 55, 3) := by decide +kernel
theorem dX9_nextTimes_16 : decode cX9_nextTimes 16 = .ok (.aload_n 0, 1) := by decide +kernel
theorem dX9_nextTimes_17 : decode cX9_nextTimes 17 = .ok (.getfield 37, 3) := by decide +kernel
theorem dX9_nextTimes_20 : decode cX9_nextTimes 20 = .ok (.iload_n 2, 1) := by decide +kernel
theorem dX9_nextTimes_21 : decode cX9_nextTimes 21 = .ok (.iaload, 1) := by decide +kernel
theorem dX9_nextTimes_22 : decode cX9_nextTimes 22 = .ok (.bipush 9, 2) := by decide +kernel
theorem dX9_nextTimes_24 : decode cX9_nextTimes 24 = .ok (.if_icmp .eq 37, 3) := by decide +kernel
theorem dX9_nextTimes_27 : decode cX9_nextTimes 27 = .ok (.aload_n 0, 1) := by decide +kernel
theorem dX9_nextTimes_28 : decode cX9_nextTimes 28 = .ok (.getfield 37, 3) := by decide +kernel
theorem dX9_nextTimes_31 : decode cX9_nextTimes 31 = .ok (.iload_n 2, 1) := by decide +kernel
theorem dX9_nextTimes_32 : decode cX9_nextTimes 32 = .ok (.aload_n 0, 1) := by decide +kernel
theorem dX9_nextTimes_33 : decode cX9_nextTimes 33 = .ok (.getfield 37, 3) := by decide +kernel
theorem dX9_nextTimes_36 : decode cX9_nextTimes 36 = .ok (.iload_n 2, 1) := by decide +kernel
theorem dX9_nextTimes_37 : decode cX9_nextTimes 37 = .ok (.iaload, 1) := by decide +kernel
theorem dX9_nextTimes_38 : decode cX9_nextTimes 38 = .ok (.aload_n 0, 1) := by decide +kernel
theorem dX9_nextTimes_39 : decode cX9_nextTimes 39 = .ok (.getfield 139, 3) := by decide +kernel
theorem dX9_nextTimes_42 : decode cX9_nextTimes 42 = .ok (.if_icmp .ne 8, 3) := by decide +kernel
theorem dX9_nextTimes_45 : decode cX9_nextTimes 45 = .ok (.bipush 9, 2) := by decide +kernel
theorem dX9_nextTimes_47 : decode cX9_nextTimes 47 = .ok (.goto 11, 3) := by decide +kernel
theorem dX9_nextTimes_50 : decode cX9_nextTimes 50 = .ok (.aload_n 0, 1) := by decide +kernel
theorem dX9_nextTimes_51 : decode cX9_nextTimes 51 = .ok (.getfield 37, 3) := by decide +kernel
theorem dX9_nextTimes_54 : decode cX9_nextTimes 54 = .ok (.iload_n 2, 1) := by decide +kernel
theorem dX9_nextTimes_55 : decode cX9_nextTimes 55 = .ok (.iaload, 1) := by decide +kernel
theorem dX9_nextTimes_56 : decode cX9_nextTimes 56 = .ok (.iconst 1, 1) := by decide +kernel
theorem dX9_nextTimes_57 : decode cX9_nextTimes 57 = .ok (.iadd, 1) := by decide +kernel
theorem dX9_nextTimes_58 : decode cX9_nextTimes 58 = .ok (.iastore, 1) := by decide +kernel
theorem dX9_nextTimes_59 : decode cX9_nextTimes 59 = .ok (.iconst 1, 1) := by decide +kernel
theorem dX9_nextTimes_60 : decode cX9_nextTimes 60 = .ok (.ireturn, 1) := by decide +kernel
theorem dX9_nextTimes_61 : decode cX9_nextTimes 61 = .ok (.aload_n 0, 1) := by decide +kernel
theorem dX9_nextTimes_62 : decode cX9_nextTimes 62 = .ok (.getfield 37, 3) := by decide +kernel
theorem dX9_nextTimes_65 : decode cX9_nextTimes 65 = .ok (.iload_n 2, 1) := by decide +kernel
theorem dX9_nextTimes_66 : decode cX9_nextTimes 66 = .ok (.iconst 0, 1) := by decide +kernel
theorem dX9_nextTimes_67 : decode cX9_nextTimes 67 = .ok (.iastore, 1) := by decide +kernel
theorem dX9_nextTimes_68 : decode cX9_nextTimes 68 = .ok (.iinc 2 (-1), 3) := by decide +kernel
theorem dX9_nextTimes_71 : decode cX9_nextTimes 71 = .ok (.goto (-64), 3) := by decide +kernel
theorem dX9_nextTimes_74 : decode cX9_nextTimes 74 = .ok (.iconst 0, 1) := by decide +kernel
theorem dX9_nextTimes_75 : decode cX9_nextTimes 75 = .ok (.ireturn, 1) := by decide +kernel
set_option maxRecDepth 20000 in
theorem ggX9_findTimes_X9_goWith : GoodIn wsX9_findTimes wsX9_goWith := goodIn_r _ [8, 9, 10, 11, 12, 13, 14, 7, 15, 16, 17, 18, 19, 20, 21, 22, 2, 1, 23, 24, 25, 26, 27, 28, 29, 30, 31, 32, 33, 34, 35, 36, 37, 38, 39, 44, 45, 46, 47, 48, 49, 50, 51, 52, 53, 54, 55, 56, 57, 58, 59, 60, 61, 62, 63, 64, 65, 66, 67, 68, 69, 70, 71, 72, 73, 74] rfl (by decide +kernel)
set_option maxRecDepth 20000 in
theorem gX9_findTimes_X9_goWith : GoodIn wsX9_findTimes (wsV RX9 186 RX9 yX9_goWith wsX9_goWith) := goodIn_app (goodIn_of _ (by decide +kernel)) ggX9_findTimes_X9_goWith
set_option maxRecDepth 20000 in
theorem ggX9_findTimes_X9_nextTimes : GoodIn wsX9_findTimes wsX9_nextTimes := goodIn_r _ [43, 2, 1, 9, 44, 45, 46, 47, 48, 49, 50, 51, 52, 53, 54, 55, 56, 57, 58, 59, 60, 61, 62, 63, 64, 65, 66, 67, 68, 69, 70, 71, 72, 73, 74] rfl (by decide +kernel)
set_option maxRecDepth 20000 in
theorem gX9_findTimes_X9_nextTimes : GoodIn wsX9_findTimes (wsV RX9 189 RX9 yX9_nextTimes wsX9_nextTimes) := goodIn_app (goodIn_of _ (by decide +kernel)) ggX9_findTimes_X9_nextTimes
theorem dX9_findTimes_0 : decode cX9_findTimes 0 = .ok (.iconst 0, 1) := by decide +kernel
theorem dX9_findTimes_1 : decode cX9_findTimes 1 = .ok (.istore_n 2, 1) := by decide +kernel
theorem dX9_findTimes_2 : decode cX9_findTimes 2 = .ok (.iload_n 2, 1) := by decide +kernel
theorem dX9_findTimes_3 : decode cX9_findTimes 3 = .ok (.iconst 5, 1) := by decide +kernel
theorem dX9_findTimes_4 : decode cX9_findTimes 4 = .ok (.if_icmp .ge 16, 3) := by decide +kernel
theorem dX9_findTimes_7 : decode cX9_findTimes 7 = .ok (.aload_n 0, 1) := by decide +kernel
theorem dX9_findTimes_8 : decode cX9_findTimes 8 = .ok (.getfield 37, 3) := by decide +kernel
theorem dX9_findTimes_11 : decode cX9_findTimes 11 = .ok (.iload_n 2, 1) := by decide +kernel
theorem dX9_findTimes_12 : decode cX9_findTimes 12 = .ok (.iconst 0, 1) := by decide +kernel
theorem dX9_findTimes_13 : decode cX9_findTimes 13 = .ok (.iastore, 1) := by decide +kernel
theorem dX9_findTimes_14 : decode cX9_findTimes 14 = .ok (.iinc 2 1, 3) := by decide +kernel
theorem dX9_findTimes_17 : decode cX9_findTimes 17 = .ok (.goto (-15), 3) := by decide +kernel
theorem dX9_findTimes_20 : decode cX9_findTimes 20 = .ok (.iconst (-1), 1) := by decide +kernel
theorem dX9_findTimes_21 : decode cX9_findTimes 21 = .ok (.istore_n 2, 1) := by decide +kernel
theorem dX9_findTimes_22 : decode cX9_findTimes 22 = .ok (.iconst 1, 1) := by decide +kernel
theorem dX9_findTimes_23 : decode cX9_findTimes 23 = .ok (.istore_n 3, 1) := by decide +kernel
theorem dX9_findTimes_24 : decode cX9_findTimes 24 = .ok (.iload_n 3, 1) := by decide +kernel
theorem dX9_findTimes_25 : decode cX9_findTimes 25 = .ok (.ifCond .eq 70, 3) := by decide +kernel
theorem dX9_findTimes_28 : decode cX9_findTimes 28 = .ok (.aload_n 0, 1) := by decide +kernel
theorem dX9_findTimes_29 : decode cX9_findTimes 29 = .ok (.iload_n 1, 1) := by decide +kernel
theorem dX9_findTimes_30 : decode cX9_findTimes 30 = .ok (.invokevirtual 186, 3) := by decide +kernel
theorem dX9_findTimes_33 : decode cX9_findTimes 33 = .ok (.istore 4, 2) := by decide +kernel
theorem dX9_findTimes_35 : decode cX9_findTimes 35 = .ok (.iconst 0, 1) := by decide +kernel
theorem dX9_findTimes_36 : decode cX9_findTimes 36 = .ok (.istore 5, 2) := by decide +kernel
theorem dX9_findTimes_38 : decode cX9_findTimes 38 = .ok (.iload 5, 2) := by decide +kernel
theorem dX9_findTimes_40 : decode cX9_findTimes 40 = .ok (.aload_n 0, 1) := by decide +kernel
theorem dX9_findTimes_41 : decode cX9_findTimes 41 = .ok (.getfield 86, 3) := by decide +kernel
theorem dX9_findTimes_44 : decode cX9_findTimes 44 = .ok (.if_icmp .ge 29, 3) := by decide +kernel
theorem dX9_findTimes_47 : decode cX9_findTimes 47 = .ok (.iload 4, 2) := by decide +kernel
theorem dX9_findTimes_49 : decode cX9_findTimes 49 = .ok (.iload_n 2, 1) := by decide +kernel
theorem dX9_findTimes_50 : decode cX9_findTimes 50 = .ok (.if_icmp .le 23, 3) := by decide +kernel
theorem dX9_findTimes_53 : decode cX9_findTimes 53 = .ok (.aload_n 0, 1) := by decide +kernel
theorem dX9_findTimes_54 : decode cX9_findTimes 54 = .ok (.getfield 40, 3) := by decide +kernel
theorem dX9_findTimes_57 : decode cX9_findTimes 57 = .ok (.iload 5, 2) := by decide +kernel
theorem dX9_findTimes_59 : decode cX9_findTimes 59 = .ok (.aload_n 0, 1) := by decide +kernel
theorem dX9_findTimes_60 : decode cX9_findTimes 60 = .ok (.getfield 37, 3) := by decide +kernel
theorem dX9_findTimes_63 : decode cX9_findTimes 63 = .ok (.iload 5, 2) := by decide +kernel
theorem dX9_findTimes_65 : decode cX9_findTimes 65 = .ok (.iaload, 1) := by decide +kernel
theorem dX9_findTimes_66 : decode cX9_findTimes 66 = .ok (.iastore, 1) := by decide +kernel
theorem dX9_findTimes_67 : decode cX9_findTimes 67 = .ok (.iinc 5 1, 3) := by decide +kernel
theorem dX9_findTimes_70 : decode cX9_findTimes 70 = .ok (.goto (-32), 3) := by decide +kernel
theorem dX9_findTimes_73 : decode cX9_findTimes 73 = .ok (.iload 4, 2) := by decide +kernel
theorem dX9_findTimes_75 : decode cX9_findTimes 75 = .ok (.iload_n 2, 1) := by decide +kernel
theorem dX9_findTimes_76 : decode cX9_findTimes 76 = .ok (.if_icmp .le 8, 3) := by decide +kernel
theorem dX9_findTimes_79 : decode cX9_findTimes 79 = .ok (.iload 4, 2) := by decide +kernel
theorem dX9_findTimes_81 : decode cX9_findTimes 81 = .ok (.goto 4, 3) := by decide +kernel
theorem dX9_findTimes_84 : decode cX9_findTimes 84 = .ok (.iload_n 2, 1) := by decide +kernel
theorem dX9_findTimes_85 : decode cX9_findTimes 85 = .ok (.istore_n 2, 1) := by decide +kernel
theorem dX9_findTimes_86 : decode cX9_findTimes 86 = .ok (.aload_n 0, 1) := by decide +kernel
theorem dX9_findTimes_87 : decode cX9_findTimes 87 = .ok (.iload_n 1, 1) := by decide +kernel
theorem dX9_findTimes_88 : decode cX9_findTimes 88 = .ok (.invokevirtual 189, 3) := by decide +kernel
theorem dX9_findTimes_91 : decode cX9_findTimes 91 = .ok (.istore_n 3, 1) := by decide +kernel
theorem dX9_findTimes_92 : decode cX9_findTimes 92 = .ok (.goto (-68), 3) := by decide +kernel
theorem dX9_findTimes_95 : decode cX9_findTimes 95 = .ok (.iload_n 2, 1) := by decide +kernel
theorem dX9_findTimes_96 : decode cX9_findTimes 96 = .ok (.ireturn, 1) := by decide +kernel
set_option maxRecDepth 20000 in
theorem ggX9_most_X9_isOne : GoodIn wsX9_most wsX9_isOne := goodIn_r _ [5, 6, 7, 8, 4, 9, 55, 56, 57, 58, 59, 60, 61, 62, 63, 64, 65, 66, 67, 68, 69, 70, 71, 72, 73, 74, 75, 76, 77, 78, 79, 80, 81, 82, 83, 84, 85] rfl (by decide +kernel)
set_option maxRecDepth 20000 in
theorem gX9_most_X9_isOne : GoodIn wsX9_most (wsV RX9 94 RX9 yX9_isOne wsX9_isOne) := goodIn_app (goodIn_of _ (by decide +kernel)) ggX9_most_X9_isOne
set_option maxRecDepth 20000 in
theorem ggX9_most_X9_findTimes : GoodIn wsX9_most wsX9_findTimes := goodIn_r _ [13, 14, 6, 15, 16, 17, 18, 4, 19, 20, 21, 22, 23, 24, 25, 26, 27, 28, 29, 30, 31, 32, 33, 34, 35, 36, 37, 38, 39, 40, 41, 42, 43, 44, 45, 46, 47, 48, 49, 50, 51, 52, 53, 54, 55, 56, 57, 58, 59, 60, 61, 62, 63, 64, 65, 66, 67, 68, 69, 70, 71, 72, 73, 74, 75, 76, 77, 78, 79, 80, 81, 82, 83, 84, 85] rfl (by decide +kernel)
set_option maxRecDepth 20000 in
theorem gX9_most_X9_findTimes : GoodIn wsX9_most (wsV RX9 192 RX9 yX9_findTimes wsX9_findTimes) := goodIn_app (goodIn_of _ (by decide +kernel)) ggX9_most_X9_findTimes
theorem dX9_most_0 : decode cX9_most 0 = .ok (.aload_n 0, 1) := by decide +kernel
theorem dX9_most_1 : decode cX9_most 1 = .ok (.iload_n 1, 1) := by decide +kernel
theorem dX9_most_2 : decode cX9_most 2 = .ok (.invokevirtual 94, 3) := by decide +kernel
theorem dX9_most_5 : decode cX9_most 5 = .ok (.ifCond .eq 11, 3) := by decide +kernel
theorem dX9_most_8 : decode cX9_most 8 = .ok (.aload_n 0, 1) := by decide +kernel
theorem dX9_most_9 : decode cX9_most 9 = .ok (.iload_n 1, 1) := by decide +kernel
theorem dX9_most_10 : decode cX9_most 10 = .ok (.invokevirtual 192, 3) := by decide +kernel
theorem dX9_most_13 : decode cX9_most 13 = .ok (.goto 4, 3) := by decide +kernel
theorem dX9_most_16 : decode cX9_most 16 = .ok (.iconst (-1), 1) := by decide +kernel
theorem dX9_most_17 : decode cX9_most 17 = .ok (.ireturn, 1) := by decide +kernel
set_option maxRecDepth 20000 in
theorem ggX9_when_X9_areTwo : GoodIn wsX9_when wsX9_areTwo := goodIn_r _ [6, 7, 8, 9, 5, 10, 11, 12, 13, 14, 59, 60, 61, 62, 63, 64, 65, 66, 67, 68, 69, 70, 71, 72, 73, 74, 75, 76, 77, 78, 79, 80, 81, 82, 83, 84, 85, 86, 87, 88, 89] rfl (by decide +kernel)
set_option maxRecDepth 20000 in
theorem gX9_when_X9_areTwo : GoodIn wsX9_when (wsV RX9 112 RX9 yX9_areTwo wsX9_areTwo) := goodIn_app (goodIn_of _ (by decide +kernel)) ggX9_when_X9_areTwo
set_option maxRecDepth 20000 in
theorem ggX9_when_X9_findTimes : GoodIn wsX9_when wsX9_findTimes := goodIn_r _ [18, 19, 11, 1, 20, 21, 22, 5, 23, 24, 25, 26, 27, 28, 29, 30, 31, 32, 33, 34, 35, 36, 37, 38, 39, 40, 41, 42, 43, 44, 45, 46, 47, 48, 49, 50, 51, 52, 53, 54, 55, 56, 57, 58, 59, 60, 61, 62, 63, 64, 65, 66, 67, 68, 69, 70, 71, 72, 73, 74, 75, 76, 77, 78, 79, 80, 81, 82, 83, 84, 85, 86, 87, 88, 89] rfl (by decide +kernel)
set_option maxRecDepth 20000 in
theorem gX9_when_X9_findTimes : GoodIn wsX9_when (wsV RX9 192 RX9 yX9_findTimes wsX9_findTimes) := goodIn_app (goodIn_of _ (by decide +kernel)) ggX9_when_X9_findTimes
theorem dX9_when_0 : decode cX9_when 0 = .ok (.aload_n 0, 1) := by decide +kernel
theorem dX9_when_1 : decode cX9_when 1 = .ok (.iload_n 1, 1) := by decide +kernel
theorem dX9_when_2 : decode cX9_when 2 = .ok (.iload_n 2, 1) := by decide +kernel
theorem dX9_when_3 : decode cX9_when 3 = .ok (.invokevirtual 112, 3) := by decide +kernel
theorem dX9_when_6 : decode cX9_when 6 = .ok (.ifCond .ne 5, 3) := by decide +kernel
theorem dX9_when_9 : decode cX9_when 9 = .ok (.iconst (-1), 1) := by decide +kernel
theorem dX9_when_10 : decode cX9_when 10 = .ok (.ireturn, 1) := by decide +kernel
theorem dX9_when_11 : decode cX9_when 11 = .ok (.aload_n 0, 1) := by decide +kernel
theorem dX9_when_12 : decode cX9_when 12 = .ok (.iload_n 1, 1) := by decide +kernel
theorem dX9_when_13 : decode cX9_when 13 = .ok (.invokevirtual 192, 3) := by decide +kernel
theorem dX9_when_16 : decode cX9_when 16 = .ok (.pop, 1) := by decide +kernel
theorem dX9_when_17 : decode cX9_when 17 = .ok (.aload_n 0, 1) := by decide +kernel
theorem dX9_when_18 : decode cX9_when 18 = .ok (.getfield 40, 3) := by decide +kernel
theorem dX9_when_21 : decode cX9_when 21 = .ok (.iload_n 2, 1) := by decide +kernel
theorem dX9_when_22 : decode cX9_when 22 = .ok (.iaload, 1) := by decide +kernel
theorem dX9_when_23 : decode cX9_when 23 = .ok (.ireturn, 1) := by decide +kernel
theorem dX9_giveBack_0 : decode cX9_giveBack 0 = .ok (.iload_n 1, 1) := by decide +kernel
theorem dX9_giveBack_1 : decode cX9_giveBack 1 = .ok (.iconst 1, 1) := by decide +kernel
theorem dX9_giveBack_2 : decode cX9_giveBack 2 = .ok (.isub, 1) := by decide +kernel
theorem dX9_giveBack_3 : decode cX9_giveBack 3 = .ok (.istore_n 2, 1) := by decide +kernel
theorem dX9_giveBack_4 : decode cX9_giveBack 4 = .ok (.aload_n 0, 1) := by decide +kernel
theorem dX9_giveBack_5 : decode cX9_giveBack 5 = .ok (.getfield 49, 3) := by decide +kernel
theorem dX9_giveBack_8 : decode cX9_giveBack 8 = .ok (.iconst 5, 1) := by decide +kernel
theorem dX9_giveBack_9 : decode cX9_giveBack 9 = .ok (.iload_n 2, 1) := by decide +kernel
theorem dX9_giveBack_10 : decode cX9_giveBack 10 = .ok (.imul, 1) := by decide +kernel
theorem dX9_giveBack_11 : decode cX9_giveBack 11 = .ok (.iaload, 1) := by decide +kernel
theorem dX9_giveBack_12 : decode cX9_giveBack 12 = .ok (.ifCond .lt 26, 3) := by decide +kernel
theorem dX9_giveBack_15 : decode cX9_giveBack 15 = .ok (.aload_n 0, 1) := by decide +kernel
theorem dX9_giveBack_16 : decode cX9_giveBack 16 = .ok (.getfield 49, 3) := by decide +kernel
theorem dX9_giveBack_19 : decode cX9_giveBack 19 = .ok (.iconst 5, 1) := by decide +kernel
theorem dX9_giveBack_20 : decode cX9_giveBack 20 = .ok (.iload_n 1, 1) := by decide +kernel
theorem dX9_giveBack_21 : decode cX9_giveBack 21 = .ok (.imul, 1) := by decide +kernel
theorem dX9_giveBack_22 : decode cX9_giveBack 22 = .ok (.iload_n 2, 1) := by decide +kernel
theorem dX9_giveBack_23 : decode cX9_giveBack 23 = .ok (.iadd, 1) := by decide +kernel
theorem dX9_giveBack_24 : decode cX9_giveBack 24 = .ok (.iaload, 1) := by decide +kernel
theorem dX9_giveBack_25 : decode cX9_giveBack 25 = .ok (.aload_n 0, 1) := by decide +kernel
theorem dX9_giveBack_26 : decode cX9_giveBack 26 = .ok (.getfield 49, 3) := by decide +kernel
theorem dX9_giveBack_29 : decode cX9_giveBack 29 = .ok (.iconst 5, 1) := by decide +kernel
theorem dX9_giveBack_30 : decode cX9_giveBack 30 = .ok (.iload_n 2, 1) := by decide +kernel
theorem dX9_giveBack_31 : decode cX9_giveBack 31 = .ok (.imul, 1) := by decide +kernel
theorem dX9_giveBack_32 : decode cX9_giveBack 32 = .ok (.iload_n 2, 1) := by decide +kernel
theorem dX9_giveBack_33 : decode cX9_giveBack 33 = .ok (.iadd, 1) := by decide +kernel
theorem dX9_giveBack_34 : decode cX9_giveBack 34 = .ok (.iaload, 1) := by decide +kernel
theorem dX9_giveBack_35 : decode cX9_giveBack 35 = .ok (.if_icmp .le 7, 3) := by decide +kernel
theorem dX9_giveBack_38 : decode cX9_giveBack 38 = .ok (.iconst 1, 1) := by decide +kernel
theorem dX9_giveBack_39 : decode cX9_giveBack 39 = .ok (.goto 4, 3) := by decide +kernel
theorem dX9_giveBack_42 : decode cX9_giveBack 42 = .ok (.iconst 0, 1) := by decide +kernel
theorem dX9_giveBack_43 : decode cX9_giveBack 43 = .ok (.istore_n 3, 1) := by decide +kernel
theorem dX9_giveBack_44 : decode cX9_giveBack 44 = .ok (.iconst 0, 1) := by decide +kernel
theorem dX9_giveBack_45 : decode cX9_giveBack 45 = .ok (.istore 4, 2) := by decide +kernel
theorem dX9_giveBack_47 : decode cX9_giveBack 47 = .ok (.iload 4, 2) := by decide +kernel
theorem dX9_giveBack_49 : decode cX9_giveBack 49 = .ok (.iconst 5, 1) := by decide +kernel
theorem dX9_giveBack_50 : decode cX9_giveBack 50 = .ok (.if_icmp .ge 57, 3) := by decide +kernel
theorem dX9_giveBack_53 : decode cX9_giveBack 53 = .ok (.iload_n 3, 1) := by decide +kernel
theorem dX9_giveBack_54 : decode cX9_giveBack 54 = .ok (.ifCond .eq 53, 3) := by decide +kernel
theorem dX9_giveBack_57 : decode cX9_giveBack 57 = .ok (.aload_n 0, 1) := by decide +kernel
theorem dX9_giveBack_58 : decode cX9_giveBack 58 = .ok (.getfield 49, 3) := by decide +kernel
theorem dX9_giveBack_61 : decode cX9_giveBack 61 = .ok (.iconst 5, 1) := by decide +kernel
theorem dX9_giveBack_62 : decode cX9_giveBack 62 = .ok (.iload_n 2, 1) := by decide +kernel
theorem dX9_giveBack_63 : decode cX9_giveBack 63 = .ok (.imul, 1) := by decide +kernel
theorem dX9_giveBack_64 : decode cX9_giveBack 64 = .ok (.iload 4, 2) := by decide +kernel
theorem dX9_giveBack_66 : decode cX9_giveBack 66 = .ok (.iadd, 1) := by decide +kernel
theorem dX9_giveBack_67 : decode cX9_giveBack 67 = .ok (.aload_n 0, 1) := by decide +kernel
theorem dX9_giveBack_68 : decode cX9_giveBack 68 = .ok (.getfield 49, 3) := by decide +kernel
theorem dX9_giveBack_71 : decode cX9_giveBack 71 = .ok (.iconst 5, 1) := by decide +kernel
theorem dX9_giveBack_72 : decode cX9_giveBack 72 = .ok (.iload_n 1, 1) := by decide +kernel
theorem dX9_giveBack_73 : decode cX9_giveBack 73 = .ok (.imul, 1) := by decide +kernel
theorem dX9_giveBack_74 : decode cX9_giveBack 74 = .ok (.iload 4, 2) := by decide +kernel
theorem dX9_giveBack_76 : decode cX9_giveBack 76 = .ok (.iadd, 1) := by decide +kernel
theorem dX9_giveBack_77 : decode cX9_giveBack 77 = .ok (.iaload, 1) := by decide +kernel
theorem dX9_giveBack_78 : decode cX9_giveBack 78 = .ok (.iastore, 1) := by decide +kernel
theorem dX9_giveBack_79 : decode cX9_giveBack 79 = .ok (.aload_n 0, 1) := by decide +kernel
theorem dX9_giveBack_80 : decode cX9_giveBack 80 = .ok (.getfield 52, 3) := by decide +kernel
theorem dX9_giveBack_83 : decode cX9_giveBack 83 = .ok (.iconst 5, 1) := by decide +kernel
theorem dX9_giveBack_84 : decode cX9_giveBack 84 = .ok (.iload_n 2, 1) := by decide +kernel
theorem dX9_giveBack_85 : decode cX9_giveBack 85 = .ok (.imul, 1) := by decide +kernel
theorem dX9_giveBack_86 : decode cX9_giveBack 86 = .ok (.iload 4, 2) := by decide +kernel
theorem dX9_giveBack_88 : decode cX9_giveBack 88 = .ok (.iadd, 1) := by decide +kernel
theorem dX9_giveBack_89 : decode cX9_giveBack 89 = .ok (.aload_n 0, 1) := by decide +kernel
theorem dX9_giveBack_90 : decode cX9_giveBack 90 = .ok (.getfield 52, 3) := by decide +kernel
theorem dX9_giveBack_93 : decode cX9_giveBack 93 = .ok (.iconst 5, 1) := by decide +kernel
theorem dX9_giveBack_94 : decode cX9_giveBack 94 = .ok (.iload_n 1, 1) := by decide +kernel
theorem dX9_giveBack_95 : decode cX9_giveBack 95 = .ok (.imul, 1) := by decide +kernel
theorem dX9_giveBack_96 : decode cX9_giveBack 96 = .ok (.iload 4, 2) := by decide +kernel
theorem dX9_giveBack_98 : decode cX9_giveBack 98 = .ok (.iadd, 1) := by decide +kernel
theorem dX9_giveBack_99 : decode cX9_giveBack 99 = .ok (.iaload, 1) := by decide +kernel
theorem dX9_giveBack_100 : decode cX9_giveBack 100 = .ok (.iastore, 1) := by decide +kernel
theorem dX9_giveBack_101 : decode cX9_giveBack 101 = .ok (.iinc 4 1, 3) := by decide +kernel
theorem dX9_giveBack_104 : decode cX9_giveBack 104 = .ok (.goto (-57), 3) := by decide +kernel
theorem dX9_giveBack_107 : decode cX9_giveBack 107 = .ok (.iload_n 3, 1) := by decide +kernel
theorem dX9_giveBack_108 : decode cX9_giveBack 108 = .ok (.ifCond .eq 19, 3) := by decide +kernel
theorem dX9_giveBack_111 : decode cX9_giveBack 111 = .ok (.aload_n 0, 1) := by decide +kernel
theorem dX9_giveBack_112 : decode cX9_giveBack 112 = .ok (.getfield 52, 3) := by decide +kernel
theorem dX9_giveBack_115 : decode cX9_giveBack 115 = .ok (.iconst 5, 1) := by decide +kernel
theorem dX9_giveBack_116 : decode cX9_giveBack 116 = .ok (.iload_n 2, 1) := by decide +kernel
theorem dX9_giveBack_117 : decode cX9_giveBack 117 = .ok (.imul, 1) := by decide +kernel
theorem dX9_giveBack_118 : decode cX9_giveBack 118 = .ok (.iload_n 2, 1) := by decide +kernel
theorem dX9_giveBack_119 : decode cX9_giveBack 119 = .ok (.iadd, 1) := by decide +kernel
theorem dX9_giveBack_120 : decode cX9_giveBack 120 = .ok (.aload_n 0, 1) := by decide +kernel
theorem dX9_giveBack_121 : decode cX9_giveBack 121 = .ok (.getfield 46, 3) := by decide +kernel
theorem dX9_giveBack_124 : decode cX9_giveBack 124 = .ok (.iload_n 2, 1) := by decide +kernel
theorem dX9_giveBack_125 : decode cX9_giveBack 125 = .ok (.iaload, 1) := by decide +kernel
theorem dX9_giveBack_126 : decode cX9_giveBack 126 = .ok (.iastore, 1) := by decide +kernel
theorem dX9_giveBack_127 : decode cX9_giveBack 127 = .ok (.return_, 1) := by decide +kernel
theorem dX9_beginTurn_0 : decode cX9_beginTurn 0 = .ok (.aload_n 0, 1) := by decide +kernel
theorem dX9_beginTurn_1 : decode cX9_beginTurn 1 = .ok (.getfield 46, 3) := by decide +kernel
theorem dX9_beginTurn_4 : decode cX9_beginTurn 4 = .ok (.iload_n 1, 1) := by decide +kernel
theorem dX9_beginTurn_5 : decode cX9_beginTurn 5 = .ok (.iconst (-1), 1) := by decide +kernel
theorem dX9_beginTurn_6 : decode cX9_beginTurn 6 = .ok (.iastore, 1) := by decide +kernel
theorem dX9_beginTurn_7 : decode cX9_beginTurn 7 = .ok (.iconst 0, 1) := by decide +kernel
theorem dX9_beginTurn_8 : decode cX9_beginTurn 8 = .ok (.istore_n 2, 1) := by decide +kernel
theorem dX9_beginTurn_9 : decode cX9_beginTurn 9 = .ok (.iload_n 2, 1) := by decide +kernel
theorem dX9_beginTurn_10 : decode cX9_beginTurn 10 = .ok (.iconst 5, 1) := by decide +kernel
theorem dX9_beginTurn_11 : decode cX9_beginTurn 11 = .ok (.if_icmp .ge 41, 3) := by decide +kernel
theorem dX9_beginTurn_14 : decode cX9_beginTurn 14 = .ok (.aload_n 0, 1) := by decide +kernel
theorem dX9_beginTurn_15 : decode cX9_beginTurn 15 = .ok (.getfield 49, 3) := by decide +kernel
theorem dX9_beginTurn_18 : decode cX9_beginTurn 18 = .ok (.iconst 5, 1) := by decide +kernel
theorem dX9_beginTurn_19 : decode cX9_beginTurn 19 = .ok (.iload_n 1, 1) := by decide +kernel
theorem dX9_beginTurn_20 : decode cX9_beginTurn 20 = .ok (.imul, 1) := by decide +kernel
theorem dX9_beginTurn_21 : decode cX9_beginTurn 21 = .ok (.iload_n 2, 1) := by decide +kernel
theorem dX9_beginTurn_22 : decode cX9_beginTurn 22 = .ok (.iadd, 1) := by decide +kernel
theorem dX9_beginTurn_23 : decode cX9_beginTurn 23 = .ok (.iload_n 1, 1) := by decide +kernel
theorem dX9_beginTurn_24 : decode cX9_beginTurn 24 = .ok (.aload_n 0, 1) := by decide +kernel
theorem dX9_beginTurn_25 : decode cX9_beginTurn 25 = .ok (.getfield 86, 3) := by decide +kernel
theorem dX9_beginTurn_28 : decode cX9_beginTurn 28 = .ok (.if_icmp .ne 16, 3) := by decide +kernel
theorem dX9_beginTurn_31 : decode cX9_beginTurn 31 = .ok (.aload_n 0, 1) := by decide +kernel
theorem dX9_beginTurn_32 : decode cX9_beginTurn 32 = .ok (.getfield 43, 3) := by decide +kernel
theorem dX9_beginTurn_35 : decode cX9_beginTurn 35 = .ok (.iconst 5, 1) := by decide +kernel
theorem dX9_beginTurn_36 : decode cX9_beginTurn 36 = .ok (.iload_n 1, 1) := by decide +kernel
theorem dX9_beginTurn_37 : decode cX9_beginTurn 37 = .ok (.imul, 1) := by decide +kernel
theorem dX9_beginTurn_38 : decode cX9_beginTurn 38 = .ok (.iload_n 2, 1) := by decide +kernel
theorem dX9_beginTurn_39 : decode cX9_beginTurn 39 = .ok (.iadd, 1) := by decide +kernel
theorem dX9_beginTurn_40 : decode cX9_beginTurn 40 = .ok (.iaload, 1) := by decide +kernel
theorem dX9_beginTurn_41 : decode cX9_beginTurn 41 = .ok (.goto 4, 3) := by decide +kernel
theorem dX9_beginTurn_44 : decode cX9_beginTurn 44 = .ok (.iconst (-1), 1) := by decide +kernel
theorem dX9_beginTurn_45 : decode cX9_beginTurn 45 = .ok (.iastore, 1) := by decide +kernel
theorem dX9_beginTurn_46 : decode cX9_beginTurn 46 = .ok (.iinc 2 1, 3) := by decide +kernel
theorem dX9_beginTurn_49 : decode cX9_beginTurn 49 = .ok (.goto (-40), 3) := by decide +kernel
theorem dX9_beginTurn_52 : decode cX9_beginTurn 52 = .ok (.return_, 1) := by decide +kernel
set_option maxRecDepth 20000 in
theorem ggX9_goTurn_X9_tryAsk : GoodIn wsX9_goTurn wsX9_tryAsk := goodIn_r _ [10, 11, 1, 3, 12, 13, 9, 14, 15, 16, 17, 18, 19, 20, 21, 22, 23, 24, 25, 26, 27, 28, 29, 30, 31, 32, 33, 34, 35, 36, 37, 38, 39, 40, 41, 42, 43, 44, 45, 46, 47, 48, 49, 50] rfl (by decide +kernel)
set_option maxRecDepth 20000 in
theorem gX9_goTurn_X9_tryAsk : GoodIn wsX9_goTurn (wsV RX9 122 RX9 yX9_tryAsk wsX9_tryAsk) := goodIn_app (goodIn_of _ (by decide +kernel)) ggX9_goTurn_X9_tryAsk
theorem dX9_goTurn_0 : decode cX9_goTurn 0 = .ok (.iconst 0, 1) := by decide +kernel
theorem dX9_goTurn_1 : decode cX9_goTurn 1 = .ok (.istore_n 2, 1) := by decide +kernel
theorem dX9_goTurn_2 : decode cX9_goTurn 2 = .ok (.iload_n 2, 1) := by decide +kernel
theorem dX9_goTurn_3 : decode cX9_goTurn 3 = .ok (.iconst 5, 1) := by decide +kernel
theorem dX9_goTurn_4 : decode cX9_goTurn 4 = .ok (.if_icmp .ge 37, 3) := by decide +kernel
theorem dX9_goTurn_7 : decode cX9_goTurn 7 = .ok (.aload_n 0, 1) := by decide +kernel
theorem dX9_goTurn_8 : decode cX9_goTurn 8 = .ok (.getfield 25, 3) := by decide +kernel
theorem dX9_goTurn_11 : decode cX9_goTurn 11 = .ok (.iload_n 2, 1) := by decide +kernel
theorem dX9_goTurn_12 : decode cX9_goTurn 12 = .ok (.aload_n 0, 1) := by decide +kernel
theorem dX9_goTurn_13 : decode cX9_goTurn 13 = .ok (.getfield 43, 3) := by decide +kernel
theorem dX9_goTurn_16 : decode cX9_goTurn 16 = .ok (.iconst 5, 1) := by decide +kernel
theorem dX9_goTurn_17 : decode cX9_goTurn 17 = .ok (.iload_n 1, 1) := by decide +kernel
theorem dX9_goTurn_18 : decode cX9_goTurn 18 = .ok (.imul, 1) := by decide +kernel
theorem dX9_goTurn_19 : decode cX9_goTurn 19 = .ok (.iload_n 2, 1) := by decide +kernel
theorem dX9_goTurn_20 : decode cX9_goTurn 20 = .ok (.iadd, 1) := by decide +kernel
theorem dX9_goTurn_21 : decode cX9_goTurn 21 = .ok (.iaload, 1) := by decide +kernel
theorem dX9_goTurn_22 : decode cX9_goTurn 22 = .ok (.iastore, 1) := by decide +kernel
theorem dX9_goTurn_23 : decode cX9_goTurn 23 = .ok (.aload_n 0, 1) := by decide +kernel
theorem dX9_goTurn_24 : decode cX9_goTurn 24 = .ok (.getfield 28, 3) := by decide +kernel
theorem dX9_goTurn_27 : decode cX9_goTurn 27 = .ok (.iload_n 2, 1) := by decide +kernel
theorem dX9_goTurn_28 : decode cX9_goTurn 28 = .ok (.aload_n 0, 1) := by decide +kernel
theorem dX9_goTurn_29 : decode cX9_goTurn 29 = .ok (.getfield 19, 3) := by decide +kernel
theorem dX9_goTurn_32 : decode cX9_goTurn 32 = .ok (.iload_n 2, 1) := by decide +kernel
theorem dX9_goTurn_33 : decode cX9_goTurn 33 = .ok (.iaload, 1) := by decide +kernel
theorem dX9_goTurn_34 : decode cX9_goTurn 34 = .ok (.iastore, 1) := by decide +kernel
theorem dX9_goTurn_35 : decode cX9_goTurn 35 = .ok (.iinc 2 1, 3) := by decide +kernel
theorem dX9_goTurn_38 : decode cX9_goTurn 38 = .ok (.goto (-36), 3) := by decide +kernel
theorem dX9_goTurn_41 : decode cX9_goTurn 41 = .ok (.aload_n 0, 1) := by decide +kernel
theorem dX9_goTurn_42 : decode cX9_goTurn 42 = .ok (.getfield 46, 3) := by decide +kernel
theorem dX9_goTurn_45 : decode cX9_goTurn 45 = .ok (.iload_n 1, 1) := by decide +kernel
theorem dX9_goTurn_46 : decode cX9_goTurn 46 = .ok (.iaload, 1) := by decide +kernel
theorem dX9_goTurn_47 : decode cX9_goTurn 47 = .ok (.ifCond .eq 31, 3) := by decide +kernel
theorem dX9_goTurn_50 : decode cX9_goTurn 50 = .ok (.aload_n 0, 1) := by decide +kernel
theorem dX9_goTurn_51 : decode cX9_goTurn 51 = .ok (.getfield 46, 3) := by decide +kernel
theorem dX9_goTurn_54 : decode cX9_goTurn 54 = .ok (.iload_n 1, 1) := by decide +kernel
theorem dX9_goTurn_55 : decode cX9_goTurn 55 = .ok (.iaload, 1) := by decide +kernel
theorem dX9_goTurn_56 : decode cX9_goTurn 56 = .ok (.iconst 1, 1) := by decide +kernel
theorem dX9_goTurn_57 : decode cX9_goTurn 57 = .ok (.isub, 1) := by decide +kernel
theorem dX9_goTurn_58 : decode cX9_goTurn 58 = .ok (.iload_n 1, 1) := by decide +kernel
theorem dX9_goTurn_59 : decode cX9_goTurn 59 = .ok (.if_icmp .eq 23, 3) := by decide +kernel
theorem dX9_goTurn_62 : decode cX9_goTurn 62 = .ok (.aload_n 0, 1) := by decide +kernel
theorem dX9_goTurn_63 : decode cX9_goTurn 63 = .ok (.iload_n 1, 1) := by decide +kernel
theorem dX9_goTurn_64 : decode cX9_goTurn 64 = .ok (.aload_n 0, 1) := by decide +kernel
theorem dX9_goTurn_65 : decode cX9_goTurn 65 = .ok (.getfield 46, 3) := by decide +kernel
theorem dX9_goTurn_68 : decode cX9_goTurn 68 = .ok (.iload_n 1, 1) := by decide +kernel
theorem dX9_goTurn_69 : decode cX9_goTurn 69 = .ok (.iaload, 1) := by decide +kernel
theorem dX9_goTurn_70 : decode cX9_goTurn 70 = .ok (.iconst 1, 1) := by decide +kernel
theorem dX9_goTurn_71 : decode cX9_goTurn 71 = .ok (.isub, 1) := by decide +kernel
theorem dX9_goTurn_72 : decode cX9_goTurn 72 = .ok (.invokevirtual 122, 3) := by decide +kernel
theorem dX9_goTurn_75 : decode cX9_goTurn 75 = .ok (.ifCond .lt 7, 3) := by decide +kernel
theorem dX9_goTurn_78 : decode cX9_goTurn 78 = .ok (.iconst 1, 1) := by decide +kernel
theorem dX9_goTurn_79 : decode cX9_goTurn 79 = .ok (.goto 4, 3) := by decide +kernel
theorem dX9_goTurn_82 : decode cX9_goTurn 82 = .ok (.iconst 0, 1) := by decide +kernel
theorem dX9_goTurn_83 : decode cX9_goTurn 83 = .ok (.istore_n 2, 1) := by decide +kernel
theorem dX9_goTurn_84 : decode cX9_goTurn 84 = .ok (.iconst 0, 1) := by decide +kernel
theorem dX9_goTurn_85 : decode cX9_goTurn 85 = .ok (.istore_n 3, 1) := by decide +kernel
theorem dX9_goTurn_86 : decode cX9_goTurn 86 = .ok (.iload_n 3, 1) := by decide +kernel
theorem dX9_goTurn_87 : decode cX9_goTurn 87 = .ok (.iconst 5, 1) := by decide +kernel
theorem dX9_goTurn_88 : decode cX9_goTurn 88 = .ok (.if_icmp .ge 27, 3) := by decide +kernel
theorem dX9_goTurn_91 : decode cX9_goTurn 91 = .ok (.aload_n 0, 1) := by decide +kernel
theorem dX9_goTurn_92 : decode cX9_goTurn 92 = .ok (.getfield 43, 3) := by decide +kernel
theorem dX9_goTurn_95 : decode cX9_goTurn 95 = .ok (.iconst 5, 1) := by decide +kernel
theorem dX9_goTurn_96 : decode cX9_goTurn 96 = .ok (.iload_n 1, 1) := by decide +kernel
theorem dX9_goTurn_97 : decode cX9_goTurn 97 = .ok (.iconst 1, 1) := by decide +kernel
theorem dX9_goTurn_98 : decode cX9_goTurn 98 = .ok (.iadd, 1) := by decide +kernel
theorem dX9_goTurn_99 : decode cX9_goTurn 99 = .ok (.imul, 1) := by decide +kernel
theorem dX9_goTurn_100 : decode cX9_goTurn 100 = .ok (.iload_n 3, 1) := by decide +kernel
theorem dX9_goTurn_101 : decode cX9_goTurn 101 = .ok (.iadd, 1) := by decide +kernel
theorem dX9_goTurn_102 : decode cX9_goTurn 102 = .ok (.aload_n 0, 1) := by decide +kernel
theorem dX9_goTurn_103 : decode cX9_goTurn 103 = .ok (.getfield 25, 3) := by decide +kernel
theorem dX9_goTurn_106 : decode cX9_goTurn 106 = .ok (.iload_n 3, 1) := by decide +kernel
theorem dX9_goTurn_107 : decode cX9_goTurn 107 = .ok (.iaload, 1) := by decide +kernel
theorem dX9_goTurn_108 : decode cX9_goTurn 108 = .ok (.iastore, 1) := by decide +kernel
theorem dX9_goTurn_109 : decode cX9_goTurn 109 = .ok (.iinc 3 1, 3) := by decide +kernel
theorem dX9_goTurn_112 : decode cX9_goTurn 112 = .ok (.goto (-26), 3) := by decide +kernel
theorem dX9_goTurn_115 : decode cX9_goTurn 115 = .ok (.iload_n 2, 1) := by decide +kernel
theorem dX9_goTurn_116 : decode cX9_goTurn 116 = .ok (.ireturn, 1) := by decide +kernel
set_option maxRecDepth 20000 in
theorem ggX9_findTurns_X9_beginTurn : GoodIn wsX9_findTurns wsX9_beginTurn := goodIn_r _ [9, 4, 10, 3, 1, 36, 37, 38, 39, 40, 41, 42, 43, 44, 45, 46, 47, 48, 49, 50, 51, 52, 53, 54, 55, 56, 57, 58, 59, 60, 61, 62, 63, 64, 65, 66] rfl (by decide +kernel)
set_option maxRecDepth 20000 in
theorem gX9_findTurns_X9_beginTurn : GoodIn wsX9_findTurns (wsV RX9 195 RX9 yX9_beginTurn wsX9_beginTurn) := goodIn_app (goodIn_of _ (by decide +kernel)) ggX9_findTurns_X9_beginTurn
set_option maxRecDepth 20000 in
theorem ggX9_findTurns_X9_giveBack : GoodIn wsX9_findTurns wsX9_giveBack := goodIn_r _ [14, 10, 15, 4, 36, 37, 38, 39, 40, 41, 42, 43, 44, 45, 46, 47, 48, 49, 50, 51, 52, 53, 54, 55, 56, 57, 58, 59, 60, 61, 62, 63, 64, 65, 66] rfl (by decide +kernel)
set_option maxRecDepth 20000 in
theorem gX9_findTurns_X9_giveBack : GoodIn wsX9_findTurns (wsV RX9 199 RX9 yX9_giveBack wsX9_giveBack) := goodIn_app (goodIn_of _ (by decide +kernel)) ggX9_findTurns_X9_giveBack
set_option maxRecDepth 20000 in
theorem ggX9_findTurns_X9_goTurn : GoodIn wsX9_findTurns wsX9_goTurn := goodIn_r _ [19, 20, 1, 21, 22, 4, 23, 24, 25, 8, 26, 27, 28, 29, 30, 31, 32, 33, 34, 35, 36, 37, 38, 39, 40, 41, 42, 43, 44, 45, 46, 47, 48, 49, 50, 51, 52, 53, 54, 55, 56, 57, 58, 59, 60, 61, 62, 63, 64, 65, 66] rfl (by decide +kernel)
set_option maxRecDepth 20000 in
theorem gX9_findTurns_X9_goTurn : GoodIn wsX9_findTurns (wsV RX9 202 RX9 yX9_goTurn wsX9_goTurn) := goodIn_app (goodIn_of _ (by decide +kernel)) ggX9_findTurns_X9_goTurn
theorem dX9_findTurns_0 : decode cX9_findTurns 0 = .ok (.iconst 0, 1) := by decide +kernel
theorem dX9_findTurns_1 : decode cX9_findTurns 1 = .ok (.istore_n 1, 1) := by decide +kernel
theorem dX9_findTurns_2 : decode cX9_findTurns 2 = .ok (.iload_n 1, 1) := by decide +kernel
theorem dX9_findTurns_3 : decode cX9_findTurns 3 = .ok (.iconst 5, 1) := by decide +kernel
theorem dX9_findTurns_4 : decode cX9_findTurns 4 = .ok (.if_icmp .ge 21, 3) := by decide +kernel
theorem dX9_findTurns_7 : decode cX9_findTurns 7 = .ok (.aload_n 0, 1) := by decide +kernel
theorem dX9_findTurns_8 : decode cX9_findTurns 8 = .ok (.getfield 43, 3) := by decide +kernel
theorem dX9_findTurns_11 : decode cX9_findTurns 11 = .ok (.iload_n 1, 1) := by decide +kernel
theorem dX9_findTurns_12 : decode cX9_findTurns 12 = .ok (.aload_n 0, 1) := by decide +kernel
theorem dX9_findTurns_13 : decode cX9_findTurns 13 = .ok (.getfield 13, 3) := by decide +kernel
theorem dX9_findTurns_16 : decode cX9_findTurns 16 = .ok (.iload_n 1, 1) := by decide +kernel
theorem dX9_findTurns_17 : decode cX9_findTurns 17 = .ok (.iaload, 1) := by decide +kernel
theorem dX9_findTurns_18 : decode cX9_findTurns 18 = .ok (.iastore, 1) := by decide +kernel
theorem dX9_findTurns_19 : decode cX9_findTurns 19 = .ok (.iinc 1 1, 3) := by decide +kernel
theorem dX9_findTurns_22 : decode cX9_findTurns 22 = .ok (.goto (-20), 3) := by decide +kernel
theorem dX9_findTurns_25 : decode cX9_findTurns 25 = .ok (.iconst 0, 1) := by decide +kernel
theorem dX9_findTurns_26 : decode cX9_findTurns 26 = .ok (.istore_n 1, 1) := by decide +kernel
theorem dX9_findTurns_27 : decode cX9_findTurns 27 = .ok (.aload_n 0, 1) := by decide +kernel
theorem dX9_findTurns_28 : decode cX9_findTurns 28 = .ok (.iconst 0, 1) := by decide +kernel
theorem dX9_findTurns_29 : decode cX9_findTurns 29 = .ok (.invokevirtual 195, 3) := by decide +kernel
theorem dX9_findTurns_32 : decode cX9_findTurns 32 = .ok (.iload_n 1, 1) := by decide +kernel
theorem dX9_findTurns_33 : decode cX9_findTurns 33 = .ok (.ifCond .lt 68, 3) := by decide +kernel
theorem dX9_findTurns_36 : decode cX9_findTurns 36 = .ok (.iload_n 1, 1) := by decide +kernel
theorem dX9_findTurns_37 : decode cX9_findTurns 37 = .ok (.aload_n 0, 1) := by decide +kernel
theorem dX9_findTurns_38 : decode cX9_findTurns 38 = .ok (.getfield 86, 3) := by decide +kernel
theorem dX9_findTurns_41 : decode cX9_findTurns 41 = .ok (.if_icmp .eq 16, 3) := by decide +kernel
theorem dX9_findTurns_44 : decode cX9_findTurns 44 = .ok (.aload_n 0, 1) := by decide +kernel
theorem dX9_findTurns_45 : decode cX9_findTurns 45 = .ok (.getfield 46, 3) := by decide +kernel
theorem dX9_findTurns_48 : decode cX9_findTurns 48 = .ok (.iload_n 1, 1) := by decide +kernel
theorem dX9_findTurns_49 : decode cX9_findTurns 49 = .ok (.iaload, 1) := by decide +kernel
theorem dX9_findTurns_50 : decode cX9_findTurns 50 = .ok (.aload_n 0, 1) := by decide +kernel
theorem dX9_findTurns_51 : decode cX9_findTurns 51 = .ok (.getfield 86, 3) := by decide +kernel
theorem dX9_findTurns_54 : decode cX9_findTurns 54 = .ok (.if_icmp .ne 18, 3) := by decide +kernel
theorem dX9_findTurns_57 : decode cX9_findTurns 57 = .ok (.iload_n 1, 1) := by decide +kernel
theorem dX9_findTurns_58 : decode cX9_findTurns 58 = .ok (.ifCond .le 8, 3) := by decide +kernel
theorem dX9_findTurns_61 : decode cX9_findTurns 61 = .ok (.aload_n 0, 1) := by decide +kernel
theorem dX9_findTurns_62 : decode cX9_findTurns 62 = .ok (.iload_n 1, 1) := by decide +kernel
theorem dX9_findTurns_63 : decode cX9_findTurns 63 = .ok (.invokevirtual 199, 3) := by decide +kernel
theorem dX9_findTurns_66 : decode cX9_findTurns 66 = .ok (.iinc 1 (-1), 3) := by decide +kernel
theorem dX9_findTurns_69 : decode cX9_findTurns 69 = .ok (.goto (-37), 3) := by decide +kernel
theorem dX9_findTurns_72 : decode cX9_findTurns 72 = .ok (.aload_n 0, 1) := by decide +kernel
theorem dX9_findTurns_73 : decode cX9_findTurns 73 = .ok (.getfield 46, 3) := by decide +kernel
theorem dX9_findTurns_76 : decode cX9_findTurns 76 = .ok (.iload_n 1, 1) := by decide +kernel
theorem dX9_findTurns_77 : decode cX9_findTurns 77 = .ok (.dup2, 1) := by decide +kernel
theorem dX9_findTurns_78 : decode cX9_findTurns 78 = .ok (.iaload, 1) := by decide +kernel
theorem dX9_findTurns_79 : decode cX9_findTurns 79 = .ok (.iconst 1, 1) := by decide +kernel
theorem dX9_findTurns_80 : decode cX9_findTurns 80 = .ok (.iadd, 1) := by decide +kernel
theorem dX9_findTurns_81 : decode cX9_findTurns 81 = .ok (.iastore, 1) := by decide +kernel
theorem dX9_findTurns_82 : decode cX9_findTurns 82 = .ok (.aload_n 0, 1) := by decide +kernel
theorem dX9_findTurns_83 : decode cX9_findTurns 83 = .ok (.iload_n 1, 1) := by decide +kernel
theorem dX9_findTurns_84 : decode cX9_findTurns 84 = .ok (.invokevirtual 202, 3) := by decide +kernel
theorem dX9_findTurns_87 : decode cX9_findTurns 87 = .ok (.ifCond .eq (-55), 3) := by decide +kernel
theorem dX9_findTurns_90 : decode cX9_findTurns 90 = .ok (.iinc 1 1, 3) := by decide +kernel
theorem dX9_findTurns_93 : decode cX9_findTurns 93 = .ok (.aload_n 0, 1) := by decide +kernel
theorem dX9_findTurns_94 : decode cX9_findTurns 94 = .ok (.iload_n 1, 1) := by decide +kernel
theorem dX9_findTurns_95 : decode cX9_findTurns 95 = .ok (.invokevirtual 195, 3) := by decide +kernel
theorem dX9_findTurns_98 : decode cX9_findTurns 98 = .ok (.goto (-66), 3) := by decide +kernel
theorem dX9_findTurns_101 : decode cX9_findTurns 101 = .ok (.return_, 1) := by decide +kernel
set_option maxRecDepth 20000 in
theorem ggX9_turns_X9_isOne : GoodIn wsX9_turns wsX9_isOne := goodIn_r _ [6, 7, 8, 9, 5, 10, 47, 48, 49, 50, 51, 52, 53, 54, 55, 56, 57, 58, 59, 60, 61, 62, 63, 64, 65, 66, 67, 68, 69, 70, 71, 72, 73, 74, 75, 76, 77] rfl (by decide +kernel)
set_option maxRecDepth 20000 in
theorem gX9_turns_X9_isOne : GoodIn wsX9_turns (wsV RX9 94 RX9 yX9_isOne wsX9_isOne) := goodIn_app (goodIn_of _ (by decide +kernel)) ggX9_turns_X9_isOne
set_option maxRecDepth 20000 in
theorem ggX9_turns_X9_findTurns : GoodIn wsX9_turns wsX9_findTurns := goodIn_r _ [14, 15, 16, 7, 17, 18, 19, 20, 5, 21, 22, 23, 24, 25, 26, 1, 27, 28, 29, 30, 31, 32, 33, 34, 35, 36, 37, 38, 39, 40, 41, 42, 43, 44, 45, 46, 47, 48, 49, 50, 51, 52, 53, 54, 55, 56, 57, 58, 59, 60, 61, 62, 63, 64, 65, 66, 67, 68, 69, 70, 71, 72, 73, 74, 75, 76, 77] rfl (by decide +kernel)
set_option maxRecDepth 20000 in
theorem gX9_turns_X9_findTurns : GoodIn wsX9_turns (wsV RX9 205 RX9 yX9_findTurns wsX9_findTurns) := goodIn_app (goodIn_of _ (by decide +kernel)) ggX9_turns_X9_findTurns
theorem dX9_turns_0 : decode cX9_turns 0 = .ok (.aload_n 0, 1) := by decide +kernel
theorem dX9_turns_1 : decode cX9_turns 1 = .ok (.iload_n 1, 1) := by decide +kernel
theorem dX9_turns_2 : decode cX9_turns 2 = .ok (.invokevirtual 94, 3) := by decide +kernel
theorem dX9_turns_5 : decode cX9_turns 5 = .ok (.ifCond .ne 5, 3) := by decide +kernel
theorem dX9_turns_8 : decode cX9_turns 8 = .ok (.iconst (-1), 1) := by decide +kernel
theorem dX9_turns_9 : decode cX9_turns 9 = .ok (.ireturn, 1) := by decide +kernel
theorem dX9_turns_10 : decode cX9_turns 10 = .ok (.aload_n 0, 1) := by decide +kernel
theorem dX9_turns_11 : decode cX9_turns 11 = .ok (.invokevirtual 205, 3) := by decide +kernel
theorem dX9_turns_14 : decode cX9_turns 14 = .ok (.aload_n 0, 1) := by decide +kernel
theorem dX9_turns_15 : decode cX9_turns 15 = .ok (.getfield 52, 3) := by decide +kernel
theorem dX9_turns_18 : decode cX9_turns 18 = .ok (.iload_n 1, 1) := by decide +kernel
theorem dX9_turns_19 : decode cX9_turns 19 = .ok (.iaload, 1) := by decide +kernel
theorem dX9_turns_20 : decode cX9_turns 20 = .ok (.ifCond .ne 8, 3) := by decide +kernel
theorem dX9_turns_23 : decode cX9_turns 23 = .ok (.bipush 9, 2) := by decide +kernel
theorem dX9_turns_25 : decode cX9_turns 25 = .ok (.goto 11, 3) := by decide +kernel
theorem dX9_turns_28 : decode cX9_turns 28 = .ok (.aload_n 0, 1) := by decide +kernel
theorem dX9_turns_29 : decode cX9_turns 29 = .ok (.getfield 52, 3) := by decide +kernel
theorem dX9_turns_32 : decode cX9_turns 32 = .ok (.iload_n 1, 1) := by decide +kernel
theorem dX9_turns_33 : decode cX9_turns 33 = .ok (.iaload, 1) := by decide +kernel
theorem dX9_turns_34 : decode cX9_turns 34 = .ok (.iconst 1, 1) := by decide +kernel
theorem dX9_turns_35 : decode cX9_turns 35 = .ok (.isub, 1) := by decide +kernel
theorem dX9_turns_36 : decode cX9_turns 36 = .ok (.ireturn, 1) := by decide +kernel
set_option maxRecDepth 20000 in
theorem ggX9_ends_X9_isOne : GoodIn wsX9_ends wsX9_isOne := goodIn_r _ [6, 7, 8, 9, 5, 10, 47, 48, 49, 50, 51, 52, 53, 54, 55, 56, 57, 58, 59, 60, 61, 62, 63, 64, 65, 66, 67, 68, 69, 70, 71, 72, 73, 74, 75, 76, 77] rfl (by decide +kernel)
set_option maxRecDepth 20000 in
theorem gX9_ends_X9_isOne : GoodIn wsX9_ends (wsV RX9 94 RX9 yX9_isOne wsX9_isOne) := goodIn_app (goodIn_of _ (by decide +kernel)) ggX9_ends_X9_isOne
set_option maxRecDepth 20000 in
theorem ggX9_ends_X9_findTurns : GoodIn wsX9_ends wsX9_findTurns := goodIn_r _ [14, 15, 16, 7, 17, 18, 19, 20, 5, 21, 1, 22, 23, 24, 25, 26, 27, 28, 29, 30, 31, 32, 33, 34, 35, 36, 37, 38, 39, 40, 41, 42, 43, 44, 45, 46, 47, 48, 49, 50, 51, 52, 53, 54, 55, 56, 57, 58, 59, 60, 61, 62, 63, 64, 65, 66, 67, 68, 69, 70, 71, 72, 73, 74, 75, 76, 77] rfl (by decide +kernel)
set_option maxRecDepth 20000 in
theorem gX9_ends_X9_findTurns : GoodIn wsX9_ends (wsV RX9 205 RX9 yX9_findTurns wsX9_findTurns) := goodIn_app (goodIn_of _ (by decide +kernel)) ggX9_ends_X9_findTurns
theorem dX9_ends_0 : decode cX9_ends 0 = .ok (.aload_n 0, 1) := by decide +kernel
theorem dX9_ends_1 : decode cX9_ends 1 = .ok (.iload_n 1, 1) := by decide +kernel
theorem dX9_ends_2 : decode cX9_ends 2 = .ok (.invokevirtual 94, 3) := by decide +kernel
theorem dX9_ends_5 : decode cX9_ends 5 = .ok (.ifCond .ne 5, 3) := by decide +kernel
theorem dX9_ends_8 : decode cX9_ends 8 = .ok (.iconst (-1), 1) := by decide +kernel
theorem dX9_ends_9 : decode cX9_ends 9 = .ok (.ireturn, 1) := by decide +kernel
theorem dX9_ends_10 : decode cX9_ends 10 = .ok (.aload_n 0, 1) := by decide +kernel
theorem dX9_ends_11 : decode cX9_ends 11 = .ok (.invokevirtual 205, 3) := by decide +kernel
theorem dX9_ends_14 : decode cX9_ends 14 = .ok (.aload_n 0, 1) := by decide +kernel
theorem dX9_ends_15 : decode cX9_ends 15 = .ok (.getfield 49, 3) := by decide +kernel
theorem dX9_ends_18 : decode cX9_ends 18 = .ok (.iload_n 1, 1) := by decide +kernel
theorem dX9_ends_19 : decode cX9_ends 19 = .ok (.iaload, 1) := by decide +kernel
theorem dX9_ends_20 : decode cX9_ends 20 = .ok (.ireturn, 1) := by decide +kernel
theorem dX9_firstOrder_0 : decode cX9_firstOrder 0 = .ok (.iconst 0, 1) := by decide +kernel
theorem dX9_firstOrder_1 : decode cX9_firstOrder 1 = .ok (.istore_n 1, 1) := by decide +kernel
theorem dX9_firstOrder_2 : decode cX9_firstOrder 2 = .ok (.iload_n 1, 1) := by decide +kernel
theorem dX9_firstOrder_3 : decode cX9_firstOrder 3 = .ok (.bipush 8, 2) := by decide +kernel
theorem dX9_firstOrder_5 : decode cX9_firstOrder 5 = .ok (.if_icmp .ge 16, 3) := by decide +kernel
theorem dX9_firstOrder_8 : decode cX9_firstOrder 8 = .ok (.aload_n 0, 1) := by decide +kernel
theorem dX9_firstOrder_9 : decode cX9_firstOrder 9 = .ok (.getfield 55, 3) := by decide +kernel
theorem dX9_firstOrder_12 : decode cX9_firstOrder 12 = .ok (.iload_n 1, 1) := by decide +kernel
theorem dX9_firstOrder_13 : decode cX9_firstOrder 13 = .ok (.iload_n 1, 1) := by decide +kernel
theorem dX9_firstOrder_14 : decode cX9_firstOrder 14 = .ok (.iastore, 1) := by decide +kernel
theorem dX9_firstOrder_15 : decode cX9_firstOrder 15 = .ok (.iinc 1 1, 3) := by decide +kernel
theorem dX9_firstOrder_18 : decode cX9_firstOrder 18 = .ok (.goto (-16), 3) := by decide +kernel
theorem dX9_firstOrder_21 : decode cX9_firstOrder 21 = .ok (.return_, 1) := by decide +kernel
theorem dX9_nextOrder_0 : decode cX9_nextOrder 0 = .ok (.aload_n 0, 1) := by decide +kernel
theorem dX9_nextOrder_1 : decode cX9_nextOrder 1 = .ok (.getfield 139, 3) := by decide +kernel
theorem dX9_nextOrder_4 : decode cX9_nextOrder 4 = .ok (.iconst 2, 1) := by decide +kernel
theorem dX9_nextOrder_5 : decode cX9_nextOrder 5 = .ok (.isub, 1) := by decide +kernel
theorem dX9_nextOrder_6 : decode cX9_nextOrder 6 = .ok (.istore_n 1, 1) := by decide +kernel
theorem dX9_nextOrder_7 : decode cX9_nextOrder 7 = .ok (.iload_n 1, 1) := by decide +kernel
theorem dX9_nextOrder_8 : decode cX9_nextOrder 8 = .ok (.ifCond .lt 26, 3) := by decide +kernel
theorem dX9_nextOrder_11 : decode cX9_nextOrder 11 = .ok (.aload_n 0, 1) := by decide +kernel
theorem dX9_nextOrder_12 : decode cX9_nextOrder 12 = .ok (.getfield 55, 3) := by decide +kernel
theorem dX9_nextOrder_15 : decode cX9_nextOrder 15 = .ok (.iload_n 1, 1) := by decide +kernel
theorem dX9_nextOrder_16 : decode cX9_nextOrder 16 = .ok (.iaload, 1) := by decide +kernel
theorem dX9_nextOrder_17 : decode cX9_nextOrder 17 = .ok (.aload_n 0, 1) := by decide +kernel
theorem dX9_nextOrder_18 : decode cX9_nextOrder 18 = .ok (.getfield 55, 3) := by decide +kernel
theorem dX9_nextOrder_21 : decode cX9_nextOrder 21 = .ok (.iload_n 1, 1) := by decide +kernel
theorem dX9_nextOrder_22 : decode cX9_nextOrder 22 = .ok (.iconst 1, 1) := by decide +kernel
theorem dX9_nextOrder_23 : decode cX9_nextOrder 23 = .ok (.iadd, 1) := by decide +kernel
theorem dX9_nextOrder_24 : decode cX9_nextOrder 24 = .ok (.iaload, 1) := by decide +kernel
theorem dX9_nextOrder_25 : decode cX9_nextOrder 25 = .ok (.if_icmp .le 9, 3) := by decide +kernel
theorem dX9_nextOrder_28 : decode cX9_nextOrder 28 = .ok (.iinc 1 (-1), 3) := by decide +kernel
theorem dX9_nextOrder_31 : decode cX9_nextOrder 31 = .ok (.goto (-24), 3) := by decide +kernel
theorem dX9_nextOrder_34 : decode cX9_nextOrder 34 = .ok (.iload_n 1, 1) := by decide +kernel
theorem dX9_nextOrder_35 : decode cX9_nextOrder 35 = .ok (.ifCond .ge 5, 3) := by decide +kernel
theorem dX9_nextOrder_38 : decode cX9_nextOrder 38 = .ok (.iconst 0, 1) := by decide +kernel
theorem dX9_nextOrder_39 : decode cX9_nextOrder 39 = .ok (.ireturn, 1) := by decide +kernel
theorem dX9_nextOrder_40 : decode cX9_nextOrder 40 = .ok (.aload_n 0, 1) := by decide +kernel
theorem dX9_nextOrder_41 : decode cX9_nextOrder 41 = .ok (.getfield 139, 3) := by decide +kernel
theorem dX9_nextOrder_44 : decode cX9_nextOrder 44 = .ok (.iconst 1, 1) := by decide +kernel
theorem dX9_nextOrder_45 : decode cX9_nextOrder 45 = .ok (.isub, 1) := by decide +kernel
theorem dX9_nextOrder_46 : decode cX9_nextOrder 46 = .ok (.istore_n 2, 1) := by decide +kernel
theorem dX9_nextOrder_47 : decode cX9_nextOrder 47 = .ok (.aload_n 0, 1) := by decide +kernel
theorem dX9_nextOrder_48 : decode cX9_nextOrder 48 = .ok (.getfield 55, 3) := by decide +kernel
theorem dX9_nextOrder_51 : decode cX9_nextOrder 51 = .ok (.iload_n 2, 1) := by decide +kernel
theorem dX9_nextOrder_52 : decode cX9_nextOrder 52 = .ok (.iaload, 1) := by decide +kernel
theorem dX9_nextOrder_53 : decode cX9_nextOrder 53 = .ok (.aload_n 0, 1) := by decide +kernel
theorem dX9_nextOrder_54 : decode cX9_nextOrder 54 = .ok (.getfield 55, 3) := by decide +kernel
theorem dX9_nextOrder_57 : decode cX9_nextOrder 57 = .ok (.iload_n 1, 1) := by decide +kernel
theorem dX9_nextOrder_58 : decode cX9_nextOrder 58 = .ok (.iaload, 1) := by decide +kernel
theorem dX9_nextOrder_59 : decode cX9_nextOrder 59 = .ok (.if_icmp .ge 9, 3) := by decide +kernel
theorem dX9_nextOrder_62 : decode cX9_nextOrder 62 = .ok (.iinc 2 (-1), 3) := by decide +kernel
theorem dX9_nextOrder_65 : decode cX9_nextOrder 65 = .ok (.goto (-18), 3) := by decide +kernel
theorem dX9_nextOrder_68 : decode cX9_nextOrder 68 = .ok (.aload_n 0, 1) := by decide +kernel
theorem dX9_nextOrder_69 : decode cX9_nextOrder 69 = .ok (.getfield 55, 3) := by decide +kernel
theorem dX9_nextOrder_72 : decode cX9_nextOrder 72 = .ok (.iload_n 1, 1) := by decide +kernel
theorem dX9_nextOrder_73 : decode cX9_nextOrder 73 = .ok (.iaload, 1) := by decide +kernel
theorem dX9_nextOrder_74 : decode cX9_nextOrder 74 = .ok (.istore_n 3, 1) := by decide +kernel
theorem dX9_nextOrder_75 : decode cX9_nextOrder 75 = .ok (.aload_n 0, 1) := by decide +kernel
theorem dX9_nextOrder_76 : decode cX9_nextOrder 76 = .ok (.getfield 55, 3) := by decide +kernel
theorem dX9_nextOrder_79 : decode cX9_nextOrder 79 = .ok (.iload_n 1, 1) := by decide +kernel
theorem dX9_nextOrder_80 : decode cX9_nextOrder 80 = .ok (.aload_n 0, 1) := by decide +kernel
theorem dX9_nextOrder_81 : decode cX9_nextOrder 81 = .ok (.getfield 55, 3) := by decide +kernel
theorem dX9_nextOrder_84 : decode cX9_nextOrder 84 = .ok (.iload_n 2, 1) := by decide +kernel
theorem dX9_nextOrder_85 : decode cX9_nextOrder 85 = .ok (.iaload, 1) := by decide +kernel
theorem dX9_nextOrder_86 : decode cX9_nextOrder 86 = .ok (.iastore, 1) := by decide +kernel
theorem dX9_nextOrder_87 : decode cX9_nextOrder 87 = .ok (.aload_n 0, 1) := by decide +kernel
theorem dX9_nextOrder_88 : decode cX9_nextOrder 88 = .ok (.getfield 55, 3) := by decide +kernel
theorem dX9_nextOrder_91 : decode cX9_nextOrder 91 = .ok (.iload_n 2, 1) := by decide +kernel
theorem dX9_nextOrder_92 : decode cX9_nextOrder 92 = .ok (.iload_n 3, 1) := by decide +kernel
theorem dX9_nextOrder_93 : decode cX9_nextOrder 93 = .ok (.iastore, 1) := by decide +kernel
theorem dX9_nextOrder_94 : decode cX9_nextOrder 94 = .ok (.aload_n 0, 1) := by decide +kernel
theorem dX9_nextOrder_95 : decode cX9_nextOrder 95 = .ok (.getfield 139, 3) := by decide +kernel
theorem dX9_nextOrder_98 : decode cX9_nextOrder 98 = .ok (.iconst 1, 1) := by decide +kernel
theorem dX9_nextOrder_99 : decode cX9_nextOrder 99 = .ok (.isub, 1) := by decide +kernel
theorem dX9_nextOrder_100 : decode cX9_nextOrder 100 = .ok (.istore 4, 2) := by decide +kernel
theorem dX9_nextOrder_102 : decode cX9_nextOrder 102 = .ok (.iload_n 1, 1) := by decide +kernel
theorem dX9_nextOrder_103 : decode cX9_nextOrder 103 = .ok (.iconst 1, 1) := by decide +kernel
theorem dX9_nextOrder_104 : decode cX9_nextOrder 104 = .ok (.iadd, 1) := by decide +kernel
theorem dX9_nextOrder_105 : decode cX9_nextOrder 105 = .ok (.istore 5, 2) := by decide +kernel
theorem dX9_nextOrder_107 : decode cX9_nextOrder 107 = .ok (.iload 5, 2) := by decide +kernel
theorem dX9_nextOrder_109 : decode cX9_nextOrder 109 = .ok (.iload 4, 2) := by decide +kernel
theorem dX9_nextOrder_111 : decode cX9_nextOrder 111 = .ok (.if_icmp .ge 42, 3) := by decide +kernel
theorem dX9_nextOrder_114 : decode cX9_nextOrder 114 = .ok (.aload_n 0, 1) := by decide +kernel
theorem dX9_nextOrder_115 : decode cX9_nextOrder 115 = .ok (.getfield 55, 3) := by decide +kernel
theorem dX9_nextOrder_118 : decode cX9_nextOrder 118 = .ok (.iload 5, 2) := by decide +kernel
theorem dX9_nextOrder_120 : decode cX9_nextOrder 120 = .ok (.iaload, 1) := by decide +kernel
theorem dX9_nextOrder_121 : decode cX9_nextOrder 121 = .ok (.istore_n 3, 1) := by decide +kernel
theorem dX9_nextOrder_122 : decode cX9_nextOrder 122 = .ok (.aload_n 0, 1) := by decide +kernel
theorem dX9_nextOrder_123 : decode cX9_nextOrder 123 = .ok (.getfield 55, 3) := by decide +kernel
theorem dX9_nextOrder_126 : decode cX9_nextOrder 126 = .ok (.iload 5, 2) := by decide +kernel
theorem dX9_nextOrder_128 : decode cX9_nextOrder 128 = .ok (.aload_n 0, 1) := by decide +kernel
theorem dX9_nextOrder_129 : decode cX9_nextOrder 129 = .ok (.getfield 55, 3) := by decide +kernel
theorem dX9_nextOrder_132 : decode cX9_nextOrder 132 = .ok (.iload 4, 2) := by decide +kernel
theorem dX9_nextOrder_134 : decode cX9_nextOrder 134 = .ok (.iaload, 1) := by decide +kernel
theorem dX9_nextOrder_135 : decode cX9_nextOrder 135 = .ok (.iastore, 1) := by decide +kernel
theorem dX9_nextOrder_136 : decode cX9_nextOrder 136 = .ok (.aload_n 0, 1) := by decide +kernel
theorem dX9_nextOrder_137 : decode cX9_nextOrder 137 = .ok (.getfield 55, 3) := by decide +kernel
theorem dX9_nextOrder_140 : decode cX9_nextOrder 140 = .ok (.iload 4, 2) := by decide +kernel
theorem dX9_nextOrder_142 : decode cX9_nextOrder 142 = .ok (.iload_n 3, 1) := by decide +kernel
theorem dX9_nextOrder_143 : decode cX9_nextOrder 143 = .ok (.iastore, 1) := by decide +kernel
theorem dX9_nextOrder_144 : decode cX9_nextOrder 144 = .ok (.iinc 4 (-1), 3) := by decide +kernel
theorem dX9_nextOrder_147 : decode cX9_nextOrder 147 = .ok (.iinc 5 1, 3) := by decide +kernel
theorem dX9_nextOrder_150 : decode cX9_nextOrder 150 = .ok (.goto (-43), 3) := by decide +kernel
theorem dX9_nextOrder_153 : decode cX9_nextOrder 153 = .ok (.iconst 1, 1) := by decide +kernel
theorem dX9_nextOrder_154 : decode cX9_nextOrder 154 = .ok (.ireturn, 1) := by decide +kernel
set_option maxRecDepth 20000 in
theorem ggX9_goOrder_X9_begin : GoodIn wsX9_goOrder wsX9_begin := goodIn_r _ [8, 9, 10, 11, 12, 26, 27, 28, 29, 30, 31, 32, 33, 34, 35, 36, 37, 38, 39, 40, 41, 42, 43, 44, 45, 46, 47, 48, 49, 50, 51, 52, 53, 54, 55, 56] rfl (by decide +kernel)
set_option maxRecDepth 20000 in
theorem gX9_goOrder_X9_begin : GoodIn wsX9_goOrder (wsV RX9 119 RX9 yX9_begin wsX9_begin) := goodIn_app (goodIn_of _ (by decide +kernel)) ggX9_goOrder_X9_begin
set_option maxRecDepth 20000 in
theorem ggX9_goOrder_X9_tryAsk : GoodIn wsX9_goOrder wsX9_tryAsk := goodIn_r _ [16, 17, 9, 11, 18, 19, 7, 20, 21, 22, 23, 24, 25, 26, 27, 28, 29, 30, 31, 32, 33, 34, 35, 36, 37, 38, 39, 40, 41, 42, 43, 44, 45, 46, 47, 48, 49, 50, 51, 52, 53, 54, 55, 56] rfl (by decide +kernel)
set_option maxRecDepth 20000 in
theorem gX9_goOrder_X9_tryAsk : GoodIn wsX9_goOrder (wsV RX9 122 RX9 yX9_tryAsk wsX9_tryAsk) := goodIn_app (goodIn_of _ (by decide +kernel)) ggX9_goOrder_X9_tryAsk
theorem dX9_goOrder_0 : decode cX9_goOrder 0 = .ok (.aload_n 0, 1) := by decide +kernel
theorem dX9_goOrder_1 : decode cX9_goOrder 1 = .ok (.invokevirtual 119, 3) := by decide +kernel
theorem dX9_goOrder_4 : decode cX9_goOrder 4 = .ok (.iconst 0, 1) := by decide +kernel
theorem dX9_goOrder_5 : decode cX9_goOrder 5 = .ok (.istore_n 1, 1) := by decide +kernel
theorem dX9_goOrder_6 : decode cX9_goOrder 6 = .ok (.iload_n 1, 1) := by decide +kernel
theorem dX9_goOrder_7 : decode cX9_goOrder 7 = .ok (.aload_n 0, 1) := by decide +kernel
theorem dX9_goOrder_8 : decode cX9_goOrder 8 = .ok (.getfield 139, 3) := by decide +kernel
theorem dX9_goOrder_11 : decode cX9_goOrder 11 = .ok (.if_icmp .ge 42, 3) := by decide +kernel
theorem dX9_goOrder_14 : decode cX9_goOrder 14 = .ok (.aload_n 0, 1) := by decide +kernel
theorem dX9_goOrder_15 : decode cX9_goOrder 15 = .ok (.aload_n 0, 1) := by decide +kernel
theorem dX9_goOrder_16 : decode cX9_goOrder 16 = .ok (.getfield 22, 3) := by decide +kernel
theorem dX9_goOrder_19 : decode cX9_goOrder 19 = .ok (.iconst 3, 1) := by decide +kernel
theorem dX9_goOrder_20 : decode cX9_goOrder 20 = .ok (.aload_n 0, 1) := by decide +kernel
theorem dX9_goOrder_21 : decode cX9_goOrder 21 = .ok (.getfield 55, 3) := by decide +kernel
theorem dX9_goOrder_24 : decode cX9_goOrder 24 = .ok (.iload_n 1, 1) := by decide +kernel
theorem dX9_goOrder_25 : decode cX9_goOrder 25 = .ok (.iaload, 1) := by decide +kernel
theorem dX9_goOrder_26 : decode cX9_goOrder 26 = .ok (.imul, 1) := by decide +kernel
theorem dX9_goOrder_27 : decode cX9_goOrder 27 = .ok (.iaload, 1) := by decide +kernel
theorem dX9_goOrder_28 : decode cX9_goOrder 28 = .ok (.aload_n 0, 1) := by decide +kernel
theorem dX9_goOrder_29 : decode cX9_goOrder 29 = .ok (.getfield 22, 3) := by decide +kernel
theorem dX9_goOrder_32 : decode cX9_goOrder 32 = .ok (.iconst 3, 1) := by decide +kernel
theorem dX9_goOrder_33 : decode cX9_goOrder 33 = .ok (.aload_n 0, 1) := by decide +kernel
theorem dX9_goOrder_34 : decode cX9_goOrder 34 = .ok (.getfield 55, 3) := by decide +kernel
theorem dX9_goOrder_37 : decode cX9_goOrder 37 = .ok (.iload_n 1, 1) := by decide +kernel
theorem dX9_goOrder_38 : decode cX9_goOrder 38 = .ok (.iaload, 1) := by decide +kernel
theorem dX9_goOrder_39 : decode cX9_goOrder 39 = .ok (.imul, 1) := by decide +kernel
theorem dX9_goOrder_40 : decode cX9_goOrder 40 = .ok (.iconst 1, 1) := by decide +kernel
theorem dX9_goOrder_41 : decode cX9_goOrder 41 = .ok (.iadd, 1) := by decide +kernel
theorem dX9_goOrder_42 : decode cX9_goOrder 42 = .ok (.iaload, 1) := by decide +kernel
theorem dX9_goOrder_43 : decode cX9_goOrder 43 = .ok (.invokevirtual 122, 3) := by decide +kernel
theorem dX9_goOrder_46 : decode cX9_goOrder 46 = .ok (.pop, 1) := by decide +kernel
theorem dX9_goOrder_47 : decode cX9_goOrder 47 = .ok (.iinc 1 1, 3) := by decide +kernel
theorem dX9_goOrder_50 : decode cX9_goOrder 50 = .ok (.goto (-44), 3) := by decide +kernel
theorem dX9_goOrder_53 : decode cX9_goOrder 53 = .ok (.return_, 1) := by decide +kernel
theorem dX9_apart_0 : decode cX9_apart 0 = .ok (.aload_n 0, 1) := by decide +kernel
theorem dX9_apart_1 : decode cX9_apart 1 = .ok (.getfield 25, 3) := by decide +kernel
theorem dX9_apart_4 : decode cX9_apart 4 = .ok (.iconst 0, 1) := by decide +kernel
theorem dX9_apart_5 : decode cX9_apart 5 = .ok (.iaload, 1) := by decide +kernel
theorem dX9_apart_6 : decode cX9_apart 6 = .ok (.istore_n 1, 1) := by decide +kernel
theorem dX9_apart_7 : decode cX9_apart 7 = .ok (.aload_n 0, 1) := by decide +kernel
theorem dX9_apart_8 : decode cX9_apart 8 = .ok (.getfield 25, 3) := by decide +kernel
theorem dX9_apart_11 : decode cX9_apart 11 = .ok (.iconst 0, 1) := by decide +kernel
theorem dX9_apart_12 : decode cX9_apart 12 = .ok (.iaload, 1) := by decide +kernel
theorem dX9_apart_13 : decode cX9_apart 13 = .ok (.istore_n 2, 1) := by decide +kernel
theorem dX9_apart_14 : decode cX9_apart 14 = .ok (.iconst 1, 1) := by decide +kernel
theorem dX9_apart_15 : decode cX9_apart 15 = .ok (.istore_n 3, 1) := by decide +kernel
theorem dX9_apart_16 : decode cX9_apart 16 = .ok (.iload_n 3, 1) := by decide +kernel
theorem dX9_apart_17 : decode cX9_apart 17 = .ok (.aload_n 0, 1) := by decide +kernel
theorem dX9_apart_18 : decode cX9_apart 18 = .ok (.getfield 86, 3) := by decide +kernel
theorem dX9_apart_21 : decode cX9_apart 21 = .ok (.if_icmp .ge 51, 3) := by decide +kernel
theorem dX9_apart_24 : decode cX9_apart 24 = .ok (.aload_n 0, 1) := by decide +kernel
theorem dX9_apart_25 : decode cX9_apart 25 = .ok (.getfield 25, 3) := by decide +kernel
theorem dX9_apart_28 : decode cX9_apart 28 = .ok (.iload_n 3, 1) := by decide +kernel
theorem dX9_apart_29 : decode cX9_apart 29 = .ok (.iaload, 1) := by decide +kernel
theorem dX9_apart_30 : decode cX9_apart 30 = .ok (.iload_n 1, 1) := by decide +kernel
theorem dX9_apart_31 : decode cX9_apart 31 = .ok (.if_icmp .le 12, 3) := by decide +kernel
theorem dX9_apart_34 : decode cX9_apart 34 = .ok (.aload_n 0, 1) := by decide +kernel
theorem dX9_apart_35 : decode cX9_apart 35 = .ok (.getfield 25, 3) := by decide +kernel
theorem dX9_apart_38 : decode cX9_apart 38 = .ok (.iload_n 3, 1) := by decide +kernel
theorem dX9_apart_39 : decode cX9_apart 39 = .ok (.iaload, 1) := by decide +kernel
theorem dX9_apart_40 : decode cX9_apart 40 = .ok (.goto 4, 3) := by decide +kernel
theorem dX9_apart_43 : decode cX9_apart 43 = .ok (.iload_n 1, 1) := by decide +kernel
theorem dX9_apart_44 : decode cX9_apart 44 = .ok (.istore_n 1, 1) := by decide +kernel
theorem dX9_apart_45 : decode cX9_apart 45 = .ok (.aload_n 0, 1) := by decide +kernel
theorem dX9_apart_46 : decode cX9_apart 46 = .ok (.getfield 25, 3) := by decide +kernel
theorem dX9_apart_49 : decode cX9_apart 49 = .ok (.iload_n 3, 1) := by decide +kernel
theorem dX9_apart_50 : decode cX9_apart 50 = .ok (.iaload, 1) := by decide +kernel
theorem dX9_apart_51 : decode cX9_apart 51 = .ok (.iload_n 2, 1) := by decide +kernel
theorem dX9_apart_52 : decode cX9_apart 52 = .ok (.if_icmp .ge 12, 3) := by decide +kernel
theorem dX9_apart_55 : decode cX9_apart 55 = .ok (.aload_n 0, 1) := by decide +kernel
theorem dX9_apart_56 : decode cX9_apart 56 = .ok (.getfield 25, 3) := by decide +kernel
theorem dX9_apart_59 : decode cX9_apart 59 = .ok (.iload_n 3, 1) := by decide +kernel
theorem dX9_apart_60 : decode cX9_apart 60 = .ok (.iaload, 1) := by decide +kernel
theorem dX9_apart_61 : decode cX9_apart 61 = .ok (.goto 4, 3) := by decide +kernel
theorem dX9_apart_64 : decode cX9_apart 64 = .ok (.iload_n 2, 1) := by decide +kernel
theorem dX9_apart_65 : decode cX9_apart 65 = .ok (.istore_n 2, 1) := by decide +kernel
theorem dX9_apart_66 : decode cX9_apart 66 = .ok (.iinc 3 1, 3) := by decide +kernel
theorem dX9_apart_69 : decode cX9_apart 69 = .ok (.goto (-53), 3) := by decide +kernel
theorem dX9_apart_72 : decode cX9_apart 72 = .ok (.iload_n 1, 1) := by decide +kernel
theorem dX9_apart_73 : decode cX9_apart 73 = .ok (.iload_n 2, 1) := by decide +kernel
theorem dX9_apart_74 : decode cX9_apart 74 = .ok (.isub, 1) := by decide +kernel
theorem dX9_apart_75 : decode cX9_apart 75 = .ok (.ireturn, 1) := by decide +kernel
set_option maxRecDepth 20000 in
theorem ggX9_order_X9_in : GoodIn wsX9_order wsX9_in := goodIn_r _ [11] rfl (by decide +kernel)
set_option maxRecDepth 20000 in
theorem gX9_order_X9_in : GoodIn wsX9_order (va_wsS RX9 90 yX9_in wsX9_in) := goodIn_app (goodIn_of _ (by decide +kernel)) ggX9_order_X9_in
set_option maxRecDepth 20000 in
theorem ggX9_order_X9_firstOrder : GoodIn wsX9_order wsX9_firstOrder := goodIn_r _ [15, 7, 50, 51, 52, 53, 54, 55, 56, 57, 58, 59, 60, 61, 62, 63, 64, 65, 66, 67, 68, 69, 70, 71, 72, 73, 74, 75, 76, 77, 78, 79, 80] rfl (by decide +kernel)
set_option maxRecDepth 20000 in
theorem gX9_order_X9_firstOrder : GoodIn wsX9_order (wsV RX9 212 RX9 yX9_firstOrder wsX9_firstOrder) := goodIn_app (goodIn_of _ (by decide +kernel)) ggX9_order_X9_firstOrder
set_option maxRecDepth 20000 in
theorem ggX9_order_X9_goOrder : GoodIn wsX9_order wsX9_goOrder := goodIn_r _ [19, 3, 20, 7, 21, 22, 23, 10, 24, 25, 26, 27, 28, 29, 30, 31, 32, 33, 34, 35, 36, 37, 38, 39, 40, 41, 50, 51, 52, 53, 54, 55, 56, 57, 58, 59, 60, 61, 62, 63, 64, 65, 66, 67, 68, 69, 70, 71, 72, 73, 74, 75, 76, 77, 78, 79, 80] rfl (by decide +kernel)
set_option maxRecDepth 20000 in
theorem gX9_order_X9_goOrder : GoodIn wsX9_order (wsV RX9 216 RX9 yX9_goOrder wsX9_goOrder) := goodIn_app (goodIn_of _ (by decide +kernel)) ggX9_order_X9_goOrder
set_option maxRecDepth 20000 in
theorem ggX9_order_X9_apart : GoodIn wsX9_order wsX9_apart := goodIn_r _ [45, 25, 4, 50, 51, 52, 53, 54, 55, 56, 57, 58, 59, 60, 61, 62, 63, 64, 65, 66, 67, 68, 69, 70, 71, 72, 73, 74, 75, 76, 77, 78, 79, 80] rfl (by decide +kernel)
set_option maxRecDepth 20000 in
theorem gX9_order_X9_apart : GoodIn wsX9_order (wsV RX9 219 RX9 yX9_apart wsX9_apart) := goodIn_app (goodIn_of _ (by decide +kernel)) ggX9_order_X9_apart
set_option maxRecDepth 20000 in
theorem ggX9_order_X9_nextOrder : GoodIn wsX9_order wsX9_nextOrder := goodIn_r _ [49, 3, 7, 50, 51, 52, 53, 54, 55, 56, 57, 58, 59, 60, 61, 62, 63, 64, 65, 66, 67, 68, 69, 70, 71, 72, 73, 74, 75, 76, 77, 78, 79, 80] rfl (by decide +kernel)
set_option maxRecDepth 20000 in
theorem gX9_order_X9_nextOrder : GoodIn wsX9_order (wsV RX9 222 RX9 yX9_nextOrder wsX9_nextOrder) := goodIn_app (goodIn_of _ (by decide +kernel)) ggX9_order_X9_nextOrder
theorem dX9_order_0 : decode cX9_order 0 = .ok (.iload_n 1, 1) := by decide +kernel
theorem dX9_order_1 : decode cX9_order 1 = .ok (.i2l, 1) := by decide +kernel
theorem dX9_order_2 : decode cX9_order 2 = .ok (.ldc2_w 208, 3) := by decide +kernel
theorem dX9_order_5 : decode cX9_order 5 = .ok (.ldc2_w 210, 3) := by decide +kernel
theorem dX9_order_8 : decode cX9_order 8 = .ok (.invokestatic 90, 3) := by decide +kernel
theorem dX9_order_11 : decode cX9_order 11 = .ok (.ifCond .ne 5, 3) := by decide +kernel
theorem dX9_order_14 : decode cX9_order 14 = .ok (.iconst (-1), 1) := by decide +kernel
theorem dX9_order_15 : decode cX9_order 15 = .ok (.ireturn, 1) := by decide +kernel
theorem dX9_order_16 : decode cX9_order 16 = .ok (.aload_n 0, 1) := by decide +kernel
theorem dX9_order_17 : decode cX9_order 17 = .ok (.getfield 139, 3) := by decide +kernel
theorem dX9_order_20 : decode cX9_order 20 = .ok (.bipush 6, 2) := by decide +kernel
theorem dX9_order_22 : decode cX9_order 22 = .ok (.if_icmp .le 6, 3) := by decide +kernel
theorem dX9_order_25 : decode cX9_order 25 = .ok (.bipush (-3), 2) := by decide +kernel
theorem dX9_order_27 : decode cX9_order 27 = .ok (.ireturn, 1) := by decide +kernel
theorem dX9_order_28 : decode cX9_order 28 = .ok (.aload_n 0, 1) := by decide +kernel
theorem dX9_order_29 : decode cX9_order 29 = .ok (.getfield 86, 3) := by decide +kernel
theorem dX9_order_32 : decode cX9_order 32 = .ok (.ifCond .eq 11, 3) := by decide +kernel
theorem dX9_order_35 : decode cX9_order 35 = .ok (.iload_n 1, 1) := by decide +kernel
theorem dX9_order_36 : decode cX9_order 36 = .ok (.aload_n 0, 1) := by decide +kernel
theorem dX9_order_37 : decode cX9_order 37 = .ok (.getfield 139, 3) := by decide +kernel
theorem dX9_order_40 : decode cX9_order 40 = .ok (.if_icmp .lt 6, 3) := by decide +kernel
theorem dX9_order_43 : decode cX9_order 43 = .ok (.bipush (-4), 2) := by decide +kernel
theorem dX9_order_45 : decode cX9_order 45 = .ok (.ireturn, 1) := by decide +kernel
theorem dX9_order_46 : decode cX9_order 46 = .ok (.aload_n 0, 1) := by decide +kernel
theorem dX9_order_47 : decode cX9_order 47 = .ok (.invokevirtual 212, 3) := by decide +kernel
theorem dX9_order_50 : decode cX9_order 50 = .ok (.ldc 215, 2) := by decide +kernel

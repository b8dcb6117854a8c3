theorem dX8_told_66 : decode cX8_told 66 = .ok (.iaload, 1) := by decide +kernel
theorem dX8_told_67 : decode cX8_told 67 = .ok (.ireturn, 1) := by decide +kernel
theorem dX8_told_68 : decode cX8_told 68 = .ok (.aload_n 0, 1) := by decide +kernel
theorem dX8_told_69 : decode cX8_told 69 = .ok (.getfield 10, 3) := by decide +kernel
theorem dX8_told_72 : decode cX8_told 72 = .ok (.iload_n 1, 1) := by decide +kernel
theorem dX8_told_73 : decode cX8_told 73 = .ok (.invokevirtual 118, 3) := by decide +kernel
theorem dX8_told_76 : decode cX8_told 76 = .ok (.ireturn, 1) := by decide +kernel
theorem dX8_told_77 : decode cX8_told 77 = .ok (.aload_n 0, 1) := by decide +kernel
theorem dX8_told_78 : decode cX8_told 78 = .ok (.getfield 10, 3) := by decide +kernel
theorem dX8_told_81 : decode cX8_told 81 = .ok (.aload_n 0, 1) := by decide +kernel
theorem dX8_told_82 : decode cX8_told 82 = .ok (.getfield 10, 3) := by decide +kernel
theorem dX8_told_85 : decode cX8_told 85 = .ok (.getfield 122, 3) := by decide +kernel
theorem dX8_told_88 : decode cX8_told 88 = .ok (.iload_n 1, 1) := by decide +kernel
theorem dX8_told_89 : decode cX8_told 89 = .ok (.invokevirtual 125, 3) := by decide +kernel
theorem dX8_told_92 : decode cX8_told 92 = .ok (.ireturn, 1) := by decide +kernel
theorem dX8_told_93 : decode cX8_told 93 = .ok (.aload_n 0, 1) := by decide +kernel
theorem dX8_told_94 : decode cX8_told 94 = .ok (.getfield 10, 3) := by decide +kernel
theorem dX8_told_97 : decode cX8_told 97 = .ok (.aload_n 0, 1) := by decide +kernel
theorem dX8_told_98 : decode cX8_told 98 = .ok (.getfield 10, 3) := by decide +kernel
theorem dX8_told_101 : decode cX8_told 101 = .ok (.getfield 129, 3) := by decide +kernel
theorem dX8_told_104 : decode cX8_told 104 = .ok (.iload_n 1, 1) := by decide +kernel
theorem dX8_told_105 : decode cX8_told 105 = .ok (.invokevirtual 125, 3) := by decide +kernel
theorem dX8_told_108 : decode cX8_told 108 = .ok (.ireturn, 1) := by decide +kernel
theorem dX8_told_109 : decode cX8_told 109 = .ok (.iconst (-1), 1) := by decide +kernel
theorem dX8_told_110 : decode cX8_told 110 = .ok (.ireturn, 1) := by decide +kernel
set_option maxRecDepth 20000 in
theorem ggX8_knows_X0_isPair : GoodIn wsX8_knows wsX0_isPair := goodIn_r _ [7, 8, 9, 10, 6, 11, 12, 41, 42, 43, 44, 45] (by decide +kernel) (by decide +kernel)
set_option maxRecDepth 20000 in
theorem gX8_knows_X0_isPair : GoodIn wsX8_knows (wsV RX8 132 RX0 yX0_isPair wsX0_isPair) := goodIn_app (goodIn_of _ (by decide +kernel)) ggX8_knows_X0_isPair
set_option maxRecDepth 20000 in
theorem ggX8_knows_X8_forgetFound : GoodIn wsX8_knows wsX8_forgetFound := goodIn_r _ [17, 18, 19, 20, 24, 25, 26, 27, 28, 29, 30, 31, 32, 33, 34, 35, 36, 37, 38, 39, 40] (by decide +kernel) (by decide +kernel)
set_option maxRecDepth 20000 in
theorem gX8_knows_X8_forgetFound : GoodIn wsX8_knows (wsV RX8 101 RX8 yX8_forgetFound wsX8_forgetFound) := goodIn_app (goodIn_of _ (by decide +kernel)) ggX8_knows_X8_forgetFound
theorem dX8_knows_0 : decode cX8_knows 0 = .ok (.aload_n 0, 1) := by decide +kernel
theorem dX8_knows_1 : decode cX8_knows 1 = .ok (.getfield 10, 3) := by decide +kernel
theorem dX8_knows_4 : decode cX8_knows 4 = .ok (.iload_n 1, 1) := by decide +kernel
theorem dX8_knows_5 : decode cX8_knows 5 = .ok (.iload_n 2, 1) := by decide +kernel
theorem dX8_knows_6 : decode cX8_knows 6 = .ok (.invokevirtual 132, 3) := by decide +kernel
theorem dX8_knows_9 : decode cX8_knows 9 = .ok (.ifCond .ne 5, 3) := by decide +kernel
theorem dX8_knows_12 : decode cX8_knows 12 = .ok (.iconst (-1), 1) := by decide +kernel
theorem dX8_knows_13 : decode cX8_knows 13 = .ok (.ireturn, 1) := by decide +kernel
theorem dX8_knows_14 : decode cX8_knows 14 = .ok (.aload_n 0, 1) := by decide +kernel
theorem dX8_knows_15 : decode cX8_knows 15 = .ok (.invokevirtual 101, 3) := by decide +kernel
theorem dX8_knows_18 : decode cX8_knows 18 = .ok (.iload_n 1, 1) := by decide +kernel
theorem dX8_knows_19 : decode cX8_knows 19 = .ok (.iload_n 2, 1) := by decide +kernel
theorem dX8_knows_20 : decode cX8_knows 20 = .ok (.invokestatic 136, 3) := by decide +kernel
theorem dX8_knows_23 : decode cX8_knows 23 = .ok (.istore 4, 2) := by decide +kernel
theorem dX8_knows_25 : decode cX8_knows 25 = .ok (.aload_n 0, 1) := by decide +kernel
theorem dX8_knows_26 : decode cX8_knows 26 = .ok (.getfield 10, 3) := by decide +kernel
theorem dX8_knows_29 : decode cX8_knows 29 = .ok (.getfield 122, 3) := by decide +kernel
theorem dX8_knows_32 : decode cX8_knows 32 = .ok (.iload 4, 2) := by decide +kernel
theorem dX8_knows_34 : decode cX8_knows 34 = .ok (.iand, 1) := by decide +kernel
theorem dX8_knows_35 : decode cX8_knows 35 = .ok (.ifCond .eq 7, 3) := by decide +kernel
theorem dX8_knows_38 : decode cX8_knows 38 = .ok (.iconst 1, 1) := by decide +kernel
theorem dX8_knows_39 : decode cX8_knows 39 = .ok (.goto 4, 3) := by decide +kernel
theorem dX8_knows_42 : decode cX8_knows 42 = .ok (.iconst 0, 1) := by decide +kernel
theorem dX8_knows_43 : decode cX8_knows 43 = .ok (.istore 5, 2) := by decide +kernel
theorem dX8_knows_45 : decode cX8_knows 45 = .ok (.aload_n 0, 1) := by decide +kernel
theorem dX8_knows_46 : decode cX8_knows 46 = .ok (.getfield 10, 3) := by decide +kernel
theorem dX8_knows_49 : decode cX8_knows 49 = .ok (.iload_n 3, 1) := by decide +kernel
theorem dX8_knows_50 : decode cX8_knows 50 = .ok (.ifCond .eq 16, 3) := by decide +kernel
theorem dX8_knows_53 : decode cX8_knows 53 = .ok (.aload_n 0, 1) := by decide +kernel
theorem dX8_knows_54 : decode cX8_knows 54 = .ok (.getfield 10, 3) := by decide +kernel
theorem dX8_knows_57 : decode cX8_knows 57 = .ok (.getfield 122, 3) := by decide +kernel
theorem dX8_knows_60 : decode cX8_knows 60 = .ok (.iload 4, 2) := by decide +kernel
theorem dX8_knows_62 : decode cX8_knows 62 = .ok (.ior, 1) := by decide +kernel
theorem dX8_knows_63 : decode cX8_knows 63 = .ok (.goto 15, 3) := by decide +kernel
theorem dX8_knows_66 : decode cX8_knows 66 = .ok (.aload_n 0, 1) := by decide +kernel
theorem dX8_knows_67 : decode cX8_knows 67 = .ok (.getfield 10, 3) := by decide +kernel
theorem dX8_knows_70 : decode cX8_knows 70 = .ok (.getfield 122, 3) := by decide +kernel
theorem dX8_knows_73 : decode cX8_knows 73 = .ok (.iload 4, 2) := by decide +kernel
theorem dX8_knows_75 : decode cX8_knows 75 = .ok (.iconst (-1), 1) := by decide +kernel
theorem dX8_knows_76 : decode cX8_knows 76 = .ok (.ixor, 1) := by decide +kernel
theorem dX8_knows_77 : decode cX8_knows 77 = .ok (.iand, 1) := by decide +kernel
theorem dX8_knows_78 : decode cX8_knows 78 = .ok (.putfield 122, 3) := by decide +kernel
theorem dX8_knows_81 : decode cX8_knows 81 = .ok (.iload 5, 2) := by decide +kernel
theorem dX8_knows_83 : decode cX8_knows 83 = .ok (.ireturn, 1) := by decide +kernel
set_option maxRecDepth 20000 in
theorem ggX8_ask_X0_isPair : GoodIn wsX8_ask wsX0_isPair := goodIn_r _ [6, 7, 8, 9, 5, 10, 11, 52, 53, 54, 55, 56] (by decide +kernel) (by decide +kernel)
set_option maxRecDepth 20000 in
theorem gX8_ask_X0_isPair : GoodIn wsX8_ask (wsV RX8 132 RX0 yX0_isPair wsX0_isPair) := goodIn_app (goodIn_of _ (by decide +kernel)) ggX8_ask_X0_isPair
set_option maxRecDepth 20000 in
theorem ggX8_ask_X8_forgetFound : GoodIn wsX8_ask wsX8_forgetFound := goodIn_r _ [16, 17, 18, 19, 35, 36, 37, 38, 39, 40, 41, 42, 43, 44, 45, 46, 47, 48, 49, 50, 51] (by decide +kernel) (by decide +kernel)
set_option maxRecDepth 20000 in
theorem gX8_ask_X8_forgetFound : GoodIn wsX8_ask (wsV RX8 101 RX8 yX8_forgetFound wsX8_forgetFound) := goodIn_app (goodIn_of _ (by decide +kernel)) ggX8_ask_X8_forgetFound
theorem dX8_ask_0 : decode cX8_ask 0 = .ok (.aload_n 0, 1) := by decide +kernel
theorem dX8_ask_1 : decode cX8_ask 1 = .ok (.getfield 10, 3) := by decide +kernel
theorem dX8_ask_4 : decode cX8_ask 4 = .ok (.iload_n 1, 1) := by decide +kernel
theorem dX8_ask_5 : decode cX8_ask 5 = .ok (.iload_n 2, 1) := by decide +kernel
theorem dX8_ask_6 : decode cX8_ask 6 = .ok (.invokevirtual 132, 3) := by decide +kernel
theorem dX8_ask_9 : decode cX8_ask 9 = .ok (.ifCond .ne 5, 3) := by decide +kernel
theorem dX8_ask_12 : decode cX8_ask 12 = .ok (.iconst (-1), 1) := by decide +kernel
theorem dX8_ask_13 : decode cX8_ask 13 = .ok (.ireturn, 1) := by decide +kernel
theorem dX8_ask_14 : decode cX8_ask 14 = .ok (.aload_n 0, 1) := by decide +kernel
theorem dX8_ask_15 : decode cX8_ask 15 = .ok (.invokevirtual 101, 3) := by decide +kernel
theorem dX8_ask_18 : decode cX8_ask 18 = .ok (.aload_n 0, 1) := by decide +kernel
theorem dX8_ask_19 : decode cX8_ask 19 = .ok (.getfield 10, 3) := by decide +kernel
theorem dX8_ask_22 : decode cX8_ask 22 = .ok (.iload_n 1, 1) := by decide +kernel
theorem dX8_ask_23 : decode cX8_ask 23 = .ok (.iload_n 2, 1) := by decide +kernel
theorem dX8_ask_24 : decode cX8_ask 24 = .ok (.invokevirtual 139, 3) := by decide +kernel
theorem dX8_ask_27 : decode cX8_ask 27 = .ok (.ireturn, 1) := by decide +kernel
set_option maxRecDepth 20000 in
theorem ggX8_week_X8_forgetFound : GoodIn wsX8_week wsX8_forgetFound := goodIn_r _ [7, 8, 9, 10, 24, 25, 26, 27, 28, 29, 30, 31, 32, 33, 34, 35, 36, 37, 38, 39, 40] (by decide +kernel) (by decide +kernel)
set_option maxRecDepth 20000 in
theorem gX8_week_X8_forgetFound : GoodIn wsX8_week (wsV RX8 101 RX8 yX8_forgetFound wsX8_forgetFound) := goodIn_app (goodIn_of _ (by decide +kernel)) ggX8_week_X8_forgetFound
set_option maxRecDepth 20000 in
theorem ggX8_week_X0_askings : GoodIn wsX8_week wsX0_askings := goodIn_r _ [15, 16, 17, 18, 19, 20, 21, 22, 23, 41, 42, 43, 44, 45] (by decide +kernel) (by decide +kernel)
set_option maxRecDepth 20000 in
theorem gX8_week_X0_askings : GoodIn wsX8_week (wsV RX8 142 RX0 yX0_askings wsX0_askings) := goodIn_app (goodIn_of _ (by decide +kernel)) ggX8_week_X0_askings
theorem dX8_week_0 : decode cX8_week 0 = .ok (.aload_n 0, 1) := by decide +kernel
theorem dX8_week_1 : decode cX8_week 1 = .ok (.invokevirtual 101, 3) := by decide +kernel
theorem dX8_week_4 : decode cX8_week 4 = .ok (.aload_n 0, 1) := by decide +kernel
theorem dX8_week_5 : decode cX8_week 5 = .ok (.getfield 10, 3) := by decide +kernel
theorem dX8_week_8 : decode cX8_week 8 = .ok (.invokevirtual 142, 3) := by decide +kernel
theorem dX8_week_11 : decode cX8_week 11 = .ok (.istore_n 1, 1) := by decide +kernel
theorem dX8_week_12 : decode cX8_week 12 = .ok (.aload_n 0, 1) := by decide +kernel
theorem dX8_week_13 : decode cX8_week 13 = .ok (.getfield 10, 3) := by decide +kernel
theorem dX8_week_16 : decode cX8_week 16 = .ok (.iconst 0, 1) := by decide +kernel
theorem dX8_week_17 : decode cX8_week 17 = .ok (.putfield 129, 3) := by decide +kernel
theorem dX8_week_20 : decode cX8_week 20 = .ok (.iload_n 1, 1) := by decide +kernel
theorem dX8_week_21 : decode cX8_week 21 = .ok (.ireturn, 1) := by decide +kernel
set_option maxRecDepth 20000 in
theorem ggX8_type_X5_areSigns : GoodIn wsX8_type wsX5_areSigns := goodIn_r _ [6, 7, 8, 9] (by decide +kernel) (by decide +kernel)
set_option maxRecDepth 20000 in
theorem gX8_type_X5_areSigns : GoodIn wsX8_type (va_wsS RX8 146 yX5_areSigns wsX5_areSigns) := goodIn_app (goodIn_of _ (by decide +kernel)) ggX8_type_X5_areSigns
set_option maxRecDepth 20000 in
theorem ggX8_type_X5_add : GoodIn wsX8_type wsX5_add := goodIn_r _ [13, 14, 15, 7, 33, 34, 35] (by decide +kernel) (by decide +kernel)
set_option maxRecDepth 20000 in
theorem gX8_type_X5_add : GoodIn wsX8_type (wsV RX8 151 RX5 yX5_add wsX5_add) := goodIn_app (goodIn_of _ (by decide +kernel)) ggX8_type_X5_add
theorem dX8_type_0 : decode cX8_type 0 = .ok (.iload_n 3, 1) := by decide +kernel
theorem dX8_type_1 : decode cX8_type 1 = .ok (.iconst 1, 1) := by decide +kernel
theorem dX8_type_2 : decode cX8_type 2 = .ok (.if_icmp .lt 17, 3) := by decide +kernel
theorem dX8_type_5 : decode cX8_type 5 = .ok (.iload_n 3, 1) := by decide +kernel
theorem dX8_type_6 : decode cX8_type 6 = .ok (.bipush 8, 2) := by decide +kernel
theorem dX8_type_8 : decode cX8_type 8 = .ok (.if_icmp .gt 11, 3) := by decide +kernel
theorem dX8_type_11 : decode cX8_type 11 = .ok (.lload_n 1, 1) := by decide +kernel
theorem dX8_type_12 : decode cX8_type 12 = .ok (.iload_n 3, 1) := by decide +kernel
theorem dX8_type_13 : decode cX8_type 13 = .ok (.invokestatic 146, 3) := by decide +kernel
theorem dX8_type_16 : decode cX8_type 16 = .ok (.ifCond .ne 5, 3) := by decide +kernel
theorem dX8_type_19 : decode cX8_type 19 = .ok (.iconst (-1), 1) := by decide +kernel
theorem dX8_type_20 : decode cX8_type 20 = .ok (.ireturn, 1) := by decide +kernel
theorem dX8_type_21 : decode cX8_type 21 = .ok (.aload_n 0, 1) := by decide +kernel
theorem dX8_type_22 : decode cX8_type 22 = .ok (.getfield 26, 3) := by decide +kernel
theorem dX8_type_25 : decode cX8_type 25 = .ok (.getfield 150, 3) := by decide +kernel
theorem dX8_type_28 : decode cX8_type 28 = .ok (.iload_n 3, 1) := by decide +kernel
theorem dX8_type_29 : decode cX8_type 29 = .ok (.iadd, 1) := by decide +kernel
theorem dX8_type_30 : decode cX8_type 30 = .ok (.bipush 80, 2) := by decide +kernel
theorem dX8_type_32 : decode cX8_type 32 = .ok (.if_icmp .le 6, 3) := by decide +kernel
theorem dX8_type_35 : decode cX8_type 35 = .ok (.bipush (-3), 2) := by decide +kernel
theorem dX8_type_37 : decode cX8_type 37 = .ok (.ireturn, 1) := by decide +kernel
theorem dX8_type_38 : decode cX8_type 38 = .ok (.aload_n 0, 1) := by decide +kernel
theorem dX8_type_39 : decode cX8_type 39 = .ok (.getfield 26, 3) := by decide +kernel
theorem dX8_type_42 : decode cX8_type 42 = .ok (.lload_n 1, 1) := by decide +kernel
theorem dX8_type_43 : decode cX8_type 43 = .ok (.iload_n 3, 1) := by decide +kernel
theorem dX8_type_44 : decode cX8_type 44 = .ok (.invokevirtual 151, 3) := by decide +kernel
theorem dX8_type_47 : decode cX8_type 47 = .ok (.aload_n 0, 1) := by decide +kernel
theorem dX8_type_48 : decode cX8_type 48 = .ok (.getfield 26, 3) := by decide +kernel
theorem dX8_type_51 : decode cX8_type 51 = .ok (.getfield 150, 3) := by decide +kernel
theorem dX8_type_54 : decode cX8_type 54 = .ok (.ireturn, 1) := by decide +kernel
set_option maxRecDepth 20000 in
theorem ggX8_people_X5_readFolk : GoodIn wsX8_people wsX5_readFolk := goodIn_r _ [10, 11, 12, 13, 14, 15, 16, 17, 18, 19, 20, 21, 22, 23, 24, 9, 25, 26, 27, 28, 29, 30, 31, 32, 33, 34, 35, 36, 37, 38, 39, 40, 41, 42, 43, 44, 45, 46, 47, 48, 49, 50, 51, 52, 53, 54, 55, 56, 57, 58, 59, 60, 61, 62, 63, 64, 65, 66, 67, 68, 69, 70, 71, 72, 73, 74, 75, 76, 77, 78, 79, 80, 81, 82, 83, 84, 85, 86, 87, 88, 89, 90, 91, 92, 93, 94, 95, 96, 97, 98, 99, 100, 101, 102, 103, 104, 105, 106, 107, 108, 109, 110, 111, 112, 113, 114, 115, 116, 117, 118, 119, 120, 121, 122, 123, 124, 125, 126, 127, 128, 129, 130, 131, 132, 133, 134, 135, 176, 177, 178, 179, 180, 181, 182, 183] (by decide +kernel) (by decide +kernel)
set_option maxRecDepth 20000 in
theorem gX8_people_X5_readFolk : GoodIn wsX8_people (wsV RX8 154 RX5 yX5_readFolk wsX5_readFolk) := goodIn_app (goodIn_of _ (by decide +kernel)) ggX8_people_X5_readFolk
set_option maxRecDepth 20000 in
theorem ggX8_people_X8_forgetFound : GoodIn wsX8_people wsX8_forgetFound := goodIn_r _ [140, 141, 142, 143, 159, 160, 161, 162, 163, 164, 165, 166, 167, 168, 169, 170, 171, 172, 173, 174, 175] (by decide +kernel) (by decide +kernel)
set_option maxRecDepth 20000 in
theorem gX8_people_X8_forgetFound : GoodIn wsX8_people (wsV RX8 101 RX8 yX8_forgetFound wsX8_forgetFound) := goodIn_app (goodIn_of _ (by decide +kernel)) ggX8_people_X8_forgetFound
set_option maxRecDepth 20000 in
theorem ggX8_people_X0_takeFrom : GoodIn wsX8_people wsX0_takeFrom := goodIn_r _ [147, 18, 20, 21, 134, 148, 149, 150, 151, 135, 179, 180, 181, 182, 183] (by decide +kernel) (by decide +kernel)
set_option maxRecDepth 20000 in
theorem gX8_people_X0_takeFrom : GoodIn wsX8_people (wsV RX8 158 RX0 yX0_takeFrom wsX0_takeFrom) := goodIn_app (goodIn_of _ (by decide +kernel)) ggX8_people_X0_takeFrom
set_option maxRecDepth 20000 in
theorem ggX8_people_X2_clear : GoodIn wsX8_people wsX2_clear := goodIn_r _ [156, 157, 158, 184, 185, 186, 187] (by decide +kernel) (by decide +kernel)
set_option maxRecDepth 20000 in
theorem gX8_people_X2_clear : GoodIn wsX8_people (wsV RX8 162 RX2 yX2_clear wsX2_clear) := goodIn_app (goodIn_of _ (by decide +kernel)) ggX8_people_X2_clear
theorem dX8_people_0 : decode cX8_people 0 = .ok (.aload_n 0, 1) := by decide +kernel
theorem dX8_people_1 : decode cX8_people 1 = .ok (.getfield 26, 3) := by decide +kernel
theorem dX8_people_4 : decode cX8_people 4 = .ok (.aload_n 0, 1) := by decide +kernel
theorem dX8_people_5 : decode cX8_people 5 = .ok (.getfield 46, 3) := by decide +kernel
theorem dX8_people_8 : decode cX8_people 8 = .ok (.invokevirtual 154, 3) := by decide +kernel
theorem dX8_people_11 : decode cX8_people 11 = .ok (.istore_n 1, 1) := by decide +kernel
theorem dX8_people_12 : decode cX8_people 12 = .ok (.aload_n 0, 1) := by decide +kernel
theorem dX8_people_13 : decode cX8_people 13 = .ok (.getfield 26, 3) := by decide +kernel
theorem dX8_people_16 : decode cX8_people 16 = .ok (.iconst 0, 1) := by decide +kernel
theorem dX8_people_17 : decode cX8_people 17 = .ok (.putfield 150, 3) := by decide +kernel
theorem dX8_people_20 : decode cX8_people 20 = .ok (.iload_n 1, 1) := by decide +kernel
theorem dX8_people_21 : decode cX8_people 21 = .ok (.ifCond .le 25, 3) := by decide +kernel
theorem dX8_people_24 : decode cX8_people 24 = .ok (.aload_n 0, 1) := by decide +kernel
theorem dX8_people_25 : decode cX8_people 25 = .ok (.invokevirtual 101, 3) := by decide +kernel
theorem dX8_people_28 : decode cX8_people 28 = .ok (.aload_n 0, 1) := by decide +kernel
theorem dX8_people_29 : decode cX8_people 29 = .ok (.getfield 10, 3) := by decide +kernel
theorem dX8_people_32 : decode cX8_people 32 = .ok (.aload_n 0, 1) := by decide +kernel
theorem dX8_people_33 : decode cX8_people 33 = .ok (.getfield 46, 3) := by decide +kernel
theorem dX8_people_36 : decode cX8_people 36 = .ok (.invokevirtual 158, 3) := by decide +kernel
theorem dX8_people_39 : decode cX8_people 39 = .ok (.aload_n 0, 1) := by decide +kernel
theorem dX8_people_40 : decode cX8_people 40 = .ok (.getfield 19, 3) := by decide +kernel
theorem dX8_people_43 : decode cX8_people 43 = .ok (.invokevirtual 162, 3) := by decide +kernel
theorem dX8_people_46 : decode cX8_people 46 = .ok (.iload_n 1, 1) := by decide +kernel
theorem dX8_people_47 : decode cX8_people 47 = .ok (.ireturn, 1) := by decide +kernel
set_option maxRecDepth 20000 in
theorem ggX8_plan_X5_readPlan : GoodIn wsX8_plan wsX5_readPlan := goodIn_r _ [11, 12, 13, 14, 15, 16, 17, 18, 19, 20, 21, 22, 23, 24, 10, 25, 26, 27, 28, 29, 30, 31, 32, 33, 34, 35, 36, 37, 38, 39, 40, 41, 42, 43, 44, 83, 84, 85, 86, 87, 88, 89] (by decide +kernel) (by decide +kernel)
set_option maxRecDepth 20000 in
theorem gX8_plan_X5_readPlan : GoodIn wsX8_plan (wsV RX8 165 RX5 yX5_readPlan wsX5_readPlan) := goodIn_app (goodIn_of _ (by decide +kernel)) ggX8_plan_X5_readPlan
set_option maxRecDepth 20000 in
theorem ggX8_plan_X8_forgetFound : GoodIn wsX8_plan wsX8_forgetFound := goodIn_r _ [49, 50, 51, 52, 61, 62, 63, 64, 65, 66, 67, 68, 69, 70, 71, 72, 73, 74, 75, 76, 77] (by decide +kernel) (by decide +kernel)
set_option maxRecDepth 20000 in
theorem gX8_plan_X8_forgetFound : GoodIn wsX8_plan (wsV RX8 101 RX8 yX8_forgetFound wsX8_forgetFound) := goodIn_app (goodIn_of _ (by decide +kernel)) ggX8_plan_X8_forgetFound
set_option maxRecDepth 20000 in
theorem ggX8_plan_X2_takeFrom : GoodIn wsX8_plan wsX2_takeFrom := goodIn_r _ [56, 20, 21, 40, 57, 58, 59, 60, 41, 86, 87, 88, 89] (by decide +kernel) (by decide +kernel)
set_option maxRecDepth 20000 in
theorem gX8_plan_X2_takeFrom : GoodIn wsX8_plan (wsV RX8 169 RX2 yX2_takeFrom wsX2_takeFrom) := goodIn_app (goodIn_of _ (by decide +kernel)) ggX8_plan_X2_takeFrom
theorem dX8_plan_0 : decode cX8_plan 0 = .ok (.aload_n 0, 1) := by decide +kernel
theorem dX8_plan_1 : decode cX8_plan 1 = .ok (.getfield 26, 3) := by decide +kernel
theorem dX8_plan_4 : decode cX8_plan 4 = .ok (.aload_n 0, 1) := by decide +kernel
theorem dX8_plan_5 : decode cX8_plan 5 = .ok (.getfield 49, 3) := by decide +kernel
theorem dX8_plan_8 : decode cX8_plan 8 = .ok (.aload_n 0, 1) := by decide +kernel
theorem dX8_plan_9 : decode cX8_plan 9 = .ok (.getfield 10, 3) := by decide +kernel
theorem dX8_plan_12 : decode cX8_plan 12 = .ok (.getfield 98, 3) := by decide +kernel
theorem dX8_plan_15 : decode cX8_plan 15 = .ok (.invokevirtual 165, 3) := by decide +kernel
theorem dX8_plan_18 : decode cX8_plan 18 = .ok (.istore_n 1, 1) := by decide +kernel
theorem dX8_plan_19 : decode cX8_plan 19 = .ok (.aload_n 0, 1) := by decide +kernel
theorem dX8_plan_20 : decode cX8_plan 20 = .ok (.getfield 26, 3) := by decide +kernel
theorem dX8_plan_23 : decode cX8_plan 23 = .ok (.iconst 0, 1) := by decide +kernel
theorem dX8_plan_24 : decode cX8_plan 24 = .ok (.putfield 150, 3) := by decide +kernel
theorem dX8_plan_27 : decode cX8_plan 27 = .ok (.iload_n 1, 1) := by decide +kernel
theorem dX8_plan_28 : decode cX8_plan 28 = .ok (.ifCond .le 18, 3) := by decide +kernel
theorem dX8_plan_31 : decode cX8_plan 31 = .ok (.aload_n 0, 1) := by decide +kernel
theorem dX8_plan_32 : decode cX8_plan 32 = .ok (.invokevirtual 101, 3) := by decide +kernel
theorem dX8_plan_35 : decode cX8_plan 35 = .ok (.aload_n 0, 1) := by decide +kernel
theorem dX8_plan_36 : decode cX8_plan 36 = .ok (.getfield 19, 3) := by decide +kernel
theorem dX8_plan_39 : decode cX8_plan 39 = .ok (.aload_n 0, 1) := by decide +kernel
theorem dX8_plan_40 : decode cX8_plan 40 = .ok (.getfield 49, 3) := by decide +kernel
theorem dX8_plan_43 : decode cX8_plan 43 = .ok (.invokevirtual 169, 3) := by decide +kernel
theorem dX8_plan_46 : decode cX8_plan 46 = .ok (.iload_n 1, 1) := by decide +kernel
theorem dX8_plan_47 : decode cX8_plan 47 = .ok (.ireturn, 1) := by decide +kernel
set_option maxRecDepth 20000 in
theorem ggX8_count_X0_penceOfAll : GoodIn wsX8_count wsX0_penceOfAll := goodIn_r _ [10, 11, 12, 43, 44, 45, 46, 47] (by decide +kernel) (by decide +kernel)
set_option maxRecDepth 20000 in
theorem gX8_count_X0_penceOfAll : GoodIn wsX8_count (wsV RX8 172 RX0 yX0_penceOfAll wsX0_penceOfAll) := goodIn_app (goodIn_of _ (by decide +kernel)) ggX8_count_X0_penceOfAll
set_option maxRecDepth 20000 in
theorem ggX8_count_X0_askings : GoodIn wsX8_count wsX0_askings := goodIn_r _ [16, 17, 18, 19, 20, 21, 22, 23, 24, 43, 44, 45, 46, 47] (by decide +kernel) (by decide +kernel)
set_option maxRecDepth 20000 in
theorem gX8_count_X0_askings : GoodIn wsX8_count (wsV RX8 142 RX0 yX0_askings wsX0_askings) := goodIn_app (goodIn_of _ (by decide +kernel)) ggX8_count_X0_askings
set_option maxRecDepth 20000 in
theorem ggX8_count_J6_bitCount_0f7a4 : GoodIn wsX8_count wsJ6_bitCount_0f7a4 := goodIn_r _ [21, 22, 23, 24] (by decide +kernel) (by decide +kernel)
set_option maxRecDepth 20000 in
theorem gX8_count_J6_bitCount_0f7a4 : GoodIn wsX8_count (va_wsS RX8 179 yJ6_bitCount_0f7a4 wsJ6_bitCount_0f7a4) := goodIn_app (goodIn_of _ (by decide +kernel)) ggX8_count_J6_bitCount_0f7a4
theorem dX8_count_0 : decode cX8_count 0 = .ok (.iload_n 1, 1) := by decide +kernel
theorem dX8_count_1 : decode cX8_count 1 = .ok (.tableswitch 78 0 4 #[35, 43, 51, 59, 67], 35) := by decide +kernel
theorem dX8_count_36 : decode cX8_count 36 = .ok (.aload_n 0, 1) := by decide +kernel
theorem dX8_count_37 : decode cX8_count 37 = .ok (.getfield 10, 3) := by decide +kernel
theorem dX8_count_40 : decode cX8_count 40 = .ok (.getfield 98, 3) := by decide +kernel
theorem dX8_count_43 : decode cX8_count 43 = .ok (.ireturn, 1) := by decide +kernel
theorem dX8_count_44 : decode cX8_count 44 = .ok (.aload_n 0, 1) := by decide +kernel
theorem dX8_count_45 : decode cX8_count 45 = .ok (.getfield 10, 3) := by decide +kernel
theorem dX8_count_48 : decode cX8_count 48 = .ok (.invokevirtual 172, 3) := by decide +kernel
theorem dX8_count_51 : decode cX8_count 51 = .ok (.ireturn, 1) := by decide +kernel
theorem dX8_count_52 : decode cX8_count 52 = .ok (.aload_n 0, 1) := by decide +kernel
theorem dX8_count_53 : decode cX8_count 53 = .ok (.getfield 10, 3) := by decide +kernel
theorem dX8_count_56 : decode cX8_count 56 = .ok (.invokevirtual 142, 3) := by decide +kernel
theorem dX8_count_59 : decode cX8_count 59 = .ok (.ireturn, 1) := by decide +kernel
theorem dX8_count_60 : decode cX8_count 60 = .ok (.aload_n 0, 1) := by decide +kernel
theorem dX8_count_61 : decode cX8_count 61 = .ok (.getfield 19, 3) := by decide +kernel
theorem dX8_count_64 : decode cX8_count 64 = .ok (.getfield 175, 3) := by decide +kernel
theorem dX8_count_67 : decode cX8_count 67 = .ok (.ireturn, 1) := by decide +kernel
theorem dX8_count_68 : decode cX8_count 68 = .ok (.aload_n 0, 1) := by decide +kernel
theorem dX8_count_69 : decode cX8_count 69 = .ok (.getfield 19, 3) := by decide +kernel
theorem dX8_count_72 : decode cX8_count 72 = .ok (.getfield 176, 3) := by decide +kernel
theorem dX8_count_75 : decode cX8_count 75 = .ok (.invokestatic 179, 3) := by decide +kernel
theorem dX8_count_78 : decode cX8_count 78 = .ok (.ireturn, 1) := by decide +kernel
theorem dX8_count_79 : decode cX8_count 79 = .ok (.iconst (-1), 1) := by decide +kernel
theorem dX8_count_80 : decode cX8_count 80 = .ok (.ireturn, 1) := by decide +kernel
set_option maxRecDepth 20000 in
theorem ggX8_run_X8_forgetFound : GoodIn wsX8_run wsX8_forgetFound := goodIn_r _ [10, 11, 12, 13, 41, 42, 43, 44, 45, 46, 47, 48, 49, 50, 51, 52, 53, 54, 55, 56, 57] (by decide +kernel) (by decide +kernel)
set_option maxRecDepth 20000 in
theorem gX8_run_X8_forgetFound : GoodIn wsX8_run (wsV RX8 101 RX8 yX8_forgetFound wsX8_forgetFound) := goodIn_app (goodIn_of _ (by decide +kernel)) ggX8_run_X8_forgetFound
theorem dX8_run_0 : decode cX8_run 0 = .ok (.aload_n 0, 1) := by decide +kernel
theorem dX8_run_1 : decode cX8_run 1 = .ok (.invokevirtual 101, 3) := by decide +kernel
theorem dX8_run_4 : decode cX8_run 4 = .ok (.iconst 0, 1) := by decide +kernel
theorem dX8_run_5 : decode cX8_run 5 = .ok (.istore_n 1, 1) := by decide +kernel
theorem dX8_run_6 : decode cX8_run 6 = .ok (.iload_n 1, 1) := by decide +kernel
theorem dX8_run_7 : decode cX8_run 7 = .ok (.aload_n 0, 1) := by decide +kernel
theorem dX8_run_8 : decode cX8_run 8 = .ok (.getfield 19, 3) := by decide +kernel
theorem dX8_run_11 : decode cX8_run 11 = .ok (.getfield 175, 3) := by decide +kernel
theorem dX8_run_14 : decode cX8_run 14 = .ok (.if_icmp .ge 51, 3) := by decide +kernel
theorem dX8_run_17 : decode cX8_run 17 = .ok (.aload_n 0, 1) := by decide +kernel
theorem dX8_run_18 : decode cX8_run 18 = .ok (.getfield 10, 3) := by decide +kernel
theorem dX8_run_21 : decode cX8_run 21 = .ok (.aload_n 0, 1) := by decide +kernel
theorem dX8_run_22 : decode cX8_run 22 = .ok (.getfield 19, 3) := by decide +kernel
theorem dX8_run_25 : decode cX8_run 25 = .ok (.getfield 184, 3) := by decide +kernel
theorem dX8_run_28 : decode cX8_run 28 = .ok (.iload_n 1, 1) := by decide +kernel
theorem dX8_run_29 : decode cX8_run 29 = .ok (.iaload, 1) := by decide +kernel
theorem dX8_run_30 : decode cX8_run 30 = .ok (.aload_n 0, 1) := by decide +kernel
theorem dX8_run_31 : decode cX8_run 31 = .ok (.getfield 19, 3) := by decide +kernel
theorem dX8_run_34 : decode cX8_run 34 = .ok (.getfield 187, 3) := by decide +kernel
theorem dX8_run_37 : decode cX8_run 37 = .ok (.iload_n 1, 1) := by decide +kernel
theorem dX8_run_38 : decode cX8_run 38 = .ok (.iaload, 1) := by decide +kernel
theorem dX8_run_39 : decode cX8_run 39 = .ok (.invokevirtual 139, 3) := by decide +kernel
theorem dX8_run_42 : decode cX8_run 42 = .ok (.bipush (-2), 2) := by decide +kernel
theorem dX8_run_44 : decode cX8_run 44 = .ok (.if_icmp .eq 21, 3) := by decide +kernel
theorem dX8_run_47 : decode cX8_run 47 = .ok (.aload_n 0, 1) := by decide +kernel
theorem dX8_run_48 : decode cX8_run 48 = .ok (.getfield 19, 3) := by decide +kernel
theorem dX8_run_51 : decode cX8_run 51 = .ok (.aload_n 0, 1) := by decide +kernel
theorem dX8_run_52 : decode cX8_run 52 = .ok (.getfield 10, 3) := by decide +kernel
theorem dX8_run_55 : decode cX8_run 55 = .ok (.iload_n 1, 1) := by decide +kernel
theorem dX8_run_56 : decode cX8_run 56 = .ok (.invokevirtual 190, 3) := by decide +kernel
theorem dX8_run_59 : decode cX8_run 59 = .ok (.iinc 1 1, 3) := by decide +kernel
theorem dX8_run_62 : decode cX8_run 62 = .ok (.goto (-56), 3) := by decide +kernel
theorem dX8_run_65 : decode cX8_run 65 = .ok (.iload_n 1, 1) := by decide +kernel
theorem dX8_run_66 : decode cX8_run 66 = .ok (.ireturn, 1) := by decide +kernel
set_option maxRecDepth 20000 in
theorem ggX8_most_X0_has : GoodIn wsX8_most wsX0_has := goodIn_r _ [8, 9, 119, 120, 121, 122, 123] (by decide +kernel) (by decide +kernel)
set_option maxRecDepth 20000 in
theorem gX8_most_X0_has : GoodIn wsX8_most (wsV RX8 108 RX0 yX0_has wsX0_has) := goodIn_app (goodIn_of _ (by decide +kernel)) ggX8_most_X0_has
theorem dX8_most_0 : decode cX8_most 0 = .ok (.aload_n 0, 1) := by decide +kernel
theorem dX8_most_1 : decode cX8_most 1 = .ok (.getfield 10, 3) := by decide +kernel
theorem dX8_most_4 : decode cX8_most 4 = .ok (.iload_n 1, 1) := by decide +kernel
theorem dX8_most_5 : decode cX8_most 5 = .ok (.invokevirtual 108, 3) := by decide +kernel
theorem dX8_most_8 : decode cX8_most 8 = .ok (.ifCond .ne 5, 3) := by decide +kernel
theorem dX8_most_11 : decode cX8_most 11 = .ok (.iconst (-1), 1) := by decide +kernel
theorem dX8_most_12 : decode cX8_most 12 = .ok (.ireturn, 1) := by decide +kernel
theorem dX8_most_13 : decode cX8_most 13 = .ok (.aload_n 0, 1) := by decide +kernel
theorem dX8_most_14 : decode cX8_most 14 = .ok (.iload_n 1, 1) := by decide +kernel
theorem dX8_most_15 : decode cX8_most 15 = .ok (.invokevirtual 194, 3) := by decide +kernel
theorem dX8_most_18 : decode cX8_most 18 = .ok (.aload_n 0, 1) := by decide +kernel
theorem dX8_most_19 : decode cX8_most 19 = .ok (.getfield 59, 3) := by decide +kernel
theorem dX8_most_22 : decode cX8_most 22 = .ok (.getfield 198, 3) := by decide +kernel
theorem dX8_most_25 : decode cX8_most 25 = .ok (.ireturn, 1) := by decide +kernel
set_option maxRecDepth 20000 in
theorem ggX8_when_X0_isPair : GoodIn wsX8_when wsX0_isPair := goodIn_r _ [7, 8, 9, 10, 6, 11, 12, 121, 122, 123, 124, 125] (by decide +kernel) (by decide +kernel)
set_option maxRecDepth 20000 in
theorem gX8_when_X0_isPair : GoodIn wsX8_when (wsV RX8 132 RX0 yX0_isPair wsX0_isPair) := goodIn_app (goodIn_of _ (by decide +kernel)) ggX8_when_X0_isPair
theorem dX8_when_0 : decode cX8_when 0 = .ok (.aload_n 0, 1) := by decide +kernel
theorem dX8_when_1 : decode cX8_when 1 = .ok (.getfield 10, 3) := by decide +kernel
theorem dX8_when_4 : decode cX8_when 4 = .ok (.iload_n 1, 1) := by decide +kernel
theorem dX8_when_5 : decode cX8_when 5 = .ok (.iload_n 2, 1) := by decide +kernel
theorem dX8_when_6 : decode cX8_when 6 = .ok (.invokevirtual 132, 3) := by decide +kernel
theorem dX8_when_9 : decode cX8_when 9 = .ok (.ifCond .ne 5, 3) := by decide +kernel
theorem dX8_when_12 : decode cX8_when 12 = .ok (.iconst (-1), 1) := by decide +kernel
theorem dX8_when_13 : decode cX8_when 13 = .ok (.ireturn, 1) := by decide +kernel
theorem dX8_when_14 : decode cX8_when 14 = .ok (.aload_n 0, 1) := by decide +kernel
theorem dX8_when_15 : decode cX8_when 15 = .ok (.iload_n 1, 1) := by decide +kernel
theorem dX8_when_16 : decode cX8_when 16 = .ok (.invokevirtual 194, 3) := by decide +kernel
theorem dX8_when_19 : decode cX8_when 19 = .ok (.aload_n 0, 1) := by decide +kernel
theorem dX8_when_20 : decode cX8_when 20 = .ok (.getfield 59, 3) := by decide +kernel
theorem dX8_when_23 : decode cX8_when 23 = .ok (.iload_n 2, 1) := by decide +kernel
theorem dX8_when_24 : decode cX8_when 24 = .ok (.invokevirtual 201, 3) := by decide +kernel
theorem dX8_when_27 : decode cX8_when 27 = .ok (.ireturn, 1) := by decide +kernel
set_option maxRecDepth 20000 in
theorem ggX8_turns_X0_has : GoodIn wsX8_turns wsX0_has := goodIn_r _ [8, 9, 78, 79, 80, 81, 82] (by decide +kernel) (by decide +kernel)
set_option maxRecDepth 20000 in
theorem gX8_turns_X0_has : GoodIn wsX8_turns (wsV RX8 108 RX0 yX0_has wsX0_has) := goodIn_app (goodIn_of _ (by decide +kernel)) ggX8_turns_X0_has
theorem dX8_turns_0 : decode cX8_turns 0 = .ok (.aload_n 0, 1) := by decide +kernel
theorem dX8_turns_1 : decode cX8_turns 1 = .ok (.getfield 10, 3) := by decide +kernel
theorem dX8_turns_4 : decode cX8_turns 4 = .ok (.iload_n 1, 1) := by decide +kernel
theorem dX8_turns_5 : decode cX8_turns 5 = .ok (.invokevirtual 108, 3) := by decide +kernel
theorem dX8_turns_8 : decode cX8_turns 8 = .ok (.ifCond .ne 5, 3) := by decide +kernel
theorem dX8_turns_11 : decode cX8_turns 11 = .ok (.iconst (-1), 1) := by decide +kernel
theorem dX8_turns_12 : decode cX8_turns 12 = .ok (.ireturn, 1) := by decide +kernel
theorem dX8_turns_13 : decode cX8_turns 13 = .ok (.aload_n 0, 1) := by decide +kernel
theorem dX8_turns_14 : decode cX8_turns 14 = .ok (.invokevirtual 204, 3) := by decide +kernel
theorem dX8_turns_17 : decode cX8_turns 17 = .ok (.aload_n 0, 1) := by decide +kernel
theorem dX8_turns_18 : decode cX8_turns 18 = .ok (.getfield 66, 3) := by decide +kernel
theorem dX8_turns_21 : decode cX8_turns 21 = .ok (.getfield 207, 3) := by decide +kernel
theorem dX8_turns_24 : decode cX8_turns 24 = .ok (.iconst 0, 1) := by decide +kernel
theorem dX8_turns_25 : decode cX8_turns 25 = .ok (.aaload, 1) := by decide +kernel
theorem dX8_turns_26 : decode cX8_turns 26 = .ok (.iload_n 1, 1) := by decide +kernel
theorem dX8_turns_27 : decode cX8_turns 27 = .ok (.iaload, 1) := by decide +kernel
theorem dX8_turns_28 : decode cX8_turns 28 = .ok (.ireturn, 1) := by decide +kernel
set_option maxRecDepth 20000 in
theorem ggX8_ends_X0_has : GoodIn wsX8_ends wsX0_has := goodIn_r _ [8, 9, 78, 79, 80, 81, 82] (by decide +kernel) (by decide +kernel)
set_option maxRecDepth 20000 in
theorem gX8_ends_X0_has : GoodIn wsX8_ends (wsV RX8 108 RX0 yX0_has wsX0_has) := goodIn_app (goodIn_of _ (by decide +kernel)) ggX8_ends_X0_has
theorem dX8_ends_0 : decode cX8_ends 0 = .ok (.aload_n 0, 1) := by decide +kernel
theorem dX8_ends_1 : decode cX8_ends 1 = .ok (.getfield 10, 3) := by decide +kernel
theorem dX8_ends_4 : decode cX8_ends 4 = .ok (.iload_n 1, 1) := by decide +kernel
theorem dX8_ends_5 : decode cX8_ends 5 = .ok (.invokevirtual 108, 3) := by decide +kernel
theorem dX8_ends_8 : decode cX8_ends 8 = .ok (.ifCond .ne 5, 3) := by decide +kernel
theorem dX8_ends_11 : decode cX8_ends 11 = .ok (.iconst (-1), 1) := by decide +kernel
theorem dX8_ends_12 : decode cX8_ends 12 = .ok (.ireturn, 1) := by decide +kernel
theorem dX8_ends_13 : decode cX8_ends 13 = .ok (.aload_n 0, 1) := by decide +kernel
theorem dX8_ends_14 : decode cX8_ends 14 = .ok (.invokevirtual 204, 3) := by decide +kernel
theorem dX8_ends_17 : decode cX8_ends 17 = .ok (.aload_n 0, 1) := by decide +kernel
theorem dX8_ends_18 : decode cX8_ends 18 = .ok (.getfield 66, 3) := by decide +kernel
theorem dX8_ends_21 : decode cX8_ends 21 = .ok (.getfield 211, 3) := by decide +kernel
theorem dX8_ends_24 : decode cX8_ends 24 = .ok (.iconst 0, 1) := by decide +kernel
theorem dX8_ends_25 : decode cX8_ends 25 = .ok (.aaload, 1) := by decide +kernel
theorem dX8_ends_26 : decode cX8_ends 26 = .ok (.iload_n 1, 1) := by decide +kernel
theorem dX8_ends_27 : decode cX8_ends 27 = .ok (.iaload, 1) := by decide +kernel
theorem dX8_ends_28 : decode cX8_ends 28 = .ok (.ireturn, 1) := by decide +kernel
theorem dX8_order_0 : decode cX8_order 0 = .ok (.iload_n 1, 1) := by decide +kernel
theorem dX8_order_1 : decode cX8_order 1 = .ok (.iconst (-1), 1) := by decide +kernel
theorem dX8_order_2 : decode cX8_order 2 = .ok (.if_icmp .lt 9, 3) := by decide +kernel
theorem dX8_order_5 : decode cX8_order 5 = .ok (.iload_n 1, 1) := by decide +kernel
theorem dX8_order_6 : decode cX8_order 6 = .ok (.bipush 6, 2) := by decide +kernel
theorem dX8_order_8 : decode cX8_order 8 = .ok (.if_icmp .lt 5, 3) := by decide +kernel
theorem dX8_order_11 : decode cX8_order 11 = .ok (.iconst (-1), 1) := by decide +kernel
theorem dX8_order_12 : decode cX8_order 12 = .ok (.ireturn, 1) := by decide +kernel
theorem dX8_order_13 : decode cX8_order 13 = .ok (.aload_n 0, 1) := by decide +kernel
theorem dX8_order_14 : decode cX8_order 14 = .ok (.getfield 19, 3) := by decide +kernel
theorem dX8_order_17 : decode cX8_order 17 = .ok (.getfield 175, 3) := by decide +kernel
theorem dX8_order_20 : decode cX8_order 20 = .ok (.bipush 6, 2) := by decide +kernel
theorem dX8_order_22 : decode cX8_order 22 = .ok (.if_icmp .le 6, 3) := by decide +kernel
theorem dX8_order_25 : decode cX8_order 25 = .ok (.bipush (-3), 2) := by decide +kernel
theorem dX8_order_27 : decode cX8_order 27 = .ok (.ireturn, 1) := by decide +kernel
theorem dX8_order_28 : decode cX8_order 28 = .ok (.aload_n 0, 1) := by decide +kernel
theorem dX8_order_29 : decode cX8_order 29 = .ok (.getfield 10, 3) := by decide +kernel
theorem dX8_order_32 : decode cX8_order 32 = .ok (.getfield 98, 3) := by decide +kernel
theorem dX8_order_35 : decode cX8_order 35 = .ok (.ifCond .eq 14, 3) := by decide +kernel
theorem dX8_order_38 : decode cX8_order 38 = .ok (.iload_n 1, 1) := by decide +kernel
theorem dX8_order_39 : decode cX8_order 39 = .ok (.aload_n 0, 1) := by decide +kernel
theorem dX8_order_40 : decode cX8_order 40 = .ok (.getfield 19, 3) := by decide +kernel
theorem dX8_order_43 : decode cX8_order 43 = .ok (.getfield 175, 3) := by decide +kernel
theorem dX8_order_46 : decode cX8_order 46 = .ok (.if_icmp .lt 6, 3) := by decide +kernel
theorem dX8_order_49 : decode cX8_order 49 = .ok (.bipush (-4), 2) := by decide +kernel
theorem dX8_order_51 : decode cX8_order 51 = .ok (.ireturn, 1) := by decide +kernel
theorem dX8_order_52 : decode cX8_order 52 = .ok (.aload_n 0, 1) := by decide +kernel
theorem dX8_order_53 : decode cX8_order 53 = .ok (.getfield 91, 3) := by decide +kernel
theorem dX8_order_56 : decode cX8_order 56 = .ok (.ifCond .ne 25, 3) := by decide +kernel
theorem dX8_order_59 : decode cX8_order 59 = .ok (.aload_n 0, 1) := by decide +kernel
theorem dX8_order_60 : decode cX8_order 60 = .ok (.getfield 73, 3) := by decide +kernel
theorem dX8_order_63 : decode cX8_order 63 = .ok (.aload_n 0, 1) := by decide +kernel
theorem dX8_order_64 : decode cX8_order 64 = .ok (.getfield 10, 3) := by decide +kernel
theorem dX8_order_67 : decode cX8_order 67 = .ok (.aload_n 0, 1) := by decide +kernel
theorem dX8_order_68 : decode cX8_order 68 = .ok (.getfield 19, 3) := by decide +kernel
theorem dX8_order_71 : decode cX8_order 71 = .ok (.iconst 0, 1) := by decide +kernel
theorem dX8_order_72 : decode cX8_order 72 = .ok (.iconst 0, 1) := by decide +kernel
theorem dX8_order_73 : decode cX8_order 73 = .ok (.invokevirtual 214, 3) := by decide +kernel
theorem dX8_order_76 : decode cX8_order 76 = .ok (.aload_n 0, 1) := by decide +kernel
theorem dX8_order_77 : decode cX8_order 77 = .ok (.iconst 1, 1) := by decide +kernel
theorem dX8_order_78 : decode cX8_order 78 = .ok (.putfield 91, 3) := by decide +kernel
theorem dX8_order_81 : decode cX8_order 81 = .ok (.iload_n 1, 1) := by decide +kernel
theorem dX8_order_82 : decode cX8_order 82 = .ok (.ifCond .ge 13, 3) := by decide +kernel
theorem dX8_order_85 : decode cX8_order 85 = .ok (.aload_n 0, 1) := by decide +kernel
theorem dX8_order_86 : decode cX8_order 86 = .ok (.getfield 73, 3) := by decide +kernel
theorem dX8_order_89 : decode cX8_order 89 = .ok (.getfield 218, 3) := by decide +kernel
theorem dX8_order_92 : decode cX8_order 92 = .ok (.goto 12, 3) := by decide +kernel
theorem dX8_order_95 : decode cX8_order 95 = .ok (.aload_n 0, 1) := by decide +kernel
theorem dX8_order_96 : decode cX8_order 96 = .ok (.getfield 73, 3) := by decide +kernel
theorem dX8_order_99 : decode cX8_order 99 = .ok (.getfield 221, 3) := by decide +kernel
theorem dX8_order_102 : decode cX8_order 102 = .ok (.iload_n 1, 1) := by decide +kernel
theorem dX8_order_103 : decode cX8_order 103 = .ok (.iaload, 1) := by decide +kernel
theorem dX8_order_104 : decode cX8_order 104 = .ok (.ireturn, 1) := by decide +kernel
theorem dX8_so_0 : decode cX8_so 0 = .ok (.iload_n 1, 1) := by decide +kernel
theorem dX8_so_1 : decode cX8_so 1 = .ok (.ifCond .le 26, 3) := by decide +kernel
theorem dX8_so_4 : decode cX8_so 4 = .ok (.iload_n 1, 1) := by decide +kernel
theorem dX8_so_5 : decode cX8_so 5 = .ok (.iconst 1, 1) := by decide +kernel
theorem dX8_so_6 : decode cX8_so 6 = .ok (.aload_n 0, 1) := by decide +kernel
theorem dX8_so_7 : decode cX8_so 7 = .ok (.getfield 10, 3) := by decide +kernel
theorem dX8_so_10 : decode cX8_so 10 = .ok (.getfield 98, 3) := by decide +kernel
theorem dX8_so_13 : decode cX8_so 13 = .ok (.ishl, 1) := by decide +kernel
theorem dX8_so_14 : decode cX8_so 14 = .ok (.if_icmp .ge 13, 3) := by decide +kernel
theorem dX8_so_17 : decode cX8_so 17 = .ok (.iload_n 2, 1) := by decide +kernel
theorem dX8_so_18 : decode cX8_so 18 = .ok (.ifCond .lt 9, 3) := by decide +kernel
theorem dX8_so_21 : decode cX8_so 21 = .ok (.iload_n 2, 1) := by decide +kernel
theorem dX8_so_22 : decode cX8_so 22 = .ok (.ldc 224, 2) := by decide +kernel
theorem dX8_so_24 : decode cX8_so 24 = .ok (.if_icmp .le 5, 3) := by decide +kernel
theorem dX8_so_27 : decode cX8_so 27 = .ok (.iconst (-1), 1) := by decide +kernel
theorem dX8_so_28 : decode cX8_so 28 = .ok (.ireturn, 1) := by decide +kernel
theorem dX8_so_29 : decode cX8_so 29 = .ok (.aload_n 0, 1) := by decide +kernel
theorem dX8_so_30 : decode cX8_so 30 = .ok (.getfield 19, 3) := by decide +kernel
theorem dX8_so_33 : decode cX8_so 33 = .ok (.getfield 175, 3) := by decide +kernel
theorem dX8_so_36 : decode cX8_so 36 = .ok (.bipush 6, 2) := by decide +kernel
theorem dX8_so_38 : decode cX8_so 38 = .ok (.if_icmp .le 6, 3) := by decide +kernel
theorem dX8_so_41 : decode cX8_so 41 = .ok (.bipush (-3), 2) := by decide +kernel
theorem dX8_so_43 : decode cX8_so 43 = .ok (.ireturn, 1) := by decide +kernel
theorem dX8_so_44 : decode cX8_so 44 = .ok (.aload_n 0, 1) := by decide +kernel
theorem dX8_so_45 : decode cX8_so 45 = .ok (.getfield 73, 3) := by decide +kernel
theorem dX8_so_48 : decode cX8_so 48 = .ok (.aload_n 0, 1) := by decide +kernel
theorem dX8_so_49 : decode cX8_so 49 = .ok (.getfield 10, 3) := by decide +kernel
theorem dX8_so_52 : decode cX8_so 52 = .ok (.aload_n 0, 1) := by decide +kernel
theorem dX8_so_53 : decode cX8_so 53 = .ok (.getfield 19, 3) := by decide +kernel
theorem dX8_so_56 : decode cX8_so 56 = .ok (.iload_n 1, 1) := by decide +kernel
theorem dX8_so_57 : decode cX8_so 57 = .ok (.iload_n 2, 1) := by decide +kernel
theorem dX8_so_58 : decode cX8_so 58 = .ok (.invokevirtual 214, 3) := by decide +kernel
theorem dX8_so_61 : decode cX8_so 61 = .ok (.aload_n 0, 1) := by decide +kernel
theorem dX8_so_62 : decode cX8_so 62 = .ok (.iconst 1, 1) := by decide +kernel
theorem dX8_so_63 : decode cX8_so 63 = .ok (.putfield 91, 3) := by decide +kernel
theorem dX8_so_66 : decode cX8_so 66 = .ok (.aload_n 0, 1) := by decide +kernel
theorem dX8_so_67 : decode cX8_so 67 = .ok (.getfield 73, 3) := by decide +kernel
theorem dX8_so_70 : decode cX8_so 70 = .ok (.getfield 225, 3) := by decide +kernel
theorem dX8_so_73 : decode cX8_so 73 = .ok (.ireturn, 1) := by decide +kernel
set_option maxRecDepth 20000 in
theorem ggX8_exact_X0_has : GoodIn wsX8_exact wsX0_has := goodIn_r _ [9, 10, 43, 44, 45, 46, 47] (by decide +kernel) (by decide +kernel)
set_option maxRecDepth 20000 in
theorem gX8_exact_X0_has : GoodIn wsX8_exact (wsV RX8 108 RX0 yX0_has wsX0_has) := goodIn_app (goodIn_of _ (by decide +kernel)) ggX8_exact_X0_has
theorem dX8_exact_0 : decode cX8_exact 0 = .ok (.aload_n 0, 1) := by decide +kernel
theorem dX8_exact_1 : decode cX8_exact 1 = .ok (.getfield 10, 3) := by decide +kernel
theorem dX8_exact_4 : decode cX8_exact 4 = .ok (.iload_n 1, 1) := by decide +kernel
theorem dX8_exact_5 : decode cX8_exact 5 = .ok (.invokevirtual 108, 3) := by decide +kernel
theorem dX8_exact_8 : decode cX8_exact 8 = .ok (.ifCond .eq 22, 3) := by decide +kernel
theorem dX8_exact_11 : decode cX8_exact 11 = .ok (.iload_n 2, 1) := by decide +kernel
theorem dX8_exact_12 : decode cX8_exact 12 = .ok (.iconst 1, 1) := by decide +kernel
theorem dX8_exact_13 : decode cX8_exact 13 = .ok (.if_icmp .lt 17, 3) := by decide +kernel
theorem dX8_exact_16 : decode cX8_exact 16 = .ok (.iload_n 2, 1) := by decide +kernel
theorem dX8_exact_17 : decode cX8_exact 17 = .ok (.iconst 3, 1) := by decide +kernel
theorem dX8_exact_18 : decode cX8_exact 18 = .ok (.if_icmp .gt 12, 3) := by decide +kernel
theorem dX8_exact_21 : decode cX8_exact 21 = .ok (.iload_n 3, 1) := by decide +kernel
theorem dX8_exact_22 : decode cX8_exact 22 = .ok (.ifCond .lt 8, 3) := by decide +kernel
theorem dX8_exact_25 : decode cX8_exact 25 = .ok (.iload_n 3, 1) := by decide +kernel
theorem dX8_exact_26 : decode cX8_exact 26 = .ok (.iconst 1, 1) := by decide +kernel
theorem dX8_exact_27 : decode cX8_exact 27 = .ok (.if_icmp .le 7, 3) := by decide +kernel
theorem dX8_exact_30 : decode cX8_exact 30 = .ok (.ldc2_w 228, 3) := by decide +kernel
theorem dX8_exact_33 : decode cX8_exact 33 = .ok (.lreturn, 1) := by decide +kernel
theorem dX8_exact_34 : decode cX8_exact 34 = .ok (.bipush 24, 2) := by decide +kernel
theorem dX8_exact_36 : decode cX8_exact 36 = .ok (.istore 4, 2) := by decide +kernel
theorem dX8_exact_38 : decode cX8_exact 38 = .ok (.aload_n 0, 1) := by decide +kernel
theorem dX8_exact_39 : decode cX8_exact 39 = .ok (.iload_n 2, 1) := by decide +kernel
theorem dX8_exact_40 : decode cX8_exact 40 = .ok (.iload 4, 2) := by decide +kernel
theorem dX8_exact_42 : decode cX8_exact 42 = .ok (.invokevirtual 230, 3) := by decide +kernel
theorem dX8_exact_45 : decode cX8_exact 45 = .ok (.aload_n 0, 1) := by decide +kernel
theorem dX8_exact_46 : decode cX8_exact 46 = .ok (.getfield 52, 3) := by decide +kernel
theorem dX8_exact_49 : decode cX8_exact 49 = .ok (.iload_n 1, 1) := by decide +kernel
theorem dX8_exact_50 : decode cX8_exact 50 = .ok (.laload, 1) := by decide +kernel
theorem dX8_exact_51 : decode cX8_exact 51 = .ok (.lstore 5, 2) := by decide +kernel
theorem dX8_exact_53 : decode cX8_exact 53 = .ok (.lconst 1, 1) := by decide +kernel
theorem dX8_exact_54 : decode cX8_exact 54 = .ok (.iload 4, 2) := by decide +kernel
theorem dX8_exact_56 : decode cX8_exact 56 = .ok (.lshl, 1) := by decide +kernel
theorem dX8_exact_57 : decode cX8_exact 57 = .ok (.lstore 7, 2) := by decide +kernel
theorem dX8_exact_59 : decode cX8_exact 59 = .ok (.iconst 0, 1) := by decide +kernel
theorem dX8_exact_60 : decode cX8_exact 60 = .ok (.istore 9, 2) := by decide +kernel
theorem dX8_exact_62 : decode cX8_exact 62 = .ok (.iload 9, 2) := by decide +kernel
theorem dX8_exact_64 : decode cX8_exact 64 = .ok (.iload 4, 2) := by decide +kernel
theorem dX8_exact_66 : decode cX8_exact 66 = .ok (.if_icmp .ge 36, 3) := by decide +kernel
theorem dX8_exact_69 : decode cX8_exact 69 = .ok (.lload 5, 2) := by decide +kernel
theorem dX8_exact_71 : decode cX8_exact 71 = .ok (.ldc2_w 233, 3) := by decide +kernel
theorem dX8_exact_74 : decode cX8_exact 74 = .ok (.lrem, 1) := by decide +kernel
theorem dX8_exact_75 : decode cX8_exact 75 = .ok (.lconst 0, 1) := by decide +kernel
theorem dX8_exact_76 : decode cX8_exact 76 = .ok (.lcmp, 1) := by decide +kernel
theorem dX8_exact_77 : decode cX8_exact 77 = .ok (.ifCond .ne 25, 3) := by decide +kernel
theorem dX8_exact_80 : decode cX8_exact 80 = .ok (.lload 5, 2) := by decide +kernel
theorem dX8_exact_82 : decode cX8_exact 82 = .ok (.ldc2_w 233, 3) := by decide +kernel
theorem dX8_exact_85 : decode cX8_exact 85 = .ok (.ldiv, 1) := by decide +kernel
theorem dX8_exact_86 : decode cX8_exact 86 = .ok (.lstore 5, 2) := by decide +kernel
theorem dX8_exact_88 : decode cX8_exact 88 = .ok (.lload 7, 2) := by decide +kernel
theorem dX8_exact_90 : decode cX8_exact 90 = .ok (.ldc2_w 233, 3) := by decide +kernel
theorem dX8_exact_93 : decode cX8_exact 93 = .ok (.ldiv, 1) := by decide +kernel
theorem dX8_exact_94 : decode cX8_exact 94 = .ok (.lstore 7, 2) := by decide +kernel
theorem dX8_exact_96 : decode cX8_exact 96 = .ok (.iinc 9 1, 3) := by decide +kernel
theorem dX8_exact_99 : decode cX8_exact 99 = .ok (.goto (-37), 3) := by decide +kernel
theorem dX8_exact_102 : decode cX8_exact 102 = .ok (.iload_n 3, 1) := by decide +kernel
theorem dX8_exact_103 : decode cX8_exact 103 = .ok (.ifCond .ne 8, 3) := by decide +kernel
theorem dX8_exact_106 : decode cX8_exact 106 = .ok (.lload 5, 2) := by decide +kernel
theorem dX8_exact_108 : decode cX8_exact 108 = .ok (.goto 5, 3) := by decide +kernel
theorem dX8_exact_111 : decode cX8_exact 111 = .ok (.lload 7, 2) := by decide +kernel
theorem dX8_exact_113 : decode cX8_exact 113 = .ok (.lreturn, 1) := by decide +kernel
set_option maxRecDepth 20000 in
theorem ggX8_shun_X0_has : GoodIn wsX8_shun wsX0_has := goodIn_r _ [7, 8, 78, 79, 80, 81, 82] (by decide +kernel) (by decide +kernel)
set_option maxRecDepth 20000 in
theorem gX8_shun_X0_has : GoodIn wsX8_shun (wsV RX8 108 RX0 yX0_has wsX0_has) := goodIn_app (goodIn_of _ (by decide +kernel)) ggX8_shun_X0_has
theorem dX8_shun_0 : decode cX8_shun 0 = .ok (.aload_n 0, 1) := by decide +kernel
theorem dX8_shun_1 : decode cX8_shun 1 = .ok (.getfield 10, 3) := by decide +kernel
theorem dX8_shun_4 : decode cX8_shun 4 = .ok (.iload_n 1, 1) := by decide +kernel
theorem dX8_shun_5 : decode cX8_shun 5 = .ok (.invokevirtual 108, 3) := by decide +kernel
theorem dX8_shun_8 : decode cX8_shun 8 = .ok (.ifCond .ne 5, 3) := by decide +kernel
theorem dX8_shun_11 : decode cX8_shun 11 = .ok (.iconst (-1), 1) := by decide +kernel
theorem dX8_shun_12 : decode cX8_shun 12 = .ok (.ireturn, 1) := by decide +kernel
theorem dX8_shun_13 : decode cX8_shun 13 = .ok (.aload_n 0, 1) := by decide +kernel
theorem dX8_shun_14 : decode cX8_shun 14 = .ok (.bipush 9, 2) := by decide +kernel
theorem dX8_shun_16 : decode cX8_shun 16 = .ok (.iload_n 1, 1) := by decide +kernel
theorem dX8_shun_17 : decode cX8_shun 17 = .ok (.invokevirtual 235, 3) := by decide +kernel
theorem dX8_shun_20 : decode cX8_shun 20 = .ok (.istore_n 2, 1) := by decide +kernel
theorem dX8_shun_21 : decode cX8_shun 21 = .ok (.bipush 9, 2) := by decide +kernel
theorem dX8_shun_23 : decode cX8_shun 23 = .ok (.istore_n 3, 1) := by decide +kernel
theorem dX8_shun_24 : decode cX8_shun 24 = .ok (.iconst 0, 1) := by decide +kernel
theorem dX8_shun_25 : decode cX8_shun 25 = .ok (.istore 4, 2) := by decide +kernel
theorem dX8_shun_27 : decode cX8_shun 27 = .ok (.iload 4, 2) := by decide +kernel
theorem dX8_shun_29 : decode cX8_shun 29 = .ok (.aload_n 0, 1) := by decide +kernel
theorem dX8_shun_30 : decode cX8_shun 30 = .ok (.getfield 10, 3) := by decide +kernel
theorem dX8_shun_33 : decode cX8_shun 33 = .ok (.getfield 98, 3) := by decide +kernel
theorem dX8_shun_36 : decode cX8_shun 36 = .ok (.if_icmp .ge 40, 3) := by decide +kernel
theorem dX8_shun_39 : decode cX8_shun 39 = .ok (.iload 4, 2) := by decide +kernel
theorem dX8_shun_41 : decode cX8_shun 41 = .ok (.iload_n 1, 1) := by decide +kernel
theorem dX8_shun_42 : decode cX8_shun 42 = .ok (.if_icmp .ne 7, 3) := by decide +kernel
theorem dX8_shun_45 : decode cX8_shun 45 = .ok (.iload_n 2, 1) := by decide +kernel
theorem dX8_shun_46 : decode cX8_shun 46 = .ok (.goto 10, 3) := by decide +kernel
theorem dX8_shun_49 : decode cX8_shun 49 = .ok (.aload_n 0, 1) := by decide +kernel
theorem dX8_shun_50 : decode cX8_shun 50 = .ok (.iload 4, 2) := by decide +kernel
theorem dX8_shun_52 : decode cX8_shun 52 = .ok (.iload_n 1, 1) := by decide +kernel
theorem dX8_shun_53 : decode cX8_shun 53 = .ok (.invokevirtual 235, 3) := by decide +kernel
theorem dX8_shun_56 : decode cX8_shun 56 = .ok (.istore 5, 2) := by decide +kernel
theorem dX8_shun_58 : decode cX8_shun 58 = .ok (.iload 5, 2) := by decide +kernel
theorem dX8_shun_60 : decode cX8_shun 60 = .ok (.iload_n 2, 1) := by decide +kernel
theorem dX8_shun_61 : decode cX8_shun 61 = .ok (.if_icmp .le 9, 3) := by decide +kernel
theorem dX8_shun_64 : decode cX8_shun 64 = .ok (.iload 5, 2) := by decide +kernel
theorem dX8_shun_66 : decode cX8_shun 66 = .ok (.istore_n 2, 1) := by decide +kernel
theorem dX8_shun_67 : decode cX8_shun 67 = .ok (.iload 4, 2) := by decide +kernel
theorem dX8_shun_69 : decode cX8_shun 69 = .ok (.istore_n 3, 1) := by decide +kernel
theorem dX8_shun_70 : decode cX8_shun 70 = .ok (.iinc 4 1, 3) := by decide +kernel
theorem dX8_shun_73 : decode cX8_shun 73 = .ok (.goto (-46), 3) := by decide +kernel
theorem dX8_shun_76 : decode cX8_shun 76 = .ok (.iload_n 3, 1) := by decide +kernel
theorem dX8_shun_77 : decode cX8_shun 77 = .ok (.ireturn, 1) := by decide +kernel
set_option maxRecDepth 20000 in
theorem ggX8_image_X0_takeFrom : GoodIn wsX8_image wsX0_takeFrom := goodIn_r _ [10, 11, 12, 13, 14, 15, 16, 17, 18, 19, 47, 48, 49, 50, 51] (by decide +kernel) (by decide +kernel)
set_option maxRecDepth 20000 in
theorem gX8_image_X0_takeFrom : GoodIn wsX8_image (wsV RX8 158 RX0 yX0_takeFrom wsX0_takeFrom) := goodIn_app (goodIn_of _ (by decide +kernel)) ggX8_image_X0_takeFrom
set_option maxRecDepth 20000 in
theorem ggX8_image_X2_takeFrom : GoodIn wsX8_image wsX2_takeFrom := goodIn_r _ [24, 25, 26, 27, 28, 16, 17, 18, 29, 52, 53, 54, 55] (by decide +kernel) (by decide +kernel)
set_option maxRecDepth 20000 in
theorem gX8_image_X2_takeFrom : GoodIn wsX8_image (wsV RX8 169 RX2 yX2_takeFrom wsX2_takeFrom) := goodIn_app (goodIn_of _ (by decide +kernel)) ggX8_image_X2_takeFrom
theorem dX8_image_0 : decode cX8_image 0 = .ok (.aload_n 0, 1) := by decide +kernel
theorem dX8_image_1 : decode cX8_image 1 = .ok (.getfield 30, 3) := by decide +kernel
theorem dX8_image_4 : decode cX8_image 4 = .ok (.aload_n 0, 1) := by decide +kernel
theorem dX8_image_5 : decode cX8_image 5 = .ok (.getfield 10, 3) := by decide +kernel
theorem dX8_image_8 : decode cX8_image 8 = .ok (.invokevirtual 158, 3) := by decide +kernel
theorem dX8_image_11 : decode cX8_image 11 = .ok (.aload_n 0, 1) := by decide +kernel
theorem dX8_image_12 : decode cX8_image 12 = .ok (.getfield 33, 3) := by decide +kernel
theorem dX8_image_15 : decode cX8_image 15 = .ok (.aload_n 0, 1) := by decide +kernel
theorem dX8_image_16 : decode cX8_image 16 = .ok (.getfield 19, 3) := by decide +kernel
theorem dX8_image_19 : decode cX8_image 19 = .ok (.invokevirtual 169, 3) := by decide +kernel
theorem dX8_image_22 : decode cX8_image 22 = .ok (.aload_n 0, 1) := by decide +kernel
theorem dX8_image_23 : decode cX8_image 23 = .ok (.iconst 1, 1) := by decide +kernel
theorem dX8_image_24 : decode cX8_image 24 = .ok (.putfield 36, 3) := by decide +kernel
theorem dX8_image_27 : decode cX8_image 27 = .ok (.iconst 1, 1) := by decide +kernel
theorem dX8_image_28 : decode cX8_image 28 = .ok (.ireturn, 1) := by decide +kernel
set_option maxRecDepth 20000 in
theorem ggX8_restore_X8_forgetFound : GoodIn wsX8_restore wsX8_forgetFound := goodIn_r _ [10, 11, 12, 13, 38, 39, 40, 41, 42, 43, 44, 45, 46, 47, 48, 49, 50, 51, 52, 53, 54] (by decide +kernel) (by decide +kernel)
set_option maxRecDepth 20000 in
theorem gX8_restore_X8_forgetFound : GoodIn wsX8_restore (wsV RX8 101 RX8 yX8_forgetFound wsX8_forgetFound) := goodIn_app (goodIn_of _ (by decide +kernel)) ggX8_restore_X8_forgetFound
set_option maxRecDepth 20000 in
theorem ggX8_restore_X0_takeFrom : GoodIn wsX8_restore wsX0_takeFrom := goodIn_r _ [18, 19, 20, 21, 22, 23, 24, 25, 26, 27, 55, 56, 57, 58, 59] (by decide +kernel) (by decide +kernel)
set_option maxRecDepth 20000 in
theorem gX8_restore_X0_takeFrom : GoodIn wsX8_restore (wsV RX8 158 RX0 yX0_takeFrom wsX0_takeFrom) := goodIn_app (goodIn_of _ (by decide +kernel)) ggX8_restore_X0_takeFrom
set_option maxRecDepth 20000 in
theorem ggX8_restore_X2_takeFrom : GoodIn wsX8_restore wsX2_takeFrom := goodIn_r _ [32, 33, 34, 35, 36, 24, 25, 26, 37, 60, 61, 62, 63] (by decide +kernel) (by decide +kernel)
set_option maxRecDepth 20000 in
theorem gX8_restore_X2_takeFrom : GoodIn wsX8_restore (wsV RX8 169 RX2 yX2_takeFrom wsX2_takeFrom) := goodIn_app (goodIn_of _ (by decide +kernel)) ggX8_restore_X2_takeFrom
theorem dX8_restore_0 : decode cX8_restore 0 = .ok (.aload_n 0, 1) := by decide +kernel
theorem dX8_restore_1 : decode cX8_restore 1 = .ok (.getfield 36, 3) := by decide +kernel
theorem dX8_restore_4 : decode cX8_restore 4 = .ok (.ifCond .ne 6, 3) := by decide +kernel
theorem dX8_restore_7 : decode cX8_restore 7 = .ok (.bipush (-4), 2) := by decide +kernel
theorem dX8_restore_9 : decode cX8_restore 9 = .ok (.ireturn, 1) := by decide +kernel
theorem dX8_restore_10 : decode cX8_restore 10 = .ok (.aload_n 0, 1) := by decide +kernel
theorem dX8_restore_11 : decode cX8_restore 11 = .ok (.invokevirtual 101, 3) := by decide +kernel
theorem dX8_restore_14 : decode cX8_restore 14 = .ok (.aload_n 0, 1) := by decide +kernel
theorem dX8_restore_15 : decode cX8_restore 15 = .ok (.getfield 10, 3) := by decide +kernel
theorem dX8_restore_18 : decode cX8_restore 18 = .ok (.aload_n 0, 1) := by decide +kernel
theorem dX8_restore_19 : decode cX8_restore 19 = .ok (.getfield 30, 3) := by decide +kernel
theorem dX8_restore_22 : decode cX8_restore 22 = .ok (.invokevirtual 158, 3) := by decide +kernel
theorem dX8_restore_25 : decode cX8_restore 25 = .ok (.aload_n 0, 1) := by decide +kernel
theorem dX8_restore_26 : decode cX8_restore 26 = .ok (.getfield 19, 3) := by decide +kernel
theorem dX8_restore_29 : decode cX8_restore 29 = .ok (.aload_n 0, 1) := by decide +kernel
theorem dX8_restore_30 : decode cX8_restore 30 = .ok (.getfield 33, 3) := by decide +kernel
theorem dX8_restore_33 : decode cX8_restore 33 = .ok (.invokevirtual 169, 3) := by decide +kernel
theorem dX8_restore_36 : decode cX8_restore 36 = .ok (.iconst 1, 1) := by decide +kernel
theorem dX8_restore_37 : decode cX8_restore 37 = .ok (.ireturn, 1) := by decide +kernel
set_option maxRecDepth 20000 in
theorem ggX8_who_X8_isSheet : GoodIn wsX8_who wsX8_isSheet := goodIn_r _ [10] (by decide +kernel) (by decide +kernel)
set_option maxRecDepth 20000 in
theorem gX8_who_X8_isSheet : GoodIn wsX8_who (va_wsS RX8 238 yX8_isSheet wsX8_isSheet) := goodIn_app (goodIn_of _ (by decide +kernel)) ggX8_who_X8_isSheet
set_option maxRecDepth 20000 in
theorem ggX8_who_X8_isLane : GoodIn wsX8_who wsX8_isLane := goodIn_r _ [13] (by decide +kernel) (by decide +kernel)
set_option maxRecDepth 20000 in
theorem gX8_who_X8_isLane : GoodIn wsX8_who (va_wsS RX8 241 yX8_isLane wsX8_isLane) := goodIn_app (goodIn_of _ (by decide +kernel)) ggX8_who_X8_isLane
theorem dX8_who_0 : decode cX8_who 0 = .ok (.iload_n 1, 1) := by decide +kernel
theorem dX8_who_1 : decode cX8_who 1 = .ok (.invokestatic 238, 3) := by decide +kernel
theorem dX8_who_4 : decode cX8_who 4 = .ok (.ifCond .eq 35, 3) := by decide +kernel
theorem dX8_who_7 : decode cX8_who 7 = .ok (.iload_n 2, 1) := by decide +kernel
theorem dX8_who_8 : decode cX8_who 8 = .ok (.invokestatic 241, 3) := by decide +kernel
theorem dX8_who_11 : decode cX8_who 11 = .ok (.ifCond .eq 28, 3) := by decide +kernel
theorem dX8_who_14 : decode cX8_who 14 = .ok (.iload 4, 2) := by decide +kernel
theorem dX8_who_16 : decode cX8_who 16 = .ok (.iconst 1, 1) := by decide +kernel
theorem dX8_who_17 : decode cX8_who 17 = .ok (.if_icmp .lt 22, 3) := by decide +kernel
theorem dX8_who_20 : decode cX8_who 20 = .ok (.iload 4, 2) := by decide +kernel
theorem dX8_who_22 : decode cX8_who 22 = .ok (.iconst 3, 1) := by decide +kernel
theorem dX8_who_23 : decode cX8_who 23 = .ok (.if_icmp .gt 16, 3) := by decide +kernel
theorem dX8_who_26 : decode cX8_who 26 = .ok (.iload 5, 2) := by decide +kernel
theorem dX8_who_28 : decode cX8_who 28 = .ok (.iconst (-1), 1) := by decide +kernel
theorem dX8_who_29 : decode cX8_who 29 = .ok (.if_icmp .lt 10, 3) := by decide +kernel
theorem dX8_who_32 : decode cX8_who 32 = .ok (.iload 5, 2) := by decide +kernel
theorem dX8_who_34 : decode cX8_who 34 = .ok (.iload 4, 2) := by decide +kernel
theorem dX8_who_36 : decode cX8_who 36 = .ok (.if_icmp .lt 5, 3) := by decide +kernel
theorem dX8_who_39 : decode cX8_who 39 = .ok (.iconst (-1), 1) := by decide +kernel
theorem dX8_who_40 : decode cX8_who 40 = .ok (.ireturn, 1) := by decide +kernel
theorem dX8_who_41 : decode cX8_who 41 = .ok (.aload_n 0, 1) := by decide +kernel
theorem dX8_who_42 : decode cX8_who 42 = .ok (.getfield 42, 3) := by decide +kernel
theorem dX8_who_45 : decode cX8_who 45 = .ok (.iload_n 1, 1) := by decide +kernel
theorem dX8_who_46 : decode cX8_who 46 = .ok (.aaload, 1) := by decide +kernel
theorem dX8_who_47 : decode cX8_who 47 = .ok (.astore 6, 2) := by decide +kernel
theorem dX8_who_49 : decode cX8_who 49 = .ok (.aload 6, 2) := by decide +kernel
theorem dX8_who_51 : decode cX8_who 51 = .ok (.ifnonnull 6, 3) := by decide +kernel
theorem dX8_who_54 : decode cX8_who 54 = .ok (.bipush (-11), 2) := by decide +kernel
theorem dX8_who_56 : decode cX8_who 56 = .ok (.ireturn, 1) := by decide +kernel
theorem dX8_who_57 : decode cX8_who 57 = .ok (.aload 6, 2) := by decide +kernel
theorem dX8_who_59 : decode cX8_who 59 = .ok (.iload_n 2, 1) := by decide +kernel
theorem dX8_who_60 : decode cX8_who 60 = .ok (.iload_n 3, 1) := by decide +kernel
theorem dX8_who_61 : decode cX8_who 61 = .ok (.iconst 2, 1) := by decide +kernel
theorem dX8_who_62 : decode cX8_who 62 = .ok (.aload_n 0, 1) := by decide +kernel
theorem dX8_who_63 : decode cX8_who 63 = .ok (.getfield 10, 3) := by decide +kernel
theorem dX8_who_66 : decode cX8_who 66 = .ok (.getfield 98, 3) := by decide +kernel
theorem dX8_who_69 : decode cX8_who 69 = .ok (.imul, 1) := by decide +kernel
theorem dX8_who_70 : decode cX8_who 70 = .ok (.invokevirtual 244, 3) := by decide +kernel
theorem dX8_who_73 : decode cX8_who 73 = .ok (.istore 7, 2) := by decide +kernel
theorem dX8_who_75 : decode cX8_who 75 = .ok (.iload 7, 2) := by decide +kernel
theorem dX8_who_77 : decode cX8_who 77 = .ok (.ifCond .eq 6, 3) := by decide +kernel
theorem dX8_who_80 : decode cX8_who 80 = .ok (.iload 7, 2) := by decide +kernel
theorem dX8_who_82 : decode cX8_who 82 = .ok (.ireturn, 1) := by decide +kernel
theorem dX8_who_83 : decode cX8_who 83 = .ok (.aload 6, 2) := by decide +kernel
theorem dX8_who_85 : decode cX8_who 85 = .ok (.iload_n 3, 1) := by decide +kernel
theorem dX8_who_86 : decode cX8_who 86 = .ok (.iconst 2, 1) := by decide +kernel
theorem dX8_who_87 : decode cX8_who 87 = .ok (.aload_n 0, 1) := by decide +kernel
theorem dX8_who_88 : decode cX8_who 88 = .ok (.getfield 10, 3) := by decide +kernel
theorem dX8_who_91 : decode cX8_who 91 = .ok (.getfield 98, 3) := by decide +kernel
theorem dX8_who_94 : decode cX8_who 94 = .ok (.imul, 1) := by decide +kernel
theorem dX8_who_95 : decode cX8_who 95 = .ok (.invokevirtual 248, 3) := by decide +kernel
theorem dX8_who_98 : decode cX8_who 98 = .ok (.ifCond .ne 6, 3) := by decide +kernel
theorem dX8_who_101 : decode cX8_who 101 = .ok (.bipush (-2), 2) := by decide +kernel
theorem dX8_who_103 : decode cX8_who 103 = .ok (.ireturn, 1) := by decide +kernel
theorem dX8_who_104 : decode cX8_who 104 = .ok (.aload_n 0, 1) := by decide +kernel
theorem dX8_who_105 : decode cX8_who 105 = .ok (.getfield 80, 3) := by decide +kernel
theorem dX8_who_108 : decode cX8_who 108 = .ok (.aload_n 0, 1) := by decide +kernel
theorem dX8_who_109 : decode cX8_who 109 = .ok (.getfield 10, 3) := by decide +kernel
theorem dX8_who_112 : decode cX8_who 112 = .ok (.aload 6, 2) := by decide +kernel
theorem dX8_who_114 : decode cX8_who 114 = .ok (.iload_n 3, 1) := by decide +kernel
theorem dX8_who_115 : decode cX8_who 115 = .ok (.iload 4, 2) := by decide +kernel
theorem dX8_who_117 : decode cX8_who 117 = .ok (.invokevirtual 251, 3) := by decide +kernel
theorem dX8_who_120 : decode cX8_who 120 = .ok (.aload_n 0, 1) := by decide +kernel
theorem dX8_who_121 : decode cX8_who 121 = .ok (.getfield 80, 3) := by decide +kernel
theorem dX8_who_124 : decode cX8_who 124 = .ok (.getfield 254, 3) := by decide +kernel
theorem dX8_who_127 : decode cX8_who 127 = .ok (.ifCond .ne 6, 3) := by decide +kernel
theorem dX8_who_130 : decode cX8_who 130 = .ok (.bipush (-4), 2) := by decide +kernel
theorem dX8_who_132 : decode cX8_who 132 = .ok (.ireturn, 1) := by decide +kernel
theorem dX8_who_133 : decode cX8_who 133 = .ok (.iload 5, 2) := by decide +kernel
theorem dX8_who_135 : decode cX8_who 135 = .ok (.ifCond .ge 13, 3) := by decide +kernel
theorem dX8_who_138 : decode cX8_who 138 = .ok (.aload_n 0, 1) := by decide +kernel
theorem dX8_who_139 : decode cX8_who 139 = .ok (.getfield 80, 3) := by decide +kernel
theorem dX8_who_142 : decode cX8_who 142 = .ok (.getfield 254, 3) := by decide +kernel
theorem dX8_who_145 : decode cX8_who 145 = .ok (.goto 13, 3) := by decide +kernel
theorem dX8_who_148 : decode cX8_who 148 = .ok (.aload_n 0, 1) := by decide +kernel
theorem dX8_who_149 : decode cX8_who 149 = .ok (.getfield 80, 3) := by decide +kernel
theorem dX8_who_152 : decode cX8_who 152 = .ok (.getfield 257, 3) := by decide +kernel
theorem dX8_who_155 : decode cX8_who 155 = .ok (.iload 5, 2) := by decide +kernel
theorem dX8_who_157 : decode cX8_who 157 = .ok (.iaload, 1) := by decide +kernel
theorem dX8_who_158 : decode cX8_who 158 = .ok (.ireturn, 1) := by decide +kernel
set_option maxRecDepth 20000 in
theorem ggX8_sheet_X8_isSheet : GoodIn wsX8_sheet wsX8_isSheet := goodIn_r _ [8] (by decide +kernel) (by decide +kernel)
set_option maxRecDepth 20000 in
theorem gX8_sheet_X8_isSheet : GoodIn wsX8_sheet (va_wsS RX8 238 yX8_isSheet wsX8_isSheet) := goodIn_app (goodIn_of _ (by decide +kernel)) ggX8_sheet_X8_isSheet
set_option maxRecDepth 20000 in
theorem ggX8_sheet_X8_isLane : GoodIn wsX8_sheet wsX8_isLane := goodIn_r _ [11] (by decide +kernel) (by decide +kernel)
set_option maxRecDepth 20000 in
theorem gX8_sheet_X8_isLane : GoodIn wsX8_sheet (va_wsS RX8 241 yX8_isLane wsX8_isLane) := goodIn_app (goodIn_of _ (by decide +kernel)) ggX8_sheet_X8_isLane
set_option maxRecDepth 20000 in
theorem ggX8_sheet_X4_init : GoodIn wsX8_sheet wsX4_init := goodIn_r _ [14, 15, 16, 17, 18, 19, 20, 21, 22, 23, 24, 25, 26, 27, 45, 46] (by decide +kernel) (by decide +kernel)
set_option maxRecDepth 20000 in
theorem gX8_sheet_X4_init : GoodIn wsX8_sheet (wsX4_init) := ggX8_sheet_X4_init
theorem dX8_sheet_0 : decode cX8_sheet 0 = .ok (.iload_n 1, 1) := by decide +kernel
theorem dX8_sheet_1 : decode cX8_sheet 1 = .ok (.invokestatic 238, 3) := by decide +kernel
theorem dX8_sheet_4 : decode cX8_sheet 4 = .ok (.ifCond .eq 16, 3) := by decide +kernel
theorem dX8_sheet_7 : decode cX8_sheet 7 = .ok (.iload_n 2, 1) := by decide +kernel
theorem dX8_sheet_8 : decode cX8_sheet 8 = .ok (.invokestatic 241, 3) := by decide +kernel
theorem dX8_sheet_11 : decode cX8_sheet 11 = .ok (.ifCond .eq 9, 3) := by decide +kernel
theorem dX8_sheet_14 : decode cX8_sheet 14 = .ok (.iload_n 3, 1) := by decide +kernel
theorem dX8_sheet_15 : decode cX8_sheet 15 = .ok (.bipush 24, 2) := by decide +kernel
theorem dX8_sheet_17 : decode cX8_sheet 17 = .ok (.if_icmp .le 5, 3) := by decide +kernel
theorem dX8_sheet_20 : decode cX8_sheet 20 = .ok (.iconst (-1), 1) := by decide +kernel
theorem dX8_sheet_21 : decode cX8_sheet 21 = .ok (.ireturn, 1) := by decide +kernel
theorem dX8_sheet_22 : decode cX8_sheet 22 = .ok (.iload_n 3, 1) := by decide +kernel
theorem dX8_sheet_23 : decode cX8_sheet 23 = .ok (.ifCond .ge 6, 3) := by decide +kernel
theorem dX8_sheet_26 : decode cX8_sheet 26 = .ok (.bipush (-14), 2) := by decide +kernel
theorem dX8_sheet_28 : decode cX8_sheet 28 = .ok (.ireturn, 1) := by decide +kernel
theorem dX8_sheet_29 : decode cX8_sheet 29 = .ok (.aload_n 0, 1) := by decide +kernel
theorem dX8_sheet_30 : decode cX8_sheet 30 = .ok (.getfield 42, 3) := by decide +kernel
theorem dX8_sheet_33 : decode cX8_sheet 33 = .ok (.iload_n 1, 1) := by decide +kernel
theorem dX8_sheet_34 : decode cX8_sheet 34 = .ok (.new 40, 3) := by decide +kernel
theorem dX8_sheet_37 : decode cX8_sheet 37 = .ok (.dup, 1) := by decide +kernel
theorem dX8_sheet_38 : decode cX8_sheet 38 = .ok (.iload_n 2, 1) := by decide +kernel
theorem dX8_sheet_39 : decode cX8_sheet 39 = .ok (.iload_n 3, 1) := by decide +kernel
theorem dX8_sheet_40 : decode cX8_sheet 40 = .ok (.invokespecial 258, 3) := by decide +kernel
theorem dX8_sheet_43 : decode cX8_sheet 43 = .ok (.aastore, 1) := by decide +kernel
theorem dX8_sheet_44 : decode cX8_sheet 44 = .ok (.iload_n 3, 1) := by decide +kernel
theorem dX8_sheet_45 : decode cX8_sheet 45 = .ok (.ireturn, 1) := by decide +kernel
set_option maxRecDepth 20000 in
theorem ggX8_drop_X8_isSheet : GoodIn wsX8_drop wsX8_isSheet := goodIn_r _ [6] (by decide +kernel) (by decide +kernel)
set_option maxRecDepth 20000 in
theorem gX8_drop_X8_isSheet : GoodIn wsX8_drop (va_wsS RX8 238 yX8_isSheet wsX8_isSheet) := goodIn_app (goodIn_of _ (by decide +kernel)) ggX8_drop_X8_isSheet
theorem dX8_drop_0 : decode cX8_drop 0 = .ok (.iload_n 1, 1) := by decide +kernel
theorem dX8_drop_1 : decode cX8_drop 1 = .ok (.invokestatic 238, 3) := by decide +kernel
theorem dX8_drop_4 : decode cX8_drop 4 = .ok (.ifCond .ne 5, 3) := by decide +kernel
theorem dX8_drop_7 : decode cX8_drop 7 = .ok (.iconst (-1), 1) := by decide +kernel
theorem dX8_drop_8 : decode cX8_drop 8 = .ok (.ireturn, 1) := by decide +kernel
theorem dX8_drop_9 : decode cX8_drop 9 = .ok (.aload_n 0, 1) := by decide +kernel
theorem dX8_drop_10 : decode cX8_drop 10 = .ok (.getfield 42, 3) := by decide +kernel
theorem dX8_drop_13 : decode cX8_drop 13 = .ok (.iload_n 1, 1) := by decide +kernel
theorem dX8_drop_14 : decode cX8_drop 14 = .ok (.aaload, 1) := by decide +kernel
theorem dX8_drop_15 : decode cX8_drop 15 = .ok (.astore_n 2, 1) := by decide +kernel
theorem dX8_drop_16 : decode cX8_drop 16 = .ok (.aload_n 2, 1) := by decide +kernel
theorem dX8_drop_17 : decode cX8_drop 17 = .ok (.ifnonnull 6, 3) := by decide +kernel
theorem dX8_drop_20 : decode cX8_drop 20 = .ok (.bipush (-11), 2) := by decide +kernel
theorem dX8_drop_22 : decode cX8_drop 22 = .ok (.ireturn, 1) := by decide +kernel
theorem dX8_drop_23 : decode cX8_drop 23 = .ok (.aload_n 0, 1) := by decide +kernel
theorem dX8_drop_24 : decode cX8_drop 24 = .ok (.getfield 42, 3) := by decide +kernel
theorem dX8_drop_27 : decode cX8_drop 27 = .ok (.iload_n 1, 1) := by decide +kernel
theorem dX8_drop_28 : decode cX8_drop 28 = .ok (.aconst_null, 1) := by decide +kernel
theorem dX8_drop_29 : decode cX8_drop 29 = .ok (.aastore, 1) := by decide +kernel
theorem dX8_drop_30 : decode cX8_drop 30 = .ok (.aload_n 2, 1) := by decide +kernel
theorem dX8_drop_31 : decode cX8_drop 31 = .ok (.getfield 260, 3) := by decide +kernel
theorem dX8_drop_34 : decode cX8_drop 34 = .ok (.arraylength, 1) := by decide +kernel
theorem dX8_drop_35 : decode cX8_drop 35 = .ok (.ireturn, 1) := by decide +kernel
set_option maxRecDepth 20000 in
theorem ggX8_item_X8_isSheet : GoodIn wsX8_item wsX8_isSheet := goodIn_r _ [5] (by decide +kernel) (by decide +kernel)
set_option maxRecDepth 20000 in
theorem gX8_item_X8_isSheet : GoodIn wsX8_item (va_wsS RX8 238 yX8_isSheet wsX8_isSheet) := goodIn_app (goodIn_of _ (by decide +kernel)) ggX8_item_X8_isSheet
set_option maxRecDepth 20000 in
theorem ggX8_item_X8_isLane : GoodIn wsX8_item wsX8_isLane := goodIn_r _ [8] (by decide +kernel) (by decide +kernel)
set_option maxRecDepth 20000 in
theorem gX8_item_X8_isLane : GoodIn wsX8_item (va_wsS RX8 241 yX8_isLane wsX8_isLane) := goodIn_app (goodIn_of _ (by decide +kernel)) ggX8_item_X8_isLane
theorem dX8_item_0 : decode cX8_item 0 = .ok (.iload_n 1, 1) := by decide +kernel
theorem dX8_item_1 : decode cX8_item 1 = .ok (.invokestatic 238, 3) := by decide +kernel
theorem dX8_item_4 : decode cX8_item 4 = .ok (.ifCond .eq 10, 3) := by decide +kernel
theorem dX8_item_7 : decode cX8_item 7 = .ok (.iload_n 2, 1) := by decide +kernel
theorem dX8_item_8 : decode cX8_item 8 = .ok (.invokestatic 241, 3) := by decide +kernel
theorem dX8_item_11 : decode cX8_item 11 = .ok (.ifCond .ne 5, 3) := by decide +kernel
theorem dX8_item_14 : decode cX8_item 14 = .ok (.iconst (-1), 1) := by decide +kernel
theorem dX8_item_15 : decode cX8_item 15 = .ok (.ireturn, 1) := by decide +kernel
theorem dX8_item_16 : decode cX8_item 16 = .ok (.aload_n 0, 1) := by decide +kernel
theorem dX8_item_17 : decode cX8_item 17 = .ok (.getfield 42, 3) := by decide +kernel
theorem dX8_item_20 : decode cX8_item 20 = .ok (.iload_n 1, 1) := by decide +kernel
theorem dX8_item_21 : decode cX8_item 21 = .ok (.aaload, 1) := by decide +kernel
theorem dX8_item_22 : decode cX8_item 22 = .ok (.astore 6, 2) := by decide +kernel
theorem dX8_item_24 : decode cX8_item 24 = .ok (.aload 6, 2) := by decide +kernel
theorem dX8_item_26 : decode cX8_item 26 = .ok (.ifnonnull 6, 3) := by decide +kernel
theorem dX8_item_29 : decode cX8_item 29 = .ok (.bipush (-11), 2) := by decide +kernel
theorem dX8_item_31 : decode cX8_item 31 = .ok (.ireturn, 1) := by decide +kernel
theorem dX8_item_32 : decode cX8_item 32 = .ok (.aload 6, 2) := by decide +kernel
theorem dX8_item_34 : decode cX8_item 34 = .ok (.iload_n 2, 1) := by decide +kernel
theorem dX8_item_35 : decode cX8_item 35 = .ok (.iload_n 3, 1) := by decide +kernel
theorem dX8_item_36 : decode cX8_item 36 = .ok (.iconst 1, 1) := by decide +kernel
theorem dX8_item_37 : decode cX8_item 37 = .ok (.invokevirtual 244, 3) := by decide +kernel
theorem dX8_item_40 : decode cX8_item 40 = .ok (.istore 7, 2) := by decide +kernel
theorem dX8_item_42 : decode cX8_item 42 = .ok (.iload 7, 2) := by decide +kernel
theorem dX8_item_44 : decode cX8_item 44 = .ok (.ifCond .eq 6, 3) := by decide +kernel
theorem dX8_item_47 : decode cX8_item 47 = .ok (.iload 7, 2) := by decide +kernel
theorem dX8_item_49 : decode cX8_item 49 = .ok (.ireturn, 1) := by decide +kernel
theorem dX8_item_50 : decode cX8_item 50 = .ok (.aload 6, 2) := by decide +kernel
theorem dX8_item_52 : decode cX8_item 52 = .ok (.iload_n 3, 1) := by decide +kernel
theorem dX8_item_53 : decode cX8_item 53 = .ok (.lload 4, 2) := by decide +kernel
theorem dX8_item_55 : decode cX8_item 55 = .ok (.invokevirtual 263, 3) := by decide +kernel
theorem dX8_item_58 : decode cX8_item 58 = .ok (.iconst 1, 1) := by decide +kernel
theorem dX8_item_59 : decode cX8_item 59 = .ok (.ireturn, 1) := by decide +kernel
set_option maxRecDepth 20000 in
theorem ggX8_film_X8_isSheet : GoodIn wsX8_film wsX8_isSheet := goodIn_r _ [8] (by decide +kernel) (by decide +kernel)
set_option maxRecDepth 20000 in
theorem gX8_film_X8_isSheet : GoodIn wsX8_film (va_wsS RX8 238 yX8_isSheet wsX8_isSheet) := goodIn_app (goodIn_of _ (by decide +kernel)) ggX8_film_X8_isSheet
set_option maxRecDepth 20000 in
theorem ggX8_film_X8_isLane : GoodIn wsX8_film wsX8_isLane := goodIn_r _ [11] (by decide +kernel) (by decide +kernel)
set_option maxRecDepth 20000 in
theorem gX8_film_X8_isLane : GoodIn wsX8_film (va_wsS RX8 241 yX8_isLane wsX8_isLane) := goodIn_app (goodIn_of _ (by decide +kernel)) ggX8_film_X8_isLane
theorem dX8_film_0 : decode cX8_film 0 = .ok (.iload_n 1, 1) := by decide +kernel
theorem dX8_film_1 : decode cX8_film 1 = .ok (.invokestatic 238, 3) := by decide +kernel
theorem dX8_film_4 : decode cX8_film 4 = .ok (.ifCond .eq 10, 3) := by decide +kernel
theorem dX8_film_7 : decode cX8_film 7 = .ok (.iload_n 2, 1) := by decide +kernel
theorem dX8_film_8 : decode cX8_film 8 = .ok (.invokestatic 241, 3) := by decide +kernel
theorem dX8_film_11 : decode cX8_film 11 = .ok (.ifCond .ne 5, 3) := by decide +kernel
theorem dX8_film_14 : decode cX8_film 14 = .ok (.iconst (-1), 1) := by decide +kernel
theorem dX8_film_15 : decode cX8_film 15 = .ok (.ireturn, 1) := by decide +kernel
theorem dX8_film_16 : decode cX8_film 16 = .ok (.aload_n 0, 1) := by decide +kernel
theorem dX8_film_17 : decode cX8_film 17 = .ok (.getfield 42, 3) := by decide +kernel
theorem dX8_film_20 : decode cX8_film 20 = .ok (.iload_n 1, 1) := by decide +kernel
theorem dX8_film_21 : decode cX8_film 21 = .ok (.aaload, 1) := by decide +kernel
theorem dX8_film_22 : decode cX8_film 22 = .ok (.astore 4, 2) := by decide +kernel
theorem dX8_film_24 : decode cX8_film 24 = .ok (.aload 4, 2) := by decide +kernel
theorem dX8_film_26 : decode cX8_film 26 = .ok (.ifnonnull 6, 3) := by decide +kernel
theorem dX8_film_29 : decode cX8_film 29 = .ok (.bipush (-11), 2) := by decide +kernel
theorem dX8_film_31 : decode cX8_film 31 = .ok (.ireturn, 1) := by decide +kernel
theorem dX8_film_32 : decode cX8_film 32 = .ok (.aload 4, 2) := by decide +kernel
theorem dX8_film_34 : decode cX8_film 34 = .ok (.iload_n 2, 1) := by decide +kernel
theorem dX8_film_35 : decode cX8_film 35 = .ok (.iload_n 3, 1) := by decide +kernel
theorem dX8_film_36 : decode cX8_film 36 = .ok (.aload_n 0, 1) := by decide +kernel
theorem dX8_film_37 : decode cX8_film 37 = .ok (.getfield 10, 3) := by decide +kernel
theorem dX8_film_40 : decode cX8_film 40 = .ok (.getfield 98, 3) := by decide +kernel
theorem dX8_film_43 : decode cX8_film 43 = .ok (.invokevirtual 244, 3) := by decide +kernel
theorem dX8_film_46 : decode cX8_film 46 = .ok (.istore 5, 2) := by decide +kernel
theorem dX8_film_48 : decode cX8_film 48 = .ok (.iload 5, 2) := by decide +kernel
theorem dX8_film_50 : decode cX8_film 50 = .ok (.ifCond .eq 6, 3) := by decide +kernel
theorem dX8_film_53 : decode cX8_film 53 = .ok (.iload 5, 2) := by decide +kernel
theorem dX8_film_55 : decode cX8_film 55 = .ok (.ireturn, 1) := by decide +kernel
theorem dX8_film_56 : decode cX8_film 56 = .ok (.iconst 0, 1) := by decide +kernel
theorem dX8_film_57 : decode cX8_film 57 = .ok (.istore 6, 2) := by decide +kernel
theorem dX8_film_59 : decode cX8_film 59 = .ok (.iload 6, 2) := by decide +kernel
theorem dX8_film_61 : decode cX8_film 61 = .ok (.aload_n 0, 1) := by decide +kernel
theorem dX8_film_62 : decode cX8_film 62 = .ok (.getfield 10, 3) := by decide +kernel
theorem dX8_film_65 : decode cX8_film 65 = .ok (.getfield 98, 3) := by decide +kernel
theorem dX8_film_68 : decode cX8_film 68 = .ok (.if_icmp .ge 29, 3) := by decide +kernel
theorem dX8_film_71 : decode cX8_film 71 = .ok (.aload 4, 2) := by decide +kernel
theorem dX8_film_73 : decode cX8_film 73 = .ok (.iload_n 3, 1) := by decide +kernel
theorem dX8_film_74 : decode cX8_film 74 = .ok (.iload 6, 2) := by decide +kernel
theorem dX8_film_76 : decode cX8_film 76 = .ok (.iadd, 1) := by decide +kernel
theorem dX8_film_77 : decode cX8_film 77 = .ok (.aload_n 0, 1) := by decide +kernel
theorem dX8_film_78 : decode cX8_film 78 = .ok (.getfield 10, 3) := by decide +kernel
theorem dX8_film_81 : decode cX8_film 81 = .ok (.getfield 111, 3) := by decide +kernel
theorem dX8_film_84 : decode cX8_film 84 = .ok (.iload 6, 2) := by decide +kernel
theorem dX8_film_86 : decode cX8_film 86 = .ok (.iaload, 1) := by decide +kernel
theorem dX8_film_87 : decode cX8_film 87 = .ok (.i2l, 1) := by decide +kernel
theorem dX8_film_88 : decode cX8_film 88 = .ok (.invokevirtual 263, 3) := by decide +kernel
theorem dX8_film_91 : decode cX8_film 91 = .ok (.iinc 6 1, 3) := by decide +kernel
theorem dX8_film_94 : decode cX8_film 94 = .ok (.goto (-35), 3) := by decide +kernel
theorem dX8_film_97 : decode cX8_film 97 = .ok (.aload_n 0, 1) := by decide +kernel
theorem dX8_film_98 : decode cX8_film 98 = .ok (.getfield 10, 3) := by decide +kernel
theorem dX8_film_101 : decode cX8_film 101 = .ok (.getfield 98, 3) := by decide +kernel
theorem dX8_film_104 : decode cX8_film 104 = .ok (.ireturn, 1) := by decide +kernel
set_option maxRecDepth 20000 in
theorem ggX8_copy_X8_isSheet : GoodIn wsX8_copy wsX8_isSheet := goodIn_r _ [11] (by decide +kernel) (by decide +kernel)
set_option maxRecDepth 20000 in
theorem gX8_copy_X8_isSheet : GoodIn wsX8_copy (va_wsS RX8 238 yX8_isSheet wsX8_isSheet) := goodIn_app (goodIn_of _ (by decide +kernel)) ggX8_copy_X8_isSheet
theorem dX8_copy_0 : decode cX8_copy 0 = .ok (.iload_n 1, 1) := by decide +kernel
theorem dX8_copy_1 : decode cX8_copy 1 = .ok (.invokestatic 238, 3) := by decide +kernel
theorem dX8_copy_4 : decode cX8_copy 4 = .ok (.ifCond .eq 10, 3) := by decide +kernel
theorem dX8_copy_7 : decode cX8_copy 7 = .ok (.iload_n 3, 1) := by decide +kernel
theorem dX8_copy_8 : decode cX8_copy 8 = .ok (.invokestatic 238, 3) := by decide +kernel
theorem dX8_copy_11 : decode cX8_copy 11 = .ok (.ifCond .ne 5, 3) := by decide +kernel
theorem dX8_copy_14 : decode cX8_copy 14 = .ok (.iconst (-1), 1) := by decide +kernel
theorem dX8_copy_15 : decode cX8_copy 15 = .ok (.ireturn, 1) := by decide +kernel
theorem dX8_copy_16 : decode cX8_copy 16 = .ok (.aload_n 0, 1) := by decide +kernel
theorem dX8_copy_17 : decode cX8_copy 17 = .ok (.getfield 42, 3) := by decide +kernel
theorem dX8_copy_20 : decode cX8_copy 20 = .ok (.iload_n 1, 1) := by decide +kernel
theorem dX8_copy_21 : decode cX8_copy 21 = .ok (.aaload, 1) := by decide +kernel
theorem dX8_copy_22 : decode cX8_copy 22 = .ok (.astore 6, 2) := by decide +kernel
theorem dX8_copy_24 : decode cX8_copy 24 = .ok (.aload_n 0, 1) := by decide +kernel
theorem dX8_copy_25 : decode cX8_copy 25 = .ok (.getfield 42, 3) := by decide +kernel
theorem dX8_copy_28 : decode cX8_copy 28 = .ok (.iload_n 3, 1) := by decide +kernel
theorem dX8_copy_29 : decode cX8_copy 29 = .ok (.aaload, 1) := by decide +kernel
theorem dX8_copy_30 : decode cX8_copy 30 = .ok (.astore 7, 2) := by decide +kernel
theorem dX8_copy_32 : decode cX8_copy 32 = .ok (.aload 6, 2) := by decide +kernel
theorem dX8_copy_34 : decode cX8_copy 34 = .ok (.ifnull 8, 3) := by decide +kernel
theorem dX8_copy_37 : decode cX8_copy 37 = .ok (.aload 7, 2) := by decide +kernel
theorem dX8_copy_39 : decode cX8_copy 39 = .ok (.ifnonnull 6, 3) := by decide +kernel
theorem dX8_copy_42 : decode cX8_copy 42 = .ok (.bipush (-11), 2) := by decide +kernel
theorem dX8_copy_44 : decode cX8_copy 44 = .ok (.ireturn, 1) := by decide +kernel
theorem dX8_copy_45 : decode cX8_copy 45 = .ok (.aload 6, 2) := by decide +kernel
theorem dX8_copy_47 : decode cX8_copy 47 = .ok (.getfield 267, 3) := by decide +kernel
theorem dX8_copy_50 : decode cX8_copy 50 = .ok (.aload 7, 2) := by decide +kernel

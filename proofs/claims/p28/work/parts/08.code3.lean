theorem dX7_settle_107 : decode cX7_settle 107 = .ok (.aload_n 0, 1) := by decide +kernel
theorem dX7_settle_108 : decode cX7_settle 108 = .ok (.getfield 16, 3) := by decide +kernel
theorem dX7_settle_111 : decode cX7_settle 111 = .ok (.iload_n 1, 1) := by decide +kernel
theorem dX7_settle_112 : decode cX7_settle 112 = .ok (.iconst 1, 1) := by decide +kernel
theorem dX7_settle_113 : decode cX7_settle 113 = .ok (.iadd, 1) := by decide +kernel
theorem dX7_settle_114 : decode cX7_settle 114 = .ok (.aaload, 1) := by decide +kernel
theorem dX7_settle_115 : decode cX7_settle 115 = .ok (.iload_n 1, 1) := by decide +kernel
theorem dX7_settle_116 : decode cX7_settle 116 = .ok (.iaload, 1) := by decide +kernel
theorem dX7_settle_117 : decode cX7_settle 117 = .ok (.aload_n 0, 1) := by decide +kernel
theorem dX7_settle_118 : decode cX7_settle 118 = .ok (.getfield 16, 3) := by decide +kernel
theorem dX7_settle_121 : decode cX7_settle 121 = .ok (.iload_n 1, 1) := by decide +kernel
theorem dX7_settle_122 : decode cX7_settle 122 = .ok (.aaload, 1) := by decide +kernel
theorem dX7_settle_123 : decode cX7_settle 123 = .ok (.iload_n 1, 1) := by decide +kernel
theorem dX7_settle_124 : decode cX7_settle 124 = .ok (.iaload, 1) := by decide +kernel
theorem dX7_settle_125 : decode cX7_settle 125 = .ok (.if_icmp .le 10, 3) := by decide +kernel
theorem dX7_settle_128 : decode cX7_settle 128 = .ok (.aload_n 0, 1) := by decide +kernel
theorem dX7_settle_129 : decode cX7_settle 129 = .ok (.iload_n 1, 1) := by decide +kernel
theorem dX7_settle_130 : decode cX7_settle 130 = .ok (.iload 4, 2) := by decide +kernel
theorem dX7_settle_132 : decode cX7_settle 132 = .ok (.invokevirtual 51, 3) := by decide +kernel
theorem dX7_settle_135 : decode cX7_settle 135 = .ok (.iinc 4 1, 3) := by decide +kernel
theorem dX7_settle_138 : decode cX7_settle 138 = .ok (.goto (-70), 3) := by decide +kernel
theorem dX7_settle_141 : decode cX7_settle 141 = .ok (.return_, 1) := by decide +kernel
theorem dX7_keep_0 : decode cX7_keep 0 = .ok (.aload_n 0, 1) := by decide +kernel
theorem dX7_keep_1 : decode cX7_keep 1 = .ok (.getfield 11, 3) := by decide +kernel
theorem dX7_keep_4 : decode cX7_keep 4 = .ok (.iload_n 1, 1) := by decide +kernel
theorem dX7_keep_5 : decode cX7_keep 5 = .ok (.iconst 1, 1) := by decide +kernel
theorem dX7_keep_6 : decode cX7_keep 6 = .ok (.iadd, 1) := by decide +kernel
theorem dX7_keep_7 : decode cX7_keep 7 = .ok (.aaload, 1) := by decide +kernel
theorem dX7_keep_8 : decode cX7_keep 8 = .ok (.iconst 0, 1) := by decide +kernel
theorem dX7_keep_9 : decode cX7_keep 9 = .ok (.aload_n 0, 1) := by decide +kernel
theorem dX7_keep_10 : decode cX7_keep 10 = .ok (.getfield 11, 3) := by decide +kernel
theorem dX7_keep_13 : decode cX7_keep 13 = .ok (.iload_n 1, 1) := by decide +kernel
theorem dX7_keep_14 : decode cX7_keep 14 = .ok (.aaload, 1) := by decide +kernel
theorem dX7_keep_15 : decode cX7_keep 15 = .ok (.iconst 0, 1) := by decide +kernel
theorem dX7_keep_16 : decode cX7_keep 16 = .ok (.iconst 5, 1) := by decide +kernel
theorem dX7_keep_17 : decode cX7_keep 17 = .ok (.invokestatic 45, 3) := by decide +kernel
theorem dX7_keep_20 : decode cX7_keep 20 = .ok (.aload_n 0, 1) := by decide +kernel
theorem dX7_keep_21 : decode cX7_keep 21 = .ok (.getfield 16, 3) := by decide +kernel
theorem dX7_keep_24 : decode cX7_keep 24 = .ok (.iload_n 1, 1) := by decide +kernel
theorem dX7_keep_25 : decode cX7_keep 25 = .ok (.iconst 1, 1) := by decide +kernel
theorem dX7_keep_26 : decode cX7_keep 26 = .ok (.iadd, 1) := by decide +kernel
theorem dX7_keep_27 : decode cX7_keep 27 = .ok (.aaload, 1) := by decide +kernel
theorem dX7_keep_28 : decode cX7_keep 28 = .ok (.iconst 0, 1) := by decide +kernel
theorem dX7_keep_29 : decode cX7_keep 29 = .ok (.aload_n 0, 1) := by decide +kernel
theorem dX7_keep_30 : decode cX7_keep 30 = .ok (.getfield 16, 3) := by decide +kernel
theorem dX7_keep_33 : decode cX7_keep 33 = .ok (.iload_n 1, 1) := by decide +kernel
theorem dX7_keep_34 : decode cX7_keep 34 = .ok (.aaload, 1) := by decide +kernel
theorem dX7_keep_35 : decode cX7_keep 35 = .ok (.iconst 0, 1) := by decide +kernel
theorem dX7_keep_36 : decode cX7_keep 36 = .ok (.iconst 5, 1) := by decide +kernel
theorem dX7_keep_37 : decode cX7_keep 37 = .ok (.invokestatic 45, 3) := by decide +kernel
theorem dX7_keep_40 : decode cX7_keep 40 = .ok (.aload_n 0, 1) := by decide +kernel
theorem dX7_keep_41 : decode cX7_keep 41 = .ok (.getfield 11, 3) := by decide +kernel
theorem dX7_keep_44 : decode cX7_keep 44 = .ok (.iload_n 1, 1) := by decide +kernel
theorem dX7_keep_45 : decode cX7_keep 45 = .ok (.aaload, 1) := by decide +kernel
theorem dX7_keep_46 : decode cX7_keep 46 = .ok (.iload_n 1, 1) := by decide +kernel
theorem dX7_keep_47 : decode cX7_keep 47 = .ok (.iload_n 2, 1) := by decide +kernel
theorem dX7_keep_48 : decode cX7_keep 48 = .ok (.iastore, 1) := by decide +kernel
theorem dX7_keep_49 : decode cX7_keep 49 = .ok (.return_, 1) := by decide +kernel
set_option maxRecDepth 20000 in
theorem ggX8_init_X0_init : GoodIn wsX8_init wsX0_init := goodIn_r _ [45, 46, 2, 3, 47, 48, 49, 50, 51, 52, 53, 117, 118, 119, 120, 121] rfl (by decide +kernel)
set_option maxRecDepth 20000 in
theorem gX8_init_X0_init_n9 : GoodIn wsX8_init (wsX0_init) := ggX8_init_X0_init
set_option maxRecDepth 20000 in
theorem ggX8_init_X2_init : GoodIn wsX8_init wsX2_init := goodIn_r _ [55, 56, 2, 3, 57, 58, 51, 59, 60, 139, 140, 141, 142] rfl (by decide +kernel)
set_option maxRecDepth 20000 in
theorem gX8_init_X2_init_n18 : GoodIn wsX8_init (wsX2_init) := ggX8_init_X2_init
set_option maxRecDepth 20000 in
theorem ggX8_init_X5_init : GoodIn wsX8_init wsX5_init := goodIn_r _ [62, 63, 2, 3, 64, 65, 66, 67, 143, 144, 145] rfl (by decide +kernel)
set_option maxRecDepth 20000 in
theorem gX8_init_X5_init_n25 : GoodIn wsX8_init (wsX5_init) := ggX8_init_X5_init
set_option maxRecDepth 20000 in
theorem ggX8_init_X6_init : GoodIn wsX8_init wsX6_init := goodIn_r _ [69, 70, 2, 3, 71, 72, 73, 74, 9, 10, 75, 76, 54, 55, 56, 57, 58, 51, 59, 60, 77, 78, 6, 79, 80, 81, 82, 83, 84, 5, 85, 44, 45, 46, 47, 48, 49, 50, 52, 53, 146, 147, 148, 149, 150, 139, 140, 141, 142, 117, 118, 119, 120, 121] rfl (by decide +kernel)
set_option maxRecDepth 20000 in
theorem gX8_init_X6_init_n58 : GoodIn wsX8_init (wsX6_init) := ggX8_init_X6_init
set_option maxRecDepth 20000 in
theorem ggX8_init_X7_init : GoodIn wsX8_init wsX7_init := goodIn_r _ [87, 88, 2, 3, 89, 51, 90, 91, 92, 93, 78, 6, 79, 80, 81, 82, 83, 84, 5, 85, 44, 45, 46, 47, 48, 49, 50, 52, 53, 151, 152, 153, 117, 118, 119, 120, 121] rfl (by decide +kernel)
set_option maxRecDepth 20000 in
theorem gX8_init_X7_init_n65 : GoodIn wsX8_init (wsX7_init) := ggX8_init_X7_init
set_option maxRecDepth 20000 in
theorem ggX8_init_X1_init : GoodIn wsX8_init wsX1_init := goodIn_r _ [95, 96, 2, 3, 97, 98, 51, 99, 100, 101, 102, 103, 9, 10, 104, 105, 54, 55, 56, 57, 58, 59, 60, 106, 78, 6, 79, 80, 81, 82, 83, 84, 5, 85, 44, 45, 46, 47, 48, 49, 50, 52, 53, 154, 155, 156, 157, 158, 159, 160, 161, 139, 140, 141, 142, 117, 118, 119, 120, 121] rfl (by decide +kernel)
set_option maxRecDepth 20000 in
theorem gX8_init_X1_init_n72 : GoodIn wsX8_init (wsX1_init) := ggX8_init_X1_init
set_option maxRecDepth 20000 in
theorem ggX8_init_X3_init : GoodIn wsX8_init wsX3_init := goodIn_r _ [108, 109, 2, 3, 110, 51, 111, 112, 113, 114, 115, 116, 78, 6, 79, 80, 81, 82, 83, 84, 5, 85, 44, 45, 46, 47, 48, 49, 50, 52, 53, 162, 163, 164, 165, 166, 167, 117, 118, 119, 120, 121] rfl (by decide +kernel)
set_option maxRecDepth 20000 in
theorem gX8_init_X3_init_n79 : GoodIn wsX8_init (wsX3_init) := ggX8_init_X3_init
theorem dX8_init_0 : decode cX8_init 0 = .ok (.aload_n 0, 1) := by decide +kernel
theorem dX8_init_1 : decode cX8_init 1 = .ok (.invokespecial 1, 3) := by decide +kernel
theorem dX8_init_4 : decode cX8_init 4 = .ok (.aload_n 0, 1) := by decide +kernel
theorem dX8_init_5 : decode cX8_init 5 = .ok (.new 7, 3) := by decide +kernel
theorem dX8_init_8 : decode cX8_init 8 = .ok (.dup, 1) := by decide +kernel
theorem dX8_init_9 : decode cX8_init 9 = .ok (.invokespecial 9, 3) := by decide +kernel
theorem dX8_init_12 : decode cX8_init 12 = .ok (.putfield 10, 3) := by decide +kernel
theorem dX8_init_15 : decode cX8_init 15 = .ok (.aload_n 0, 1) := by decide +kernel
theorem dX8_init_16 : decode cX8_init 16 = .ok (.new 16, 3) := by decide +kernel
theorem dX8_init_19 : decode cX8_init 19 = .ok (.dup, 1) := by decide +kernel
theorem dX8_init_20 : decode cX8_init 20 = .ok (.invokespecial 18, 3) := by decide +kernel
theorem dX8_init_23 : decode cX8_init 23 = .ok (.putfield 19, 3) := by decide +kernel
theorem dX8_init_26 : decode cX8_init 26 = .ok (.aload_n 0, 1) := by decide +kernel
theorem dX8_init_27 : decode cX8_init 27 = .ok (.new 23, 3) := by decide +kernel
theorem dX8_init_30 : decode cX8_init 30 = .ok (.dup, 1) := by decide +kernel
theorem dX8_init_31 : decode cX8_init 31 = .ok (.invokespecial 25, 3) := by decide +kernel
theorem dX8_init_34 : decode cX8_init 34 = .ok (.putfield 26, 3) := by decide +kernel
theorem dX8_init_37 : decode cX8_init 37 = .ok (.aload_n 0, 1) := by decide +kernel
theorem dX8_init_38 : decode cX8_init 38 = .ok (.new 7, 3) := by decide +kernel
theorem dX8_init_41 : decode cX8_init 41 = .ok (.dup, 1) := by decide +kernel
theorem dX8_init_42 : decode cX8_init 42 = .ok (.invokespecial 9, 3) := by decide +kernel
theorem dX8_init_45 : decode cX8_init 45 = .ok (.putfield 30, 3) := by decide +kernel
theorem dX8_init_48 : decode cX8_init 48 = .ok (.aload_n 0, 1) := by decide +kernel
theorem dX8_init_49 : decode cX8_init 49 = .ok (.new 16, 3) := by decide +kernel
theorem dX8_init_52 : decode cX8_init 52 = .ok (.dup, 1) := by decide +kernel
theorem dX8_init_53 : decode cX8_init 53 = .ok (.invokespecial 18, 3) := by decide +kernel
theorem dX8_init_56 : decode cX8_init 56 = .ok (.putfield 33, 3) := by decide +kernel
theorem dX8_init_59 : decode cX8_init 59 = .ok (.aload_n 0, 1) := by decide +kernel
theorem dX8_init_60 : decode cX8_init 60 = .ok (.iconst 0, 1) := by decide +kernel
theorem dX8_init_61 : decode cX8_init 61 = .ok (.putfield 36, 3) := by decide +kernel
theorem dX8_init_64 : decode cX8_init 64 = .ok (.aload_n 0, 1) := by decide +kernel
theorem dX8_init_65 : decode cX8_init 65 = .ok (.iconst 4, 1) := by decide +kernel
theorem dX8_init_66 : decode cX8_init 66 = .ok (.anewarray 40, 3) := by decide +kernel
theorem dX8_init_69 : decode cX8_init 69 = .ok (.putfield 42, 3) := by decide +kernel
theorem dX8_init_72 : decode cX8_init 72 = .ok (.aload_n 0, 1) := by decide +kernel
theorem dX8_init_73 : decode cX8_init 73 = .ok (.new 7, 3) := by decide +kernel
theorem dX8_init_76 : decode cX8_init 76 = .ok (.dup, 1) := by decide +kernel
theorem dX8_init_77 : decode cX8_init 77 = .ok (.invokespecial 9, 3) := by decide +kernel
theorem dX8_init_80 : decode cX8_init 80 = .ok (.putfield 46, 3) := by decide +kernel
theorem dX8_init_83 : decode cX8_init 83 = .ok (.aload_n 0, 1) := by decide +kernel
theorem dX8_init_84 : decode cX8_init 84 = .ok (.new 16, 3) := by decide +kernel
theorem dX8_init_87 : decode cX8_init 87 = .ok (.dup, 1) := by decide +kernel
theorem dX8_init_88 : decode cX8_init 88 = .ok (.invokespecial 18, 3) := by decide +kernel
theorem dX8_init_91 : decode cX8_init 91 = .ok (.putfield 49, 3) := by decide +kernel
theorem dX8_init_94 : decode cX8_init 94 = .ok (.aload_n 0, 1) := by decide +kernel
theorem dX8_init_95 : decode cX8_init 95 = .ok (.iconst 5, 1) := by decide +kernel
theorem dX8_init_96 : decode cX8_init 96 = .ok (.newarray .long, 2) := by decide +kernel
theorem dX8_init_98 : decode cX8_init 98 = .ok (.putfield 52, 3) := by decide +kernel
theorem dX8_init_101 : decode cX8_init 101 = .ok (.aload_n 0, 1) := by decide +kernel
theorem dX8_init_102 : decode cX8_init 102 = .ok (.new 56, 3) := by decide +kernel
theorem dX8_init_105 : decode cX8_init 105 = .ok (.dup, 1) := by decide +kernel
theorem dX8_init_106 : decode cX8_init 106 = .ok (.invokespecial 58, 3) := by decide +kernel
theorem dX8_init_109 : decode cX8_init 109 = .ok (.putfield 59, 3) := by decide +kernel
theorem dX8_init_112 : decode cX8_init 112 = .ok (.aload_n 0, 1) := by decide +kernel
theorem dX8_init_113 : decode cX8_init 113 = .ok (.new 63, 3) := by decide +kernel
theorem dX8_init_116 : decode cX8_init 116 = .ok (.dup, 1) := by decide +kernel
theorem dX8_init_117 : decode cX8_init 117 = .ok (.invokespecial 65, 3) := by decide +kernel
theorem dX8_init_120 : decode cX8_init 120 = .ok (.putfield 66, 3) := by decide +kernel
theorem dX8_init_123 : decode cX8_init 123 = .ok (.aload_n 0, 1) := by decide +kernel
theorem dX8_init_124 : decode cX8_init 124 = .ok (.new 70, 3) := by decide +kernel
theorem dX8_init_127 : decode cX8_init 127 = .ok (.dup, 1) := by decide +kernel
theorem dX8_init_128 : decode cX8_init 128 = .ok (.invokespecial 72, 3) := by decide +kernel
theorem dX8_init_131 : decode cX8_init 131 = .ok (.putfield 73, 3) := by decide +kernel
theorem dX8_init_134 : decode cX8_init 134 = .ok (.aload_n 0, 1) := by decide +kernel
theorem dX8_init_135 : decode cX8_init 135 = .ok (.new 77, 3) := by decide +kernel
theorem dX8_init_138 : decode cX8_init 138 = .ok (.dup, 1) := by decide +kernel
theorem dX8_init_139 : decode cX8_init 139 = .ok (.invokespecial 79, 3) := by decide +kernel
theorem dX8_init_142 : decode cX8_init 142 = .ok (.putfield 80, 3) := by decide +kernel
theorem dX8_init_145 : decode cX8_init 145 = .ok (.aload_n 0, 1) := by decide +kernel
theorem dX8_init_146 : decode cX8_init 146 = .ok (.bipush 9, 2) := by decide +kernel
theorem dX8_init_148 : decode cX8_init 148 = .ok (.putfield 84, 3) := by decide +kernel
theorem dX8_init_151 : decode cX8_init 151 = .ok (.aload_n 0, 1) := by decide +kernel
theorem dX8_init_152 : decode cX8_init 152 = .ok (.iconst 0, 1) := by decide +kernel
theorem dX8_init_153 : decode cX8_init 153 = .ok (.putfield 88, 3) := by decide +kernel
theorem dX8_init_156 : decode cX8_init 156 = .ok (.aload_n 0, 1) := by decide +kernel
theorem dX8_init_157 : decode cX8_init 157 = .ok (.iconst 0, 1) := by decide +kernel
theorem dX8_init_158 : decode cX8_init 158 = .ok (.putfield 91, 3) := by decide +kernel
theorem dX8_init_161 : decode cX8_init 161 = .ok (.return_, 1) := by decide +kernel
set_option maxRecDepth 20000 in
theorem ggX8_person_X8_isSum : GoodIn wsX8_person wsX8_isSum := goodIn_r _ [6] rfl (by decide +kernel)
set_option maxRecDepth 20000 in
theorem gX8_person_X8_isSum : GoodIn wsX8_person (va_wsS RX8 94 yX8_isSum wsX8_isSum) := goodIn_app (goodIn_of _ (by decide +kernel)) ggX8_person_X8_isSum
set_option maxRecDepth 20000 in
theorem ggX8_person_X8_forgetFound : GoodIn wsX8_person wsX8_forgetFound := goodIn_r _ [10, 11, 12, 13, 22, 23, 24, 25, 26, 27, 28, 29, 30, 31, 32, 33, 34, 35, 36, 37, 38] rfl (by decide +kernel)
set_option maxRecDepth 20000 in
theorem gX8_person_X8_forgetFound : GoodIn wsX8_person (wsV RX8 101 RX8 yX8_forgetFound wsX8_forgetFound) := goodIn_app (goodIn_of _ (by decide +kernel)) ggX8_person_X8_forgetFound
set_option maxRecDepth 20000 in
theorem ggX8_person_X0_add : GoodIn wsX8_person wsX0_add := goodIn_r _ [18, 19, 20, 21, 39, 40, 41, 42, 43] rfl (by decide +kernel)
set_option maxRecDepth 20000 in
theorem gX8_person_X0_add : GoodIn wsX8_person (wsV RX8 104 RX0 yX0_add wsX0_add) := goodIn_app (goodIn_of _ (by decide +kernel)) ggX8_person_X0_add
theorem dX8_person_0 : decode cX8_person 0 = .ok (.iload_n 1, 1) := by decide +kernel
theorem dX8_person_1 : decode cX8_person 1 = .ok (.ifCond .lt 15, 3) := by decide +kernel
theorem dX8_person_4 : decode cX8_person 4 = .ok (.iload_n 1, 1) := by decide +kernel
theorem dX8_person_5 : decode cX8_person 5 = .ok (.iconst 3, 1) := by decide +kernel
theorem dX8_person_6 : decode cX8_person 6 = .ok (.if_icmp .gt 10, 3) := by decide +kernel
theorem dX8_person_9 : decode cX8_person 9 = .ok (.iload_n 2, 1) := by decide +kernel
theorem dX8_person_10 : decode cX8_person 10 = .ok (.invokestatic 94, 3) := by decide +kernel
theorem dX8_person_13 : decode cX8_person 13 = .ok (.ifCond .ne 5, 3) := by decide +kernel
theorem dX8_person_16 : decode cX8_person 16 = .ok (.iconst (-1), 1) := by decide +kernel
theorem dX8_person_17 : decode cX8_person 17 = .ok (.ireturn, 1) := by decide +kernel
theorem dX8_person_18 : decode cX8_person 18 = .ok (.aload_n 0, 1) := by decide +kernel
theorem dX8_person_19 : decode cX8_person 19 = .ok (.getfield 10, 3) := by decide +kernel
theorem dX8_person_22 : decode cX8_person 22 = .ok (.getfield 98, 3) := by decide +kernel
theorem dX8_person_25 : decode cX8_person 25 = .ok (.iconst 5, 1) := by decide +kernel
theorem dX8_person_26 : decode cX8_person 26 = .ok (.if_icmp .lt 6, 3) := by decide +kernel
theorem dX8_person_29 : decode cX8_person 29 = .ok (.bipush (-3), 2) := by decide +kernel
theorem dX8_person_31 : decode cX8_person 31 = .ok (.ireturn, 1) := by decide +kernel
theorem dX8_person_32 : decode cX8_person 32 = .ok (.aload_n 0, 1) := by decide +kernel
theorem dX8_person_33 : decode cX8_person 33 = .ok (.invokevirtual 101, 3) := by decide +kernel
theorem dX8_person_36 : decode cX8_person 36 = .ok (.aload_n 0, 1) := by decide +kernel
theorem dX8_person_37 : decode cX8_person 37 = .ok (.getfield 10, 3) := by decide +kernel
theorem dX8_person_40 : decode cX8_person 40 = .ok (.iload_n 1, 1) := by decide +kernel
theorem dX8_person_41 : decode cX8_person 41 = .ok (.iload_n 2, 1) := by decide +kernel
theorem dX8_person_42 : decode cX8_person 42 = .ok (.invokevirtual 104, 3) := by decide +kernel
theorem dX8_person_45 : decode cX8_person 45 = .ok (.aload_n 0, 1) := by decide +kernel
theorem dX8_person_46 : decode cX8_person 46 = .ok (.getfield 10, 3) := by decide +kernel
theorem dX8_person_49 : decode cX8_person 49 = .ok (.getfield 98, 3) := by decide +kernel
theorem dX8_person_52 : decode cX8_person 52 = .ok (.iconst 1, 1) := by decide +kernel
theorem dX8_person_53 : decode cX8_person 53 = .ok (.isub, 1) := by decide +kernel
theorem dX8_person_54 : decode cX8_person 54 = .ok (.ireturn, 1) := by decide +kernel
set_option maxRecDepth 20000 in
theorem ggX8_set_X0_has : GoodIn wsX8_set wsX0_has := goodIn_r _ [7, 8, 37, 38, 39, 40, 41] rfl (by decide +kernel)
set_option maxRecDepth 20000 in
theorem gX8_set_X0_has : GoodIn wsX8_set (wsV RX8 108 RX0 yX0_has wsX0_has) := goodIn_app (goodIn_of _ (by decide +kernel)) ggX8_set_X0_has
set_option maxRecDepth 20000 in
theorem ggX8_set_X8_isSum : GoodIn wsX8_set wsX8_isSum := goodIn_r _ [12] rfl (by decide +kernel)
set_option maxRecDepth 20000 in
theorem gX8_set_X8_isSum : GoodIn wsX8_set (va_wsS RX8 94 yX8_isSum wsX8_isSum) := goodIn_app (goodIn_of _ (by decide +kernel)) ggX8_set_X8_isSum
set_option maxRecDepth 20000 in
theorem ggX8_set_X8_forgetFound : GoodIn wsX8_set wsX8_forgetFound := goodIn_r _ [16, 17, 18, 19, 20, 21, 22, 23, 24, 25, 26, 27, 28, 29, 30, 31, 32, 33, 34, 35, 36] rfl (by decide +kernel)
set_option maxRecDepth 20000 in
theorem gX8_set_X8_forgetFound : GoodIn wsX8_set (wsV RX8 101 RX8 yX8_forgetFound wsX8_forgetFound) := goodIn_app (goodIn_of _ (by decide +kernel)) ggX8_set_X8_forgetFound
theorem dX8_set_0 : decode cX8_set 0 = .ok (.aload_n 0, 1) := by decide +kernel
theorem dX8_set_1 : decode cX8_set 1 = .ok (.getfield 10, 3) := by decide +kernel
theorem dX8_set_4 : decode cX8_set 4 = .ok (.iload_n 1, 1) := by decide +kernel
theorem dX8_set_5 : decode cX8_set 5 = .ok (.invokevirtual 108, 3) := by decide +kernel
theorem dX8_set_8 : decode cX8_set 8 = .ok (.ifCond .eq 10, 3) := by decide +kernel
theorem dX8_set_11 : decode cX8_set 11 = .ok (.iload_n 2, 1) := by decide +kernel
theorem dX8_set_12 : decode cX8_set 12 = .ok (.invokestatic 94, 3) := by decide +kernel
theorem dX8_set_15 : decode cX8_set 15 = .ok (.ifCond .ne 5, 3) := by decide +kernel
theorem dX8_set_18 : decode cX8_set 18 = .ok (.iconst (-1), 1) := by decide +kernel
theorem dX8_set_19 : decode cX8_set 19 = .ok (.ireturn, 1) := by decide +kernel
theorem dX8_set_20 : decode cX8_set 20 = .ok (.aload_n 0, 1) := by decide +kernel
theorem dX8_set_21 : decode cX8_set 21 = .ok (.invokevirtual 101, 3) := by decide +kernel
theorem dX8_set_24 : decode cX8_set 24 = .ok (.aload_n 0, 1) := by decide +kernel
theorem dX8_set_25 : decode cX8_set 25 = .ok (.getfield 10, 3) := by decide +kernel
theorem dX8_set_28 : decode cX8_set 28 = .ok (.getfield 111, 3) := by decide +kernel
theorem dX8_set_31 : decode cX8_set 31 = .ok (.iload_n 1, 1) := by decide +kernel
theorem dX8_set_32 : decode cX8_set 32 = .ok (.iaload, 1) := by decide +kernel
theorem dX8_set_33 : decode cX8_set 33 = .ok (.istore_n 3, 1) := by decide +kernel
theorem dX8_set_34 : decode cX8_set 34 = .ok (.aload_n 0, 1) := by decide +kernel
theorem dX8_set_35 : decode cX8_set 35 = .ok (.getfield 10, 3) := by decide +kernel
theorem dX8_set_38 : decode cX8_set 38 = .ok (.getfield 111, 3) := by decide +kernel
theorem dX8_set_41 : decode cX8_set 41 = .ok (.iload_n 1, 1) := by decide +kernel
theorem dX8_set_42 : decode cX8_set 42 = .ok (.iload_n 2, 1) := by decide +kernel
theorem dX8_set_43 : decode cX8_set 43 = .ok (.iastore, 1) := by decide +kernel
theorem dX8_set_44 : decode cX8_set 44 = .ok (.iload_n 3, 1) := by decide +kernel
theorem dX8_set_45 : decode cX8_set 45 = .ok (.ireturn, 1) := by decide +kernel
set_option maxRecDepth 20000 in
theorem ggX8_told_X0_has : GoodIn wsX8_told wsX0_has := goodIn_r _ [10, 11, 39, 40, 41, 42, 43] rfl (by decide +kernel)
set_option maxRecDepth 20000 in
theorem gX8_told_X0_has : GoodIn wsX8_told (wsV RX8 108 RX0 yX0_has wsX0_has) := goodIn_app (goodIn_of _ (by decide +kernel)) ggX8_told_X0_has
set_option maxRecDepth 20000 in
theorem ggX8_told_X0_gives : GoodIn wsX8_told wsX0_gives := goodIn_r _ [15, 16, 17, 39, 40, 41, 42, 43] rfl (by decide +kernel)
set_option maxRecDepth 20000 in
theorem gX8_told_X0_gives : GoodIn wsX8_told (wsV RX8 118 RX0 yX0_gives wsX0_gives) := goodIn_app (goodIn_of _ (by decide +kernel)) ggX8_told_X0_gives
set_option maxRecDepth 20000 in
theorem ggX8_told_X0_others : GoodIn wsX8_told wsX0_others := goodIn_r _ [21, 11, 39, 40, 41, 42, 43] rfl (by decide +kernel)
set_option maxRecDepth 20000 in
theorem gX8_told_X0_others : GoodIn wsX8_told (wsV RX8 125 RX0 yX0_others wsX0_others) := goodIn_app (goodIn_of _ (by decide +kernel)) ggX8_told_X0_others
theorem dX8_told_0 : decode cX8_told 0 = .ok (.aload_n 0, 1) := by decide +kernel
theorem dX8_told_1 : decode cX8_told 1 = .ok (.getfield 10, 3) := by decide +kernel
theorem dX8_told_4 : decode cX8_told 4 = .ok (.iload_n 1, 1) := by decide +kernel
theorem dX8_told_5 : decode cX8_told 5 = .ok (.invokevirtual 108, 3) := by decide +kernel
theorem dX8_told_8 : decode cX8_told 8 = .ok (.ifCond .ne 5, 3) := by decide +kernel
theorem dX8_told_11 : decode cX8_told 11 = .ok (.iconst (-1), 1) := by decide +kernel
theorem dX8_told_12 : decode cX8_told 12 = .ok (.ireturn, 1) := by decide +kernel
theorem dX8_told_13 : decode cX8_told 13 = .ok (.iload_n 2, 1) := by decide +kernel
theorem dX8_told_14 : decode cX8_told 14 = .ok (.tableswitch 95 0 4 #[34, 44, 54, 63, 79], 34) := by decide +kernel
theorem dX8_told_48 : decode cX8_told 48 = .ok (.aload_n 0, 1) := by decide +kernel
theorem dX8_told_49 : decode cX8_told 49 = .ok (.getfield 10, 3) := by decide +kernel
theorem dX8_told_52 : decode cX8_told 52 = .ok (.getfield 115, 3) := by decide +kernel
theorem dX8_told_55 : decode cX8_told 55 = .ok (.iload_n 1, 1) := by decide +kernel
theorem dX8_told_56 : decode cX8_told 56 = .ok (.iaload, 1) := by decide +kernel
theorem dX8_told_57 : decode cX8_told 57 = .ok (.ireturn, 1) := by decide +kernel
theorem dX8_told_58 : decode cX8_told 58 = .ok (.aload_n 0, 1) := by decide +kernel
theorem dX8_told_59 : decode cX8_told 59 = .ok (.getfield 10, 3) := by decide +kernel
theorem dX8_told_62 : decode cX8_told 62 = .ok (.getfield 111, 3) := by decide +kernel
theorem dX8_told_65 : decode cX8_told 65 = .ok (.iload_n 1, 1) := by decide +kernel
theorem dX8_told_66 : decode cX8_told 66 = .ok (.iaload, 1) := by decide +kernel
theorem dX8_told_67 : decode cX8_told 67 = .ok (.ireturn, 1) := by decide +kernel
theorem dX8_told_68 : decode cX8_told 68 = .ok (.aload_n 0, 1) := by decide +kernel
theorem dX8_told_69 : decode cX8_told 69 = .ok (.getfield 10, 3) := by decide +kernel
theorem dX8_told_72 : decode cX8_told 72 = .ok (.iload_n 1, 1) := by decide +kernel
theorem dX8_told_73 : decode cX8_told 73 = .ok (.invokevirtual 118, 3) := by decide +kernel
theorem dX8_told_76 : decode cX8_told 76 = .ok (.ireturn, 1) := by decide +kernel
theorem dX8_told_77 : decode cX8_told 77 = .ok (.aload_n 0, 1) := by decide +kernel
theorem dX8_told_78 : decode cX8_told 78 = .ok (.getfield 10, 3) := by decide +kernel
theorem dX8_told_81 : decode cX8_told 81 = .ok (.aload_n 0, 1) := by decide +kernel
theorem dX8_told_82 : decode cX8_told 82 = .ok (.getfield 10, 3) := by decide +kernel
theorem dX8_told_85 : decode cX8_told 85 = .ok (.getfield 122, 3) := by decide +kernel
theorem dX8_told_88 : decode cX8_told 88 = .ok (.iload_n 1, 1) := by decide +kernel
theorem dX8_told_89 : decode cX8_told 89 = .ok (.invokevirtual 125, 3) := by decide +kernel
theorem dX8_told_92 : decode cX8_told 92 = .ok (.ireturn, 1) := by decide +kernel
theorem dX8_told_93 : decode cX8_told 93 = .ok (.aload_n 0, 1) := by decide +kernel
theorem dX8_told_94 : decode cX8_told 94 = .ok (.getfield 10, 3) := by decide +kernel
theorem dX8_told_97 : decode cX8_told 97 = .ok (.aload_n 0, 1) := by decide +kernel
theorem dX8_told_98 : decode cX8_told 98 = .ok (.getfield 10, 3) := by decide +kernel
theorem dX8_told_101 : decode cX8_told 101 = .ok (.getfield 129, 3) := by decide +kernel
theorem dX8_told_104 : decode cX8_told 104 = .ok (.iload_n 1, 1) := by decide +kernel
theorem dX8_told_105 : decode cX8_told 105 = .ok (.invokevirtual 125, 3) := by decide +kernel
theorem dX8_told_108 : decode cX8_told 108 = .ok (.ireturn, 1) := by decide +kernel
theorem dX8_told_109 : decode cX8_told 109 = .ok (.iconst (-1), 1) := by decide +kernel
theorem dX8_told_110 : decode cX8_told 110 = .ok (.ireturn, 1) := by decide +kernel
set_option maxRecDepth 20000 in
theorem ggX8_knows_X0_isPair : GoodIn wsX8_knows wsX0_isPair := goodIn_r _ [7, 8, 9, 10, 6, 11, 12, 41, 42, 43, 44, 45] rfl (by decide +kernel)
set_option maxRecDepth 20000 in
theorem gX8_knows_X0_isPair : GoodIn wsX8_knows (wsV RX8 132 RX0 yX0_isPair wsX0_isPair) := goodIn_app (goodIn_of _ (by decide +kernel)) ggX8_knows_X0_isPair
set_option maxRecDepth 20000 in
theorem ggX8_knows_X8_forgetFound : GoodIn wsX8_knows wsX8_forgetFound := goodIn_r _ [17, 18, 19, 20, 24, 25, 26, 27, 28, 29, 30, 31, 32, 33, 34, 35, 36, 37, 38, 39, 40] rfl (by decide +kernel)
set_option maxRecDepth 20000 in
theorem gX8_knows_X8_forgetFound : GoodIn wsX8_knows (wsV RX8 101 RX8 yX8_forgetFound wsX8_forgetFound) := goodIn_app (goodIn_of _ (by decide +kernel)) ggX8_knows_X8_forgetFound
set_option maxRecDepth 20000 in
theorem ggX8_knows_X0_pair : GoodIn wsX8_knows wsX0_pair := goodIn_r _ [23] rfl (by decide +kernel)
set_option maxRecDepth 20000 in
theorem gX8_knows_X0_pair : GoodIn wsX8_knows (va_wsS RX8 136 yX0_pair wsX0_pair) := goodIn_app (goodIn_of _ (by decide +kernel)) ggX8_knows_X0_pair
theorem dX8_knows_0 : decode cX8_knows 0 = .ok (.aload_n 0, 1) := by decide +kernel
theorem dX8_knows_1 : decode cX8_knows 1 = .ok (.getfield 10, 3) := by decide +kernel
theorem dX8_knows_4 : decode cX8_knows 4 = .ok (.iload_n 1, 1) := by decide +kernel
theorem dX8_knows_5 : decode cX8_knows 5 = .ok (.iload_n 2, 1) := by decide +kernel
theorem dX8_knows_6 : decode cX8_knows 6 = .ok (.invokevirtual 132, 3) := by decide +kernel
theorem dX8_knows_9 : decode cX8_knows 9 = .ok (.ifCond .ne 5, 3) := by decide +kernel
theorem dX8_knows_12 : decode cX8_knows 12 = .ok (.iconst (-1), 1) := by decide +kernel
theorem dX8_knows_13 : decode cX8_knows 13 = .ok (.ireturn, 1) := by decide +kernel
theorem dX8_knows_14 : decode cX8_knows 14 = .ok (.aload_n 0, 1) := by decide +kernel
theorem dX8_knows_15 : decode cX8_knows 15 = .ok (.invokevirtual 101, 3) := by decide +kernel
theorem dX8_knows_18 : decode cX8_knows 18 = .ok (.iload_n 1, 1) := by decide +kernel
theorem dX8_knows_19 : decode cX8_knows 19 = .ok (.iload_n 2, 1) := by decide +kernel
theorem dX8_knows_20 : decode cX8_knows 20 = .ok (.invokestatic 136, 3) := by decide +kernel
theorem dX8_knows_23 : decode cX8_knows 23 = .ok (.istore 4, 2) := by decide +kernel
theorem dX8_knows_25 : decode cX8_knows 25 = .ok (.aload_n 0, 1) := by decide +kernel
theorem dX8_knows_26 : decode cX8_knows 26 = .ok (.getfield 10, 3) := by decide +kernel
theorem dX8_knows_29 : decode cX8_knows 29 = .ok (.getfield 122, 3) := by decide +kernel
theorem dX8_knows_32 : decode cX8_knows 32 = .ok (.iload 4, 2) := by decide +kernel
theorem dX8_knows_34 : decode cX8_knows 34 = .ok (.iand, 1) := by decide +kernel
theorem dX8_knows_35 : decode cX8_knows 35 = .ok (.ifCond .eq 7, 3) := by decide +kernel
theorem dX8_knows_38 : decode cX8_knows 38 = .ok (.iconst 1, 1) := by decide +kernel
theorem dX8_knows_39 : decode cX8_knows 39 = .ok (.goto 4, 3) := by decide +kernel
theorem dX8_knows_42 : decode cX8_knows 42 = .ok (.iconst 0, 1) := by decide +kernel
theorem dX8_knows_43 : decode cX8_knows 43 = .ok (.istore 5, 2) := by decide +kernel
theorem dX8_knows_45 : decode cX8_knows 45 = .ok (.aload_n 0, 1) := by decide +kernel
theorem dX8_knows_46 : decode cX8_knows 46 = .ok (.getfield 10, 3) := by decide +kernel
theorem dX8_knows_49 : decode cX8_knows 49 = .ok (.iload_n 3, 1) := by decide +kernel
theorem dX8_knows_50 : decode cX8_knows 50 = .ok (.ifCond .eq 16, 3) := by decide +kernel
theorem dX8_knows_53 : decode cX8_knows 53 = .ok (.aload_n 0, 1) := by decide +kernel
theorem dX8_knows_54 : decode cX8_knows 54 = .ok (.getfield 10, 3) := by decide +kernel
theorem dX8_knows_57 : decode cX8_knows 57 = .ok (.getfield 122, 3) := by decide +kernel
theorem dX8_knows_60 : decode cX8_knows 60 = .ok (.iload 4, 2) := by decide +kernel
theorem dX8_knows_62 : decode cX8_knows 62 = .ok (.ior, 1) := by decide +kernel
theorem dX8_knows_63 : decode cX8_knows 63 = .ok (.goto 15, 3) := by decide +kernel
theorem dX8_knows_66 : decode cX8_knows 66 = .ok (.aload_n 0, 1) := by decide +kernel
theorem dX8_knows_67 : decode cX8_knows 67 = .ok (.getfield 10, 3) := by decide +kernel
theorem dX8_knows_70 : decode cX8_knows 70 = .ok (.getfield 122, 3) := by decide +kernel
theorem dX8_knows_73 : decode cX8_knows 73 = .ok (.iload 4, 2) := by decide +kernel
theorem dX8_knows_75 : decode cX8_knows 75 = .ok (.iconst (-1), 1) := by decide +kernel
theorem dX8_knows_76 : decode cX8_knows 76 = .ok (.ixor, 1) := by decide +kernel
theorem dX8_knows_77 : decode cX8_knows 77 = .ok (.iand, 1) := by decide +kernel
theorem dX8_knows_78 : decode cX8_knows 78 = .ok (.putfield 122, 3) := by decide +kernel
theorem dX8_knows_81 : decode cX8_knows 81 = .ok (.iload 5, 2) := by decide +kernel
theorem dX8_knows_83 : decode cX8_knows 83 = .ok (.ireturn, 1) := by decide +kernel
set_option maxRecDepth 20000 in
theorem ggX8_ask_X0_isPair : GoodIn wsX8_ask wsX0_isPair := goodIn_r _ [6, 7, 8, 9, 5, 10, 11, 52, 53, 54, 55, 56] rfl (by decide +kernel)
set_option maxRecDepth 20000 in
theorem gX8_ask_X0_isPair : GoodIn wsX8_ask (wsV RX8 132 RX0 yX0_isPair wsX0_isPair) := goodIn_app (goodIn_of _ (by decide +kernel)) ggX8_ask_X0_isPair
set_option maxRecDepth 20000 in
theorem ggX8_ask_X8_forgetFound : GoodIn wsX8_ask wsX8_forgetFound := goodIn_r _ [16, 17, 18, 19, 35, 36, 37, 38, 39, 40, 41, 42, 43, 44, 45, 46, 47, 48, 49, 50, 51] rfl (by decide +kernel)
set_option maxRecDepth 20000 in
theorem gX8_ask_X8_forgetFound : GoodIn wsX8_ask (wsV RX8 101 RX8 yX8_forgetFound wsX8_forgetFound) := goodIn_app (goodIn_of _ (by decide +kernel)) ggX8_ask_X8_forgetFound
set_option maxRecDepth 20000 in
theorem ggX8_ask_X0_tryAsking : GoodIn wsX8_ask wsX0_tryAsking := goodIn_r _ [23, 24, 25, 26, 27, 28, 5, 29, 30, 31, 32, 33, 34, 52, 53, 54, 55, 56] rfl (by decide +kernel)
set_option maxRecDepth 20000 in
theorem gX8_ask_X0_tryAsking : GoodIn wsX8_ask (wsV RX8 139 RX0 yX0_tryAsking wsX0_tryAsking) := goodIn_app (goodIn_of _ (by decide +kernel)) ggX8_ask_X0_tryAsking
theorem dX8_ask_0 : decode cX8_ask 0 = .ok (.aload_n 0, 1) := by decide +kernel
theorem dX8_ask_1 : decode cX8_ask 1 = .ok (.getfield 10, 3) := by decide +kernel
theorem dX8_ask_4 : decode cX8_ask 4 = .ok (.iload_n 1, 1) := by decide +kernel
theorem dX8_ask_5 : decode cX8_ask 5 = .ok (.iload_n 2, 1) := by decide +kernel
theorem dX8_ask_6 : decode cX8_ask 6 = .ok (.invokevirtual 132, 3) := by decide +kernel
theorem dX8_ask_9 : decode cX8_ask 9 = .ok (.ifCond .ne 5, 3) := by decide +kernel
theorem dX8_ask_12 : decode cX8_ask 12 = .ok (.iconst (-1), 1) := by decide +kernel
theorem dX8_ask_13 : decode cX8_ask 13 = .ok (.ireturn, 1) := by decide +kernel
theorem dX8_ask_14 : decode cX8_ask 14 = .ok (.aload_n 0, 1) := by decide +kernel
theorem dX8_ask_15 : decode cX8_ask 15 = .ok (.invokevirtual 101, 3) := by decide +kernel
theorem dX8_ask_18 : decode cX8_ask 18 = .ok (.aload_n 0, 1) := by decide +kernel
theorem dX8_ask_19 : decode cX8_ask 19 = .ok (.getfield 10, 3) := by decide +kernel
theorem dX8_ask_22 : decode cX8_ask 22 = .ok (.iload_n 1, 1) := by decide +kernel
theorem dX8_ask_23 : decode cX8_ask 23 = .ok (.iload_n 2, 1) := by decide +kernel
theorem dX8_ask_24 : decode cX8_ask 24 = .ok (.invokevirtual 139, 3) := by decide +kernel
theorem dX8_ask_27 : decode cX8_ask 27 = .ok (.ireturn, 1) := by decide +kernel
set_option maxRecDepth 20000 in
theorem ggX8_week_X8_forgetFound : GoodIn wsX8_week wsX8_forgetFound := goodIn_r _ [7, 8, 9, 10, 24, 25, 26, 27, 28, 29, 30, 31, 32, 33, 34, 35, 36, 37, 38, 39, 40] rfl (by decide +kernel)
set_option maxRecDepth 20000 in
theorem gX8_week_X8_forgetFound : GoodIn wsX8_week (wsV RX8 101 RX8 yX8_forgetFound wsX8_forgetFound) := goodIn_app (goodIn_of _ (by decide +kernel)) ggX8_week_X8_forgetFound
set_option maxRecDepth 20000 in
theorem ggX8_week_X0_askings : GoodIn wsX8_week wsX0_askings := goodIn_r _ [15, 16, 17, 18, 19, 20, 21, 22, 23, 41, 42, 43, 44, 45] rfl (by decide +kernel)
set_option maxRecDepth 20000 in
theorem gX8_week_X0_askings : GoodIn wsX8_week (wsV RX8 142 RX0 yX0_askings wsX0_askings) := goodIn_app (goodIn_of _ (by decide +kernel)) ggX8_week_X0_askings
theorem dX8_week_0 : decode cX8_week 0 = .ok (.aload_n 0, 1) := by decide +kernel
theorem dX8_week_1 : decode cX8_week 1 = .ok (.invokevirtual 101, 3) := by decide +kernel
theorem dX8_week_4 : decode cX8_week 4 = .ok (.aload_n 0, 1) := by decide +kernel
theorem dX8_week_5 : decode cX8_week 5 = .ok (.getfield 10, 3) := by decide +kernel
theorem dX8_week_8 : decode cX8_week 8 = .ok (.invokevirtual 142, 3) := by decide +kernel
theorem dX8_week_11 : decode cX8_week 11 = .ok (.istore_n 1, 1) := by decide +kernel
theorem dX8_week_12 : decode cX8_week 12 = .ok (.aload_n 0, 1) := by decide +kernel
theorem dX8_week_13 : decode cX8_week 13 = .ok (.getfield 10, 3) := by decide +kernel
theorem dX8_week_16 : decode cX8_week 16 = .ok (.iconst 0, 1) := by decide +kernel
theorem dX8_week_17 : decode cX8_week 17 = .ok (.putfield 129, 3) := by decide +kernel
theorem dX8_week_20 : decode cX8_week 20 = .ok (.iload_n 1, 1) := by decide +kernel
theorem dX8_week_21 : decode cX8_week 21 = .ok (.ireturn, 1) := by decide +kernel
set_option maxRecDepth 20000 in
theorem ggX8_type_X5_areSigns : GoodIn wsX8_type wsX5_areSigns := goodIn_r _ [6, 7, 8, 9] rfl (by decide +kernel)
set_option maxRecDepth 20000 in
theorem gX8_type_X5_areSigns : GoodIn wsX8_type (va_wsS RX8 146 yX5_areSigns wsX5_areSigns) := goodIn_app (goodIn_of _ (by decide +kernel)) ggX8_type_X5_areSigns
set_option maxRecDepth 20000 in
theorem ggX8_type_X5_add : GoodIn wsX8_type wsX5_add := goodIn_r _ [13, 14, 15, 7, 33, 34, 35] rfl (by decide +kernel)
set_option maxRecDepth 20000 in
theorem gX8_type_X5_add : GoodIn wsX8_type (wsV RX8 151 RX5 yX5_add wsX5_add) := goodIn_app (goodIn_of _ (by decide +kernel)) ggX8_type_X5_add
theorem dX8_type_0 : decode cX8_type 0 = .ok (.iload_n 3, 1) := by decide +kernel
theorem dX8_type_1 : decode cX8_type 1 = .ok (.iconst 1, 1) := by decide +kernel
theorem dX8_type_2 : decode cX8_type 2 = .ok (.if_icmp .lt 17, 3) := by decide +kernel
theorem dX8_type_5 : decode cX8_type 5 = .ok (.iload_n 3, 1) := by decide +kernel
theorem dX8_type_6 : decode cX8_type 6 = .ok (.bipush 8, 2) := by decide +kernel
theorem dX8_type_8 : decode cX8_type 8 = .ok (.if_icmp .gt 11, 3) := by decide +kernel
theorem dX8_type_11 : decode cX8_type 11 = .ok (.lload_n 1, 1) := by decide +kernel
theorem dX8_type_12 : decode cX8_type 12 = .ok (.iload_n 3, 1) := by decide +kernel
theorem dX8_type_13 : decode cX8_type 13 = .ok (.invokestatic 146, 3) := by decide +kernel
theorem dX8_type_16 : decode cX8_type 16 = .ok (.ifCond .ne 5, 3) := by decide +kernel
theorem dX8_type_19 : decode cX8_type 19 = .ok (.iconst (-1), 1) := by decide +kernel
theorem dX8_type_20 : decode cX8_type 20 = .ok (.ireturn, 1) := by decide +kernel
theorem dX8_type_21 : decode cX8_type 21 = .ok (.aload_n 0, 1) := by decide +kernel
theorem dX8_type_22 : decode cX8_type 22 = .ok (.getfield 26, 3) := by decide +kernel
theorem dX8_type_25 : decode cX8_type 25 = .ok (.getfield 150, 3) := by decide +kernel
theorem dX8_type_28 : decode cX8_type 28 = .ok (.iload_n 3, 1) := by decide +kernel
theorem dX8_type_29 : decode cX8_type 29 = .ok (.iadd, 1) := by decide +kernel
theorem dX8_type_30 : decode cX8_type 30 = .ok (.bipush 80, 2) := by decide +kernel
theorem dX8_type_32 : decode cX8_type 32 = .ok (.if_icmp .le 6, 3) := by decide +kernel
theorem dX8_type_35 : decode cX8_type 35 = .ok (.bipush (-3), 2) := by decide +kernel
theorem dX8_type_37 : decode cX8_type 37 = .ok (.ireturn, 1) := by decide +kernel
theorem dX8_type_38 : decode cX8_type 38 = .ok (.aload_n 0, 1) := by decide +kernel
theorem dX8_type_39 : decode cX8_type 39 = .ok (.getfield 26, 3) := by decide +kernel
theorem dX8_type_42 : decode cX8_type 42 = .ok (.lload_n 1, 1) := by decide +kernel
theorem dX8_type_43 : decode cX8_type 43 = .ok (.iload_n 3, 1) := by decide +kernel
theorem dX8_type_44 : decode cX8_type 44 = .ok (.invokevirtual 151, 3) := by decide +kernel
theorem dX8_type_47 : decode cX8_type 47 = .ok (.aload_n 0, 1) := by decide +kernel
theorem dX8_type_48 : decode cX8_type 48 = .ok (.getfield 26, 3) := by decide +kernel
theorem dX8_type_51 : decode cX8_type 51 = .ok (.getfield 150, 3) := by decide +kernel
theorem dX8_type_54 : decode cX8_type 54 = .ok (.ireturn, 1) := by decide +kernel
set_option maxRecDepth 20000 in
theorem ggX8_people_X5_readFolk : GoodIn wsX8_people wsX5_readFolk := goodIn_r _ [10, 11, 12, 13, 14, 15, 16, 17, 18, 19, 20, 21, 22, 23, 24, 9, 25, 26, 27, 28, 29, 30, 31, 32, 33, 34, 35, 36, 37, 38, 39, 40, 41, 42, 43, 44, 45, 46, 47, 48, 49, 50, 51, 52, 53, 54, 55, 56, 57, 58, 59, 60, 61, 62, 63, 64, 65, 66, 67, 68, 69, 70, 71, 72, 73, 74, 75, 76, 77, 78, 79, 80, 81, 82, 83, 84, 85, 86, 87, 88, 89, 90, 91, 92, 93, 94, 95, 96, 97, 98, 99, 100, 101, 102, 103, 104, 105, 106, 107, 108, 109, 110, 111, 112, 113, 114, 115, 116, 117, 118, 119, 120, 121, 122, 123, 124, 125, 126, 127, 128, 129, 130, 131, 132, 133, 134, 135, 176, 177, 178, 179, 180, 181, 182, 183] rfl (by decide +kernel)
set_option maxRecDepth 20000 in
theorem gX8_people_X5_readFolk : GoodIn wsX8_people (wsV RX8 154 RX5 yX5_readFolk wsX5_readFolk) := goodIn_app (goodIn_of _ (by decide +kernel)) ggX8_people_X5_readFolk
set_option maxRecDepth 20000 in
theorem ggX8_people_X8_forgetFound : GoodIn wsX8_people wsX8_forgetFound := goodIn_r _ [140, 141, 142, 143, 159, 160, 161, 162, 163, 164, 165, 166, 167, 168, 169, 170, 171, 172, 173, 174, 175] rfl (by decide +kernel)
set_option maxRecDepth 20000 in
theorem gX8_people_X8_forgetFound : GoodIn wsX8_people (wsV RX8 101 RX8 yX8_forgetFound wsX8_forgetFound) := goodIn_app (goodIn_of _ (by decide +kernel)) ggX8_people_X8_forgetFound
set_option maxRecDepth 20000 in
theorem ggX8_people_X0_takeFrom : GoodIn wsX8_people wsX0_takeFrom := goodIn_r _ [147, 18, 20, 21, 134, 148, 149, 150, 151, 135, 179, 180, 181, 182, 183] rfl (by decide +kernel)
set_option maxRecDepth 20000 in
theorem gX8_people_X0_takeFrom : GoodIn wsX8_people (wsV RX8 158 RX0 yX0_takeFrom wsX0_takeFrom) := goodIn_app (goodIn_of _ (by decide +kernel)) ggX8_people_X0_takeFrom
set_option maxRecDepth 20000 in
theorem ggX8_people_X2_clear : GoodIn wsX8_people wsX2_clear := goodIn_r _ [156, 157, 158, 184, 185, 186, 187] rfl (by decide +kernel)
set_option maxRecDepth 20000 in
theorem gX8_people_X2_clear : GoodIn wsX8_people (wsV RX8 162 RX2 yX2_clear wsX2_clear) := goodIn_app (goodIn_of _ (by decide +kernel)) ggX8_people_X2_clear
theorem dX8_people_0 : decode cX8_people 0 = .ok (.aload_n 0, 1) := by decide +kernel
theorem dX8_people_1 : decode cX8_people 1 = .ok (.getfield 26, 3) := by decide +kernel
theorem dX8_people_4 : decode cX8_people 4 = .ok (.aload_n 0, 1) := by decide +kernel
theorem dX8_people_5 : decode cX8_people 5 = .ok (.getfield 46, 3) := by decide +kernel
theorem dX8_people_8 : decode cX8_people 8 = .ok (.invokevirtual 154, 3) := by decide +kernel
theorem dX8_people_11 : decode cX8_people 11 = .ok (.istore_n 1, 1) := by decide +kernel
theorem dX8_people_12 : decode cX8_people 12 = .ok (.aload_n 0, 1) := by decide +kernel
theorem dX8_people_13 : decode cX8_people 13 = .ok (.getfield 26, 3) := by decide +kernel
theorem dX8_people_16 : decode cX8_people 16 = .ok (.iconst 0, 1) := by decide +kernel
theorem dX8_people_17 : decode cX8_people 17 = .ok (.putfield 150, 3) := by decide +kernel
theorem dX8_people_20 : decode cX8_people 20 = .ok (.iload_n 1, 1) := by decide +kernel
theorem dX8_people_21 : decode cX8_people 21 = .ok (.ifCond .le 25, 3) := by decide +kernel
theorem dX8_people_24 : decode cX8_people 24 = .ok (.aload_n 0, 1) := by decide +kernel
theorem dX8_people_25 : decode cX8_people 25 = .ok (.invokevirtual 101, 3) := by decide +kernel
theorem dX8_people_28 : decode cX8_people 28 = .ok (.aload_n 0, 1) := by decide +kernel
theorem dX8_people_29 : decode cX8_people 29 = .ok (.getfield 10, 3) := by decide +kernel
theorem dX8_people_32 : decode cX8_people 32 = .ok (.aload_n 0, 1) := by decide +kernel
theorem dX8_people_33 : decode cX8_people 33 = .ok (.getfield 46, 3) := by decide +kernel
theorem dX8_people_36 : decode cX8_people 36 = .ok (.invokevirtual 158, 3) := by decide +kernel
theorem dX8_people_39 : decode cX8_people 39 = .ok (.aload_n 0, 1) := by decide +kernel
theorem dX8_people_40 : decode cX8_people 40 = .ok (.getfield 19, 3) := by decide +kernel
theorem dX8_people_43 : decode cX8_people 43 = .ok (.invokevirtual 162, 3) := by decide +kernel
theorem dX8_people_46 : decode cX8_people 46 = .ok (.iload_n 1, 1) := by decide +kernel
theorem dX8_people_47 : decode cX8_people 47 = .ok (.ireturn, 1) := by decide +kernel
set_option maxRecDepth 20000 in
theorem ggX8_plan_X5_readPlan : GoodIn wsX8_plan wsX5_readPlan := goodIn_r _ [11, 12, 13, 14, 15, 16, 17, 18, 19, 20, 21, 22, 23, 24, 10, 25, 26, 27, 28, 29, 30, 31, 32, 33, 34, 35, 36, 37, 38, 39, 40, 41, 42, 43, 44, 83, 84, 85, 86, 87, 88, 89] rfl (by decide +kernel)
set_option maxRecDepth 20000 in
theorem gX8_plan_X5_readPlan : GoodIn wsX8_plan (wsV RX8 165 RX5 yX5_readPlan wsX5_readPlan) := goodIn_app (goodIn_of _ (by decide +kernel)) ggX8_plan_X5_readPlan
set_option maxRecDepth 20000 in
theorem ggX8_plan_X8_forgetFound : GoodIn wsX8_plan wsX8_forgetFound := goodIn_r _ [49, 50, 51, 52, 61, 62, 63, 64, 65, 66, 67, 68, 69, 70, 71, 72, 73, 74, 75, 76, 77] rfl (by decide +kernel)
set_option maxRecDepth 20000 in
theorem gX8_plan_X8_forgetFound : GoodIn wsX8_plan (wsV RX8 101 RX8 yX8_forgetFound wsX8_forgetFound) := goodIn_app (goodIn_of _ (by decide +kernel)) ggX8_plan_X8_forgetFound
set_option maxRecDepth 20000 in
theorem ggX8_plan_X2_takeFrom : GoodIn wsX8_plan wsX2_takeFrom := goodIn_r _ [56, 20, 21, 40, 57, 58, 59, 60, 41, 86, 87, 88, 89] rfl (by decide +kernel)
set_option maxRecDepth 20000 in
theorem gX8_plan_X2_takeFrom : GoodIn wsX8_plan (wsV RX8 169 RX2 yX2_takeFrom wsX2_takeFrom) := goodIn_app (goodIn_of _ (by decide +kernel)) ggX8_plan_X2_takeFrom
theorem dX8_plan_0 : decode cX8_plan 0 = .ok (.aload_n 0, 1) := by decide +kernel
theorem dX8_plan_1 : decode cX8_plan 1 = .ok (.getfield 26, 3) := by decide +kernel
theorem dX8_plan_4 : decode cX8_plan 4 = .ok (.aload_n 0, 1) := by decide +kernel
theorem dX8_plan_5 : decode cX8_plan 5 = .ok (.getfield 49, 3) := by decide +kernel
theorem dX8_plan_8 : decode cX8_plan 8 = .ok (.aload_n 0, 1) := by decide +kernel
theorem dX8_plan_9 : decode cX8_plan 9 = .ok (.getfield 10, 3) := by decide +kernel
theorem dX8_plan_12 : decode cX8_plan 12 = .ok (.getfield 98, 3) := by decide +kernel
theorem dX8_plan_15 : decode cX8_plan 15 = .ok (.invokevirtual 165, 3) := by decide +kernel
theorem dX8_plan_18 : decode cX8_plan 18 = .ok (.istore_n 1, 1) := by decide +kernel
theorem dX8_plan_19 : decode cX8_plan 19 = .ok (.aload_n 0, 1) := by decide +kernel
theorem dX8_plan_20 : decode cX8_plan 20 = .ok (.getfield 26, 3) := by decide +kernel
theorem dX8_plan_23 : decode cX8_plan 23 = .ok (.iconst 0, 1) := by decide +kernel
theorem dX8_plan_24 : decode cX8_plan 24 = .ok (.putfield 150, 3) := by decide +kernel
theorem dX8_plan_27 : decode cX8_plan 27 = .ok (.iload_n 1, 1) := by decide +kernel
theorem dX8_plan_28 : decode cX8_plan 28 = .ok (.ifCond .le 18, 3) := by decide +kernel
theorem dX8_plan_31 : decode cX8_plan 31 = .ok (.aload_n 0, 1) := by decide +kernel
theorem dX8_plan_32 : decode cX8_plan 32 = .ok (.invokevirtual 101, 3) := by decide +kernel
theorem dX8_plan_35 : decode cX8_plan 35 = .ok (.aload_n 0, 1) := by decide +kernel
theorem dX8_plan_36 : decode cX8_plan 36 = .ok (.getfield 19, 3) := by decide +kernel
theorem dX8_plan_39 : decode cX8_plan 39 = .ok (.aload_n 0, 1) := by decide +kernel
theorem dX8_plan_40 : decode cX8_plan 40 = .ok (.getfield 49, 3) := by decide +kernel
theorem dX8_plan_43 : decode cX8_plan 43 = .ok (.invokevirtual 169, 3) := by decide +kernel
theorem dX8_plan_46 : decode cX8_plan 46 = .ok (.iload_n 1, 1) := by decide +kernel
theorem dX8_plan_47 : decode cX8_plan 47 = .ok (.ireturn, 1) := by decide +kernel
set_option maxRecDepth 20000 in
theorem ggX8_count_X0_penceOfAll : GoodIn wsX8_count wsX0_penceOfAll := goodIn_r _ [10, 11, 12, 43, 44, 45, 46, 47] rfl (by decide +kernel)
set_option maxRecDepth 20000 in
theorem gX8_count_X0_penceOfAll : GoodIn wsX8_count (wsV RX8 172 RX0 yX0_penceOfAll wsX0_penceOfAll) := goodIn_app (goodIn_of _ (by decide +kernel)) ggX8_count_X0_penceOfAll
set_option maxRecDepth 20000 in
theorem ggX8_count_X0_askings : GoodIn wsX8_count wsX0_askings := goodIn_r _ [16, 17, 18, 19, 20, 21, 22, 23, 24, 43, 44, 45, 46, 47] rfl (by decide +kernel)
set_option maxRecDepth 20000 in
theorem gX8_count_X0_askings : GoodIn wsX8_count (wsV RX8 142 RX0 yX0_askings wsX0_askings) := goodIn_app (goodIn_of _ (by decide +kernel)) ggX8_count_X0_askings
set_option maxRecDepth 20000 in
theorem ggX8_count_J6_bitCount_0f7a4 : GoodIn wsX8_count wsJ6_bitCount_0f7a4 := goodIn_r _ [21, 22, 23, 24] rfl (by decide +kernel)
set_option maxRecDepth 20000 in
theorem gX8_count_J6_bitCount_0f7a4 : GoodIn wsX8_count (va_wsS RX8 179 yJ6_bitCount_0f7a4 wsJ6_bitCount_0f7a4) := goodIn_app (goodIn_of _ (by decide +kernel)) ggX8_count_J6_bitCount_0f7a4
theorem dX8_count_0 : decode cX8_count 0 = .ok (.iload_n 1, 1) := by decide +kernel
theorem dX8_count_1 : decode cX8_count 1 = .ok (.tableswitch 78 0 4 #[35, 43, 51, 59, 67], 35) := by decide +kernel
theorem dX8_count_36 : decode cX8_count 36 = .ok (.aload_n 0, 1) := by decide +kernel
theorem dX8_count_37 : decode cX8_count 37 = .ok (.getfield 10, 3) := by decide +kernel
theorem dX8_count_40 : decode cX8_count 40 = .ok (.getfield 98, 3) := by decide +kernel
theorem dX8_count_43 : decode cX8_count 43 = .ok (.ireturn, 1) := by decide +kernel
theorem dX8_count_44 : decode cX8_count 44 = .ok (.aload_n 0, 1) := by decide +kernel
theorem dX8_count_45 : decode cX8_count 45 = .ok (.getfield 10, 3) := by decide +kernel
theorem dX8_count_48 : decode cX8_count 48 = .ok (.invokevirtual 172, 3) := by decide +kernel
theorem dX8_count_51 : decode cX8_count 51 = .ok (.ireturn, 1) := by decide +kernel
theorem dX8_count_52 : decode cX8_count 52 = .ok (.aload_n 0, 1) := by decide +kernel
theorem dX8_count_53 : decode cX8_count 53 = .ok (.getfield 10, 3) := by decide +kernel
theorem dX8_count_56 : decode cX8_count 56 = .ok (.invokevirtual 142, 3) := by decide +kernel
theorem dX8_count_59 : decode cX8_count 59 = .ok (.ireturn, 1) := by decide +kernel
theorem dX8_count_60 : decode cX8_count 60 = .ok (.aload_n 0, 1) := by decide +kernel
theorem dX8_count_61 : decode cX8_count 61 = .ok (.getfield 19, 3) := by decide +kernel
theorem dX8_count_64 : decode cX8_count 64 = .ok (.getfield 175, 3) := by decide +kernel
theorem dX8_count_67 : decode cX8_count 67 = .ok (.ireturn, 1) := by decide +kernel
theorem dX8_count_68 : decode cX8_count 68 = .ok (.aload_n 0, 1) := by decide +kernel
theorem dX8_count_69 : decode cX8_count 69 = .ok (.getfield 19, 3) := by decide +kernel
theorem dX8_count_72 : decode cX8_count 72 = .ok (.getfield 176, 3) := by decide +kernel
theorem dX8_count_75 : decode cX8_count 75 = .ok (.invokestatic 179, 3) := by decide +kernel
theorem dX8_count_78 : decode cX8_count 78 = .ok (.ireturn, 1) := by decide +kernel
theorem dX8_count_79 : decode cX8_count 79 = .ok (.iconst (-1), 1) := by decide +kernel
theorem dX8_count_80 : decode cX8_count 80 = .ok (.ireturn, 1) := by decide +kernel
set_option maxRecDepth 20000 in
theorem ggX8_run_X8_forgetFound : GoodIn wsX8_run wsX8_forgetFound := goodIn_r _ [10, 11, 12, 13, 41, 42, 43, 44, 45, 46, 47, 48, 49, 50, 51, 52, 53, 54, 55, 56, 57] rfl (by decide +kernel)
set_option maxRecDepth 20000 in
theorem gX8_run_X8_forgetFound : GoodIn wsX8_run (wsV RX8 101 RX8 yX8_forgetFound wsX8_forgetFound) := goodIn_app (goodIn_of _ (by decide +kernel)) ggX8_run_X8_forgetFound
set_option maxRecDepth 20000 in
theorem ggX8_run_X0_tryAsking : GoodIn wsX8_run wsX0_tryAsking := goodIn_r _ [18, 19, 20, 21, 22, 23, 17, 24, 25, 26, 27, 28, 29, 62, 63, 64, 65, 66] rfl (by decide +kernel)
set_option maxRecDepth 20000 in
theorem gX8_run_X0_tryAsking : GoodIn wsX8_run (wsV RX8 139 RX0 yX0_tryAsking wsX0_tryAsking) := goodIn_app (goodIn_of _ (by decide +kernel)) ggX8_run_X0_tryAsking
set_option maxRecDepth 20000 in
theorem ggX8_run_X2_endWeekIfDue : GoodIn wsX8_run wsX2_endWeekIfDue := goodIn_r _ [34, 35, 36, 37, 38, 33, 39, 40, 62, 63, 64, 65, 66, 58, 59, 60, 61] rfl (by decide +kernel)
set_option maxRecDepth 20000 in
theorem gX8_run_X2_endWeekIfDue : GoodIn wsX8_run (wsV RX8 190 RX2 yX2_endWeekIfDue wsX2_endWeekIfDue) := goodIn_app (goodIn_of _ (by decide +kernel)) ggX8_run_X2_endWeekIfDue
theorem dX8_run_0 : decode cX8_run 0 = .ok (.aload_n 0, 1) := by decide +kernel
theorem dX8_run_1 : decode cX8_run 1 = .ok (.invokevirtual 101, 3) := by decide +kernel
theorem dX8_run_4 : decode cX8_run 4 = .ok (.iconst 0, 1) := by decide +kernel
theorem dX8_run_5 : decode cX8_run 5 = .ok (.istore_n 1, 1) := by decide +kernel
theorem dX8_run_6 : decode cX8_run 6 = .ok (.iload_n 1, 1) := by decide +kernel
theorem dX8_run_7 : decode cX8_run 7 = .ok (.aload_n 0, 1) := by decide +kernel
theorem dX8_run_8 : decode cX8_run 8 = .ok (.getfield 19, 3) := by decide +kernel
theorem dX8_run_11 : decode cX8_run 11 = .ok (.getfield 175, 3) := by decide +kernel
theorem dX8_run_14 : decode cX8_run 14 = .ok (.if_icmp .ge 51, 3) := by decide +kernel
theorem dX8_run_17 : decode cX8_run 17 = .ok (.aload_n 0, 1) := by decide +kernel
theorem dX8_run_18 : decode cX8_run 18 = .ok (.getfield 10, 3) := by decide +kernel
theorem dX8_run_21 : decode cX8_run 21 = .ok (.aload_n 0, 1) := by decide +kernel
theorem dX8_run_22 : decode cX8_run 22 = .ok (.getfield 19, 3) := by decide +kernel
theorem dX8_run_25 : decode cX8_run 25 = .ok (.getfield 184, 3) := by decide +kernel
theorem dX8_run_28 : decode cX8_run 28 = .ok (.iload_n 1, 1) := by decide +kernel
theorem dX8_run_29 : decode cX8_run 29 = .ok (.iaload, 1) := by decide +kernel
theorem dX8_run_30 : decode cX8_run 30 = .ok (.aload_n 0, 1) := by decide +kernel
theorem dX8_run_31 : decode cX8_run 31 = .ok (.getfield 19, 3) := by decide +kernel
theorem dX8_run_34 : decode cX8_run 34 = .ok (.getfield 187, 3) := by decide +kernel
theorem dX8_run_37 : decode cX8_run 37 = .ok (.iload_n 1, 1) := by decide +kernel
theorem dX8_run_38 : decode cX8_run 38 = .ok (.iaload, 1) := by decide +kernel
theorem dX8_run_39 : decode cX8_run 39 = .ok (.invokevirtual 139, 3) := by decide +kernel
theorem dX8_run_42 : decode cX8_run 42 = .ok (.bipush (-2), 2) := by decide +kernel
theorem dX8_run_44 : decode cX8_run 44 = .ok (.if_icmp .eq 21, 3) := by decide +kernel
theorem dX8_run_47 : decode cX8_run 47 = .ok (.aload_n 0, 1) := by decide +kernel
theorem dX8_run_48 : decode cX8_run 48 = .ok (.getfield 19, 3) := by decide +kernel
theorem dX8_run_51 : decode cX8_run 51 = .ok (.aload_n 0, 1) := by decide +kernel
theorem dX8_run_52 : decode cX8_run 52 = .ok (.getfield 10, 3) := by decide +kernel
theorem dX8_run_55 : decode cX8_run 55 = .ok (.iload_n 1, 1) := by decide +kernel
theorem dX8_run_56 : decode cX8_run 56 = .ok (.invokevirtual 190, 3) := by decide +kernel
theorem dX8_run_59 : decode cX8_run 59 = .ok (.iinc 1 1, 3) := by decide +kernel
theorem dX8_run_62 : decode cX8_run 62 = .ok (.goto (-56), 3) := by decide +kernel
theorem dX8_run_65 : decode cX8_run 65 = .ok (.iload_n 1, 1) := by decide +kernel
theorem dX8_run_66 : decode cX8_run 66 = .ok (.ireturn, 1) := by decide +kernel
set_option maxRecDepth 20000 in
theorem ggX8_most_X0_has : GoodIn wsX8_most wsX0_has := goodIn_r _ [8, 9, 119, 120, 121, 122, 123] rfl (by decide +kernel)
set_option maxRecDepth 20000 in
theorem gX8_most_X0_has : GoodIn wsX8_most (wsV RX8 108 RX0 yX0_has wsX0_has) := goodIn_app (goodIn_of _ (by decide +kernel)) ggX8_most_X0_has
set_option maxRecDepth 20000 in
theorem ggX8_most_X8_findTimes : GoodIn wsX8_most wsX8_findTimes := goodIn_r _ [14, 15, 2, 1, 16, 17, 18, 19, 20, 21, 22, 23, 24, 25, 26, 27, 28, 29, 30, 31, 32, 33, 34, 35, 36, 37, 38, 39, 40, 41, 42, 43, 7, 44, 9, 45, 46, 47, 48, 49, 50, 51, 52, 53, 54, 55, 56, 57, 58, 59, 60, 61, 62, 63, 64, 65, 66, 67, 68, 69, 70, 71, 72, 73, 74, 75, 76, 77, 78, 79, 80, 81, 82, 83, 84, 85, 86, 87, 88, 89, 90, 91, 92, 93, 94, 95, 96, 97, 98, 99, 100, 101, 102, 103, 104, 105, 106, 107, 108, 109, 110, 111, 112, 113, 114, 115, 116, 117, 118, 119, 120, 121, 122, 123, 124, 125, 126, 127] rfl (by decide +kernel)
set_option maxRecDepth 20000 in
theorem gX8_most_X8_findTimes : GoodIn wsX8_most (wsV RX8 194 RX8 yX8_findTimes wsX8_findTimes) := goodIn_app (goodIn_of _ (by decide +kernel)) ggX8_most_X8_findTimes
theorem dX8_most_0 : decode cX8_most 0 = .ok (.aload_n 0, 1) := by decide +kernel
theorem dX8_most_1 : decode cX8_most 1 = .ok (.getfield 10, 3) := by decide +kernel
theorem dX8_most_4 : decode cX8_most 4 = .ok (.iload_n 1, 1) := by decide +kernel
theorem dX8_most_5 : decode cX8_most 5 = .ok (.invokevirtual 108, 3) := by decide +kernel
theorem dX8_most_8 : decode cX8_most 8 = .ok (.ifCond .ne 5, 3) := by decide +kernel
theorem dX8_most_11 : decode cX8_most 11 = .ok (.iconst (-1), 1) := by decide +kernel
theorem dX8_most_12 : decode cX8_most 12 = .ok (.ireturn, 1) := by decide +kernel
theorem dX8_most_13 : decode cX8_most 13 = .ok (.aload_n 0, 1) := by decide +kernel
theorem dX8_most_14 : decode cX8_most 14 = .ok (.iload_n 1, 1) := by decide +kernel
theorem dX8_most_15 : decode cX8_most 15 = .ok (.invokevirtual 194, 3) := by decide +kernel
theorem dX8_most_18 : decode cX8_most 18 = .ok (.aload_n 0, 1) := by decide +kernel
theorem dX8_most_19 : decode cX8_most 19 = .ok (.getfield 59, 3) := by decide +kernel
theorem dX8_most_22 : decode cX8_most 22 = .ok (.getfield 198, 3) := by decide +kernel
theorem dX8_most_25 : decode cX8_most 25 = .ok (.ireturn, 1) := by decide +kernel
set_option maxRecDepth 20000 in
theorem ggX8_when_X0_isPair : GoodIn wsX8_when wsX0_isPair := goodIn_r _ [7, 8, 9, 10, 6, 11, 12, 121, 122, 123, 124, 125] rfl (by decide +kernel)
set_option maxRecDepth 20000 in
theorem gX8_when_X0_isPair : GoodIn wsX8_when (wsV RX8 132 RX0 yX0_isPair wsX0_isPair) := goodIn_app (goodIn_of _ (by decide +kernel)) ggX8_when_X0_isPair
set_option maxRecDepth 20000 in
theorem ggX8_when_X8_findTimes : GoodIn wsX8_when wsX8_findTimes := goodIn_r _ [17, 18, 2, 1, 19, 20, 21, 22, 23, 24, 25, 26, 27, 28, 29, 30, 31, 32, 33, 34, 35, 36, 37, 38, 39, 40, 41, 42, 43, 44, 45, 46, 6, 47, 12, 48, 49, 50, 51, 52, 53, 54, 55, 56, 57, 58, 59, 60, 61, 62, 63, 64, 65, 66, 67, 68, 69, 70, 71, 72, 73, 74, 75, 76, 77, 78, 79, 80, 81, 82, 83, 84, 85, 86, 87, 88, 89, 90, 91, 92, 93, 94, 95, 96, 97, 98, 99, 104, 105, 106, 107, 108, 109, 110, 111, 112, 113, 114, 115, 116, 117, 118, 119, 120, 126, 127, 128, 129, 130, 121, 122, 123, 124, 125, 131, 132, 133, 134] rfl (by decide +kernel)
set_option maxRecDepth 20000 in
theorem gX8_when_X8_findTimes : GoodIn wsX8_when (wsV RX8 194 RX8 yX8_findTimes wsX8_findTimes) := goodIn_app (goodIn_of _ (by decide +kernel)) ggX8_when_X8_findTimes
set_option maxRecDepth 20000 in
theorem ggX8_when_X6_timeFor : GoodIn wsX8_when wsX6_timeFor := goodIn_r _ [103, 27, 63, 126, 127, 128, 129, 130] rfl (by decide +kernel)
set_option maxRecDepth 20000 in
theorem gX8_when_X6_timeFor : GoodIn wsX8_when (wsV RX8 201 RX6 yX6_timeFor wsX6_timeFor) := goodIn_app (goodIn_of _ (by decide +kernel)) ggX8_when_X6_timeFor
theorem dX8_when_0 : decode cX8_when 0 = .ok (.aload_n 0, 1) := by decide +kernel
theorem dX8_when_1 : decode cX8_when 1 = .ok (.getfield 10, 3) := by decide +kernel
theorem dX8_when_4 : decode cX8_when 4 = .ok (.iload_n 1, 1) := by decide +kernel
theorem dX8_when_5 : decode cX8_when 5 = .ok (.iload_n 2, 1) := by decide +kernel
theorem dX8_when_6 : decode cX8_when 6 = .ok (.invokevirtual 132, 3) := by decide +kernel
theorem dX8_when_9 : decode cX8_when 9 = .ok (.ifCond .ne 5, 3) := by decide +kernel
theorem dX8_when_12 : decode cX8_when 12 = .ok (.iconst (-1), 1) := by decide +kernel
theorem dX8_when_13 : decode cX8_when 13 = .ok (.ireturn, 1) := by decide +kernel
theorem dX8_when_14 : decode cX8_when 14 = .ok (.aload_n 0, 1) := by decide +kernel
theorem dX8_when_15 : decode cX8_when 15 = .ok (.iload_n 1, 1) := by decide +kernel
theorem dX8_when_16 : decode cX8_when 16 = .ok (.invokevirtual 194, 3) := by decide +kernel
theorem dX8_when_19 : decode cX8_when 19 = .ok (.aload_n 0, 1) := by decide +kernel
theorem dX8_when_20 : decode cX8_when 20 = .ok (.getfield 59, 3) := by decide +kernel
theorem dX8_when_23 : decode cX8_when 23 = .ok (.iload_n 2, 1) := by decide +kernel
theorem dX8_when_24 : decode cX8_when 24 = .ok (.invokevirtual 201, 3) := by decide +kernel
theorem dX8_when_27 : decode cX8_when 27 = .ok (.ireturn, 1) := by decide +kernel
set_option maxRecDepth 20000 in
theorem ggX8_turns_X0_has : GoodIn wsX8_turns wsX0_has := goodIn_r _ [8, 9, 78, 79, 80, 81, 82] rfl (by decide +kernel)
set_option maxRecDepth 20000 in
theorem gX8_turns_X0_has : GoodIn wsX8_turns (wsV RX8 108 RX0 yX0_has wsX0_has) := goodIn_app (goodIn_of _ (by decide +kernel)) ggX8_turns_X0_has
set_option maxRecDepth 20000 in
theorem ggX8_turns_X8_findTurns : GoodIn wsX8_turns wsX8_findTurns := goodIn_r _ [14, 15, 2, 1, 16, 17, 18, 19, 20, 21, 22, 23, 24, 7, 25, 9, 26, 27, 28, 29, 30, 31, 32, 33, 34, 35, 36, 37, 38, 39, 40, 41, 42, 43, 44, 45, 46, 47, 48, 49, 50, 51, 52, 53, 54, 55, 56, 57, 58, 59, 60, 61, 62, 63, 64, 65, 66, 67, 68, 69, 70, 71, 72, 73, 74, 75, 76, 77, 78, 79, 80, 81, 82] rfl (by decide +kernel)
set_option maxRecDepth 20000 in
theorem gX8_turns_X8_findTurns : GoodIn wsX8_turns (wsV RX8 204 RX8 yX8_findTurns wsX8_findTurns) := goodIn_app (goodIn_of _ (by decide +kernel)) ggX8_turns_X8_findTurns
theorem dX8_turns_0 : decode cX8_turns 0 = .ok (.aload_n 0, 1) := by decide +kernel
theorem dX8_turns_1 : decode cX8_turns 1 = .ok (.getfield 10, 3) := by decide +kernel
theorem dX8_turns_4 : decode cX8_turns 4 = .ok (.iload_n 1, 1) := by decide +kernel
theorem dX8_turns_5 : decode cX8_turns 5 = .ok (.invokevirtual 108, 3) := by decide +kernel
theorem dX8_turns_8 : decode cX8_turns 8 = .ok (.ifCond .ne 5, 3) := by decide +kernel
theorem dX8_turns_11 : decode cX8_turns 11 = .ok (.iconst (-1), 1) := by decide +kernel
theorem dX8_turns_12 : decode cX8_turns 12 = .ok (.ireturn, 1) := by decide +kernel
theorem dX8_turns_13 : decode cX8_turns 13 = .ok (.aload_n 0, 1) := by decide +kernel
theorem dX8_turns_14 : decode cX8_turns 14 = .ok (.invokevirtual 204, 3) := by decide +kernel
theorem dX8_turns_17 : decode cX8_turns 17 = .ok (.aload_n 0, 1) := by decide +kernel
theorem dX8_turns_18 : decode cX8_turns 18 = .ok (.getfield 66, 3) := by decide +kernel
theorem dX8_turns_21 : decode cX8_turns 21 = .ok (.getfield 207, 3) := by decide +kernel
theorem dX8_turns_24 : decode cX8_turns 24 = .ok (.iconst 0, 1) := by decide +kernel
theorem dX8_turns_25 : decode cX8_turns 25 = .ok (.aaload, 1) := by decide +kernel
theorem dX8_turns_26 : decode cX8_turns 26 = .ok (.iload_n 1, 1) := by decide +kernel
theorem dX8_turns_27 : decode cX8_turns 27 = .ok (.iaload, 1) := by decide +kernel
theorem dX8_turns_28 : decode cX8_turns 28 = .ok (.ireturn, 1) := by decide +kernel
set_option maxRecDepth 20000 in
theorem ggX8_ends_X0_has : GoodIn wsX8_ends wsX0_has := goodIn_r _ [8, 9, 78, 79, 80, 81, 82] rfl (by decide +kernel)
set_option maxRecDepth 20000 in
theorem gX8_ends_X0_has : GoodIn wsX8_ends (wsV RX8 108 RX0 yX0_has wsX0_has) := goodIn_app (goodIn_of _ (by decide +kernel)) ggX8_ends_X0_has
set_option maxRecDepth 20000 in
theorem ggX8_ends_X8_findTurns : GoodIn wsX8_ends wsX8_findTurns := goodIn_r _ [14, 15, 2, 1, 16, 17, 18, 19, 20, 21, 22, 23, 24, 7, 25, 9, 26, 27, 28, 29, 30, 31, 32, 33, 34, 35, 36, 37, 38, 39, 40, 41, 42, 43, 44, 45, 46, 47, 48, 49, 50, 51, 52, 53, 54, 55, 56, 57, 58, 59, 60, 61, 62, 63, 64, 65, 66, 67, 68, 69, 70, 71, 72, 73, 74, 75, 76, 77, 78, 79, 80, 81, 82] rfl (by decide +kernel)
set_option maxRecDepth 20000 in
theorem gX8_ends_X8_findTurns : GoodIn wsX8_ends (wsV RX8 204 RX8 yX8_findTurns wsX8_findTurns) := goodIn_app (goodIn_of _ (by decide +kernel)) ggX8_ends_X8_findTurns
theorem dX8_ends_0 : decode cX8_ends 0 = .ok (.aload_n 0, 1) := by decide +kernel
theorem dX8_ends_1 : decode cX8_ends 1 = .ok (.getfield 10, 3) := by decide +kernel
theorem dX8_ends_4 : decode cX8_ends 4 = .ok (.iload_n 1, 1) := by decide +kernel
theorem dX8_ends_5 : decode cX8_ends 5 = .ok (.invokevirtual 108, 3) := by decide +kernel
theorem dX8_ends_8 : decode cX8_ends 8 = .ok (.ifCond .ne 5, 3) := by decide +kernel
theorem dX8_ends_11 : decode cX8_ends 11 = .ok (.iconst (-1), 1) := by decide +kernel
theorem dX8_ends_12 : decode cX8_ends 12 = .ok (.ireturn, 1) := by decide +kernel
theorem dX8_ends_13 : decode cX8_ends 13 = .ok (.aload_n 0, 1) := by decide +kernel
theorem dX8_ends_14 : decode cX8_ends 14 = .ok (.invokevirtual 204, 3) := by decide +kernel
theorem dX8_ends_17 : decode cX8_ends 17 = .ok (.aload_n 0, 1) := by decide +kernel
theorem dX8_ends_18 : decode cX8_ends 18 = .ok (.getfield 66, 3) := by decide +kernel
theorem dX8_ends_21 : decode cX8_ends 21 = .ok (.getfield 211, 3) := by decide +kernel
theorem dX8_ends_24 : decode cX8_ends 24 = .ok (.iconst 0, 1) := by decide +kernel
theorem dX8_ends_25 : decode cX8_ends 25 = .ok (.aaload, 1) := by decide +kernel
theorem dX8_ends_26 : decode cX8_ends 26 = .ok (.iload_n 1, 1) := by decide +kernel
theorem dX8_ends_27 : decode cX8_ends 27 = .ok (.iaload, 1) := by decide +kernel
theorem dX8_ends_28 : decode cX8_ends 28 = .ok (.ireturn, 1) := by decide +kernel
set_option maxRecDepth 20000 in
theorem ggX8_order_X1_search : GoodIn wsX8_order wsX1_search := goodIn_r _ [13, 14, 15, 16, 17, 18, 19, 20, 21, 22, 23, 24, 25, 26, 27, 28, 29, 30, 31, 32, 33, 34, 35, 36, 37, 38, 39, 40, 41, 42, 43, 44, 45, 46, 12, 47, 48, 49, 50, 51, 52, 53, 54, 55, 56, 57, 58, 59, 60, 61, 62, 63, 64, 65, 66, 67, 68, 69, 70, 71, 72, 73, 74, 75, 76, 77, 104, 105, 106, 107, 108, 109, 110, 111, 95, 96, 97, 98, 99, 100, 101, 102, 103] rfl (by decide +kernel)
set_option maxRecDepth 20000 in
theorem gX8_order_X1_search : GoodIn wsX8_order (wsV RX8 214 RX1 yX1_search wsX1_search) := goodIn_app (goodIn_of _ (by decide +kernel)) ggX8_order_X1_search
theorem dX8_order_0 : decode cX8_order 0 = .ok (.iload_n 1, 1) := by decide +kernel
theorem dX8_order_1 : decode cX8_order 1 = .ok (.iconst (-1), 1) := by decide +kernel
theorem dX8_order_2 : decode cX8_order 2 = .ok (.if_icmp .lt 9, 3) := by decide +kernel
theorem dX8_order_5 : decode cX8_order 5 = .ok (.iload_n 1, 1) := by decide +kernel
theorem dX8_order_6 : decode cX8_order 6 = .ok (.bipush 6, 2) := by decide +kernel
theorem dX8_order_8 : decode cX8_order 8 = .ok (.if_icmp .lt 5, 3) := by decide +kernel
theorem dX8_order_11 : decode cX8_order 11 = .ok (.iconst (-1), 1) := by decide +kernel
theorem dX8_order_12 : decode cX8_order 12 = .ok (.ireturn, 1) := by decide +kernel
theorem dX8_order_13 : decode cX8_order 13 = .ok (.aload_n 0, 1) := by decide +kernel
theorem dX8_order_14 : decode cX8_order 14 = .ok (.getfield 19, 3) := by decide +kernel
theorem dX8_order_17 : decode cX8_order 17 = .ok (.getfield 175, 3) := by decide +kernel
theorem dX8_order_20 : decode cX8_order 20 = .ok (.bipush 6, 2) := by decide +kernel
theorem dX8_order_22 : decode cX8_order 22 = .ok (.if_icmp .le 6, 3) := by decide +kernel
theorem dX8_order_25 : decode cX8_order 25 = .ok (.bipush (-3), 2) := by decide +kernel
theorem dX8_order_27 : decode cX8_order 27 = .ok (.ireturn, 1) := by decide +kernel
theorem dX8_order_28 : decode cX8_order 28 = .ok (.aload_n 0, 1) := by decide +kernel
theorem dX8_order_29 : decode cX8_order 29 = .ok (.getfield 10, 3) := by decide +kernel
theorem dX8_order_32 : decode cX8_order 32 = .ok (.getfield 98, 3) := by decide +kernel
theorem dX8_order_35 : decode cX8_order 35 = .ok (.ifCond .eq 14, 3) := by decide +kernel
theorem dX8_order_38 : decode cX8_order 38 = .ok (.iload_n 1, 1) := by decide +kernel
theorem dX8_order_39 : decode cX8_order 39 = .ok (.aload_n 0, 1) := by decide +kernel
theorem dX8_order_40 : decode cX8_order 40 = .ok (.getfield 19, 3) := by decide +kernel
theorem dX8_order_43 : decode cX8_order 43 = .ok (.getfield 175, 3) := by decide +kernel
theorem dX8_order_46 : decode cX8_order 46 = .ok (.if_icmp .lt 6, 3) := by decide +kernel
theorem dX8_order_49 : decode cX8_order 49 = .ok (.bipush (-4), 2) := by decide +kernel
theorem dX8_order_51 : decode cX8_order 51 = .ok (.ireturn, 1) := by decide +kernel
theorem dX8_order_52 : decode cX8_order 52 = .ok (.aload_n 0, 1) := by decide +kernel
theorem dX8_order_53 : decode cX8_order 53 = .ok (.getfield 91, 3) := by decide +kernel
theorem dX8_order_56 : decode cX8_order 56 = .ok (.ifCond .ne 25, 3) := by decide +kernel
theorem dX8_order_59 : decode cX8_order 59 = .ok (.aload_n 0, 1) := by decide +kernel
theorem dX8_order_60 : decode cX8_order 60 = .ok (.getfield 73, 3) := by decide +kernel
theorem dX8_order_63 : decode cX8_order 63 = .ok (.aload_n 0, 1) := by decide +kernel
theorem dX8_order_64 : decode cX8_order 64 = .ok (.getfield 10, 3) := by decide +kernel
theorem dX8_order_67 : decode cX8_order 67 = .ok (.aload_n 0, 1) := by decide +kernel
theorem dX8_order_68 : decode cX8_order 68 = .ok (.getfield 19, 3) := by decide +kernel
theorem dX8_order_71 : decode cX8_order 71 = .ok (.iconst 0, 1) := by decide +kernel
theorem dX8_order_72 : decode cX8_order 72 = .ok (.iconst 0, 1) := by decide +kernel
theorem dX8_order_73 : decode cX8_order 73 = .ok (.invokevirtual 214, 3) := by decide +kernel
theorem dX8_order_76 : decode cX8_order 76 = .ok (.aload_n 0, 1) := by decide +kernel
theorem dX8_order_77 : decode cX8_order 77 = .ok (.iconst 1, 1) := by decide +kernel
theorem dX8_order_78 : decode cX8_order 78 = .ok (.putfield 91, 3) := by decide +kernel
theorem dX8_order_81 : decode cX8_order 81 = .ok (.iload_n 1, 1) := by decide +kernel
theorem dX8_order_82 : decode cX8_order 82 = .ok (.ifCond .ge 13, 3) := by decide +kernel
theorem dX8_order_85 : decode cX8_order 85 = .ok (.aload_n 0, 1) := by decide +kernel
theorem dX8_order_86 : decode cX8_order 86 = .ok (.getfield 73, 3) := by decide +kernel
theorem dX8_order_89 : decode cX8_order 89 = .ok (.getfield 218, 3) := by decide +kernel
theorem dX8_order_92 : decode cX8_order 92 = .ok (.goto 12, 3) := by decide +kernel
theorem dX8_order_95 : decode cX8_order 95 = .ok (.aload_n 0, 1) := by decide +kernel
theorem dX8_order_96 : decode cX8_order 96 = .ok (.getfield 73, 3) := by decide +kernel
theorem dX8_order_99 : decode cX8_order 99 = .ok (.getfield 221, 3) := by decide +kernel
theorem dX8_order_102 : decode cX8_order 102 = .ok (.iload_n 1, 1) := by decide +kernel
theorem dX8_order_103 : decode cX8_order 103 = .ok (.iaload, 1) := by decide +kernel
theorem dX8_order_104 : decode cX8_order 104 = .ok (.ireturn, 1) := by decide +kernel
set_option maxRecDepth 20000 in
theorem ggX8_so_X1_search : GoodIn wsX8_so wsX1_search := goodIn_r _ [13, 14, 15, 16, 17, 18, 19, 20, 21, 22, 23, 24, 25, 26, 27, 28, 29, 30, 31, 32, 33, 34, 35, 36, 37, 38, 39, 40, 41, 42, 43, 44, 45, 46, 12, 47, 48, 49, 50, 51, 52, 53, 54, 55, 56, 57, 58, 59, 60, 61, 62, 63, 64, 65, 66, 67, 68, 69, 70, 71, 72, 73, 74, 75, 76, 77, 104, 105, 106, 107, 108, 109, 110, 111, 100, 101, 102, 103, 95, 96, 97, 98, 99] rfl (by decide +kernel)
set_option maxRecDepth 20000 in
theorem gX8_so_X1_search : GoodIn wsX8_so (wsV RX8 214 RX1 yX1_search wsX1_search) := goodIn_app (goodIn_of _ (by decide +kernel)) ggX8_so_X1_search
theorem dX8_so_0 : decode cX8_so 0 = .ok (.iload_n 1, 1) := by decide +kernel
theorem dX8_so_1 : decode cX8_so 1 = .ok (.ifCond .le 26, 3) := by decide +kernel
theorem dX8_so_4 : decode cX8_so 4 = .ok (.iload_n 1, 1) := by decide +kernel
theorem dX8_so_5 : decode cX8_so 5 = .ok (.iconst 1, 1) := by decide +kernel
theorem dX8_so_6 : decode cX8_so 6 = .ok (.aload_n 0, 1) := by decide +kernel
theorem dX8_so_7 : decode cX8_so 7 = .ok (.getfield 10, 3) := by decide +kernel
theorem dX8_so_10 : decode cX8_so 10 = .ok (.getfield 98, 3) := by decide +kernel
theorem dX8_so_13 : decode cX8_so 13 = .ok (.ishl, 1) := by decide +kernel
theorem dX8_so_14 : decode cX8_so 14 = .ok (.if_icmp .ge 13, 3) := by decide +kernel
theorem dX8_so_17 : decode cX8_so 17 = .ok (.iload_n 2, 1) := by decide +kernel
theorem dX8_so_18 : decode cX8_so 18 = .ok (.ifCond .lt 9, 3) := by decide +kernel
theorem dX8_so_21 : decode cX8_so 21 = .ok (.iload_n 2, 1) := by decide +kernel
theorem dX8_so_22 : decode cX8_so 22 = .ok (.ldc 224, 2) := by decide +kernel
theorem dX8_so_24 : decode cX8_so 24 = .ok (.if_icmp .le 5, 3) := by decide +kernel
theorem dX8_so_27 : decode cX8_so 27 = .ok (.iconst (-1), 1) := by decide +kernel
theorem dX8_so_28 : decode cX8_so 28 = .ok (.ireturn, 1) := by decide +kernel
theorem dX8_so_29 : decode cX8_so 29 = .ok (.aload_n 0, 1) := by decide +kernel
theorem dX8_so_30 : decode cX8_so 30 = .ok (.getfield 19, 3) := by decide +kernel
theorem dX8_so_33 : decode cX8_so 33 = .ok (.getfield 175, 3) := by decide +kernel
theorem dX8_so_36 : decode cX8_so 36 = .ok (.bipush 6, 2) := by decide +kernel
theorem dX8_so_38 : decode cX8_so 38 = .ok (.if_icmp .le 6, 3) := by decide +kernel
theorem dX8_so_41 : decode cX8_so 41 = .ok (.bipush (-3), 2) := by decide +kernel
theorem dX8_so_43 : decode cX8_so 43 = .ok (.ireturn, 1) := by decide +kernel
theorem dX8_so_44 : decode cX8_so 44 = .ok (.aload_n 0, 1) := by decide +kernel
theorem dX8_so_45 : decode cX8_so 45 = .ok (.getfield 73, 3) := by decide +kernel
theorem dX8_so_48 : decode cX8_so 48 = .ok (.aload_n 0, 1) := by decide +kernel
theorem dX8_so_49 : decode cX8_so 49 = .ok (.getfield 10, 3) := by decide +kernel
theorem dX8_so_52 : decode cX8_so 52 = .ok (.aload_n 0, 1) := by decide +kernel
theorem dX8_so_53 : decode cX8_so 53 = .ok (.getfield 19, 3) := by decide +kernel
theorem dX8_so_56 : decode cX8_so 56 = .ok (.iload_n 1, 1) := by decide +kernel
theorem dX8_so_57 : decode cX8_so 57 = .ok (.iload_n 2, 1) := by decide +kernel
theorem dX8_so_58 : decode cX8_so 58 = .ok (.invokevirtual 214, 3) := by decide +kernel
theorem dX8_so_61 : decode cX8_so 61 = .ok (.aload_n 0, 1) := by decide +kernel
theorem dX8_so_62 : decode cX8_so 62 = .ok (.iconst 1, 1) := by decide +kernel
theorem dX8_so_63 : decode cX8_so 63 = .ok (.putfield 91, 3) := by decide +kernel
theorem dX8_so_66 : decode cX8_so 66 = .ok (.aload_n 0, 1) := by decide +kernel
theorem dX8_so_67 : decode cX8_so 67 = .ok (.getfield 73, 3) := by decide +kernel
theorem dX8_so_70 : decode cX8_so 70 = .ok (.getfield 225, 3) := by decide +kernel
theorem dX8_so_73 : decode cX8_so 73 = .ok (.ireturn, 1) := by decide +kernel
set_option maxRecDepth 20000 in
theorem ggX8_exact_X0_has : GoodIn wsX8_exact wsX0_has := goodIn_r _ [9, 10, 43, 44, 45, 46, 47] rfl (by decide +kernel)
set_option maxRecDepth 20000 in
theorem gX8_exact_X0_has : GoodIn wsX8_exact (wsV RX8 108 RX0 yX0_has wsX0_has) := goodIn_app (goodIn_of _ (by decide +kernel)) ggX8_exact_X0_has
set_option maxRecDepth 20000 in
theorem ggX8_exact_X8_shareOut : GoodIn wsX8_exact wsX8_shareOut := goodIn_r _ [15, 1, 16, 3, 17, 18, 19, 20, 21, 22, 4, 23, 24, 8, 25, 26, 27, 28, 29, 30, 31, 32, 33, 34, 35, 36, 37, 38, 39, 40, 41, 42, 43, 44, 45, 46, 47, 48, 49, 50, 51] rfl (by decide +kernel)
set_option maxRecDepth 20000 in
theorem gX8_exact_X8_shareOut : GoodIn wsX8_exact (wsV RX8 230 RX8 yX8_shareOut wsX8_shareOut) := goodIn_app (goodIn_of _ (by decide +kernel)) ggX8_exact_X8_shareOut
theorem dX8_exact_0 : decode cX8_exact 0 = .ok (.aload_n 0, 1) := by decide +kernel
theorem dX8_exact_1 : decode cX8_exact 1 = .ok (.getfield 10, 3) := by decide +kernel
theorem dX8_exact_4 : decode cX8_exact 4 = .ok (.iload_n 1, 1) := by decide +kernel
theorem dX8_exact_5 : decode cX8_exact 5 = .ok (.invokevirtual 108, 3) := by decide +kernel
theorem dX8_exact_8 : decode cX8_exact 8 = .ok (.ifCond .eq 22, 3) := by decide +kernel
theorem dX8_exact_11 : decode cX8_exact 11 = .ok (.iload_n 2, 1) := by decide +kernel
theorem dX8_exact_12 : decode cX8_exact 12 = .ok (.iconst 1, 1) := by decide +kernel
theorem dX8_exact_13 : decode cX8_exact 13 = .ok (.if_icmp .lt 17, 3) := by decide +kernel
theorem dX8_exact_16 : decode cX8_exact 16 = .ok (.iload_n 2, 1) := by decide +kernel
theorem dX8_exact_17 : decode cX8_exact 17 = .ok (.iconst 3, 1) := by decide +kernel
theorem dX8_exact_18 : decode cX8_exact 18 = .ok (.if_icmp .gt 12, 3) := by decide +kernel
theorem dX8_exact_21 : decode cX8_exact 21 = .ok (.iload_n 3, 1) := by decide +kernel
theorem dX8_exact_22 : decode cX8_exact 22 = .ok (.ifCond .lt 8, 3) := by decide +kernel
theorem dX8_exact_25 : decode cX8_exact 25 = .ok (.iload_n 3, 1) := by decide +kernel
theorem dX8_exact_26 : decode cX8_exact 26 = .ok (.iconst 1, 1) := by decide +kernel
theorem dX8_exact_27 : decode cX8_exact 27 = .ok (.if_icmp .le 7, 3) := by decide +kernel
theorem dX8_exact_30 : decode cX8_exact 30 = .ok (.ldc2_w 228, 3) := by decide +kernel
theorem dX8_exact_33 : decode cX8_exact 33 = .ok (.lreturn, 1) := by decide +kernel
theorem dX8_exact_34 : decode cX8_exact 34 = .ok (.bipush 24, 2) := by decide +kernel
theorem dX8_exact_36 : decode cX8_exact 36 = .ok (.istore 4, 2) := by decide +kernel
theorem dX8_exact_38 : decode cX8_exact 38 = .ok (.aload_n 0, 1) := by decide +kernel
theorem dX8_exact_39 : decode cX8_exact 39 = .ok (.iload_n 2, 1) := by decide +kernel
theorem dX8_exact_40 : decode cX8_exact 40 = .ok (.iload 4, 2) := by decide +kernel
theorem dX8_exact_42 : decode cX8_exact 42 = .ok (.invokevirtual 230, 3) := by decide +kernel
theorem dX8_exact_45 : decode cX8_exact 45 = .ok (.aload_n 0, 1) := by decide +kernel
theorem dX8_exact_46 : decode cX8_exact 46 = .ok (.getfield 52, 3) := by decide +kernel
theorem dX8_exact_49 : decode cX8_exact 49 = .ok (.iload_n 1, 1) := by decide +kernel
theorem dX8_exact_50 : decode cX8_exact 50 = .ok (.laload, 1) := by decide +kernel
theorem dX8_exact_51 : decode cX8_exact 51 = .ok (.lstore 5, 2) := by decide +kernel
theorem dX8_exact_53 : decode cX8_exact 53 = .ok (.lconst 1, 1) := by decide +kernel
theorem dX8_exact_54 : decode cX8_exact 54 = .ok (.iload 4, 2) := by decide +kernel
theorem dX8_exact_56 : decode cX8_exact 56 = .ok (.lshl, 1) := by decide +kernel
theorem dX8_exact_57 : decode cX8_exact 57 = .ok (.lstore 7, 2) := by decide +kernel
theorem dX8_exact_59 : decode cX8_exact 59 = .ok (.iconst 0, 1) := by decide +kernel
theorem dX8_exact_60 : decode cX8_exact 60 = .ok (.istore 9, 2) := by decide +kernel
theorem dX8_exact_62 : decode cX8_exact 62 = .ok (.iload 9, 2) := by decide +kernel
theorem dX8_exact_64 : decode cX8_exact 64 = .ok (.iload 4, 2) := by decide +kernel
theorem dX8_exact_66 : decode cX8_exact 66 = .ok (.if_icmp .ge 36, 3) := by decide +kernel
theorem dX8_exact_69 : decode cX8_exact 69 = .ok (.lload 5, 2) := by decide +kernel
theorem dX8_exact_71 : decode cX8_exact 71 = .ok (.ldc2_w 233, 3) := by decide +kernel
theorem dX8_exact_74 : decode cX8_exact 74 = .ok (.lrem, 1) := by decide +kernel
theorem dX8_exact_75 : decode cX8_exact 75 = .ok (.lconst 0, 1) := by decide +kernel
theorem dX8_exact_76 : decode cX8_exact 76 = .ok (.lcmp, 1) := by decide +kernel
theorem dX8_exact_77 : decode cX8_exact 77 = .ok (.ifCond .ne 25, 3) := by decide +kernel
theorem dX8_exact_80 : decode cX8_exact 80 = .ok (.lload 5, 2) := by decide +kernel
theorem dX8_exact_82 : decode cX8_exact 82 = .ok (.ldc2_w 233, 3) := by decide +kernel
theorem dX8_exact_85 : decode cX8_exact 85 = .ok (.ldiv, 1) := by decide +kernel
theorem dX8_exact_86 : decode cX8_exact 86 = .ok (.lstore 5, 2) := by decide +kernel
theorem dX8_exact_88 : decode cX8_exact 88 = .ok (.lload 7, 2) := by decide +kernel
theorem dX8_exact_90 : decode cX8_exact 90 = .ok (.ldc2_w 233, 3) := by decide +kernel
theorem dX8_exact_93 : decode cX8_exact 93 = .ok (.ldiv, 1) := by decide +kernel
theorem dX8_exact_94 : decode cX8_exact 94 = .ok (.lstore 7, 2) := by decide +kernel
theorem dX8_exact_96 : decode cX8_exact 96 = .ok (.iinc 9 1, 3) := by decide +kernel
theorem dX8_exact_99 : decode cX8_exact 99 = .ok (.goto (-37), 3) := by decide +kernel
theorem dX8_exact_102 : decode cX8_exact 102 = .ok (.iload_n 3, 1) := by decide +kernel
theorem dX8_exact_103 : decode cX8_exact 103 = .ok (.ifCond .ne 8, 3) := by decide +kernel
theorem dX8_exact_106 : decode cX8_exact 106 = .ok (.lload 5, 2) := by decide +kernel
theorem dX8_exact_108 : decode cX8_exact 108 = .ok (.goto 5, 3) := by decide +kernel
theorem dX8_exact_111 : decode cX8_exact 111 = .ok (.lload 7, 2) := by decide +kernel
theorem dX8_exact_113 : decode cX8_exact 113 = .ok (.lreturn, 1) := by decide +kernel
set_option maxRecDepth 20000 in
theorem ggX8_shun_X0_has : GoodIn wsX8_shun wsX0_has := goodIn_r _ [7, 8, 78, 79, 80, 81, 82] rfl (by decide +kernel)
set_option maxRecDepth 20000 in
theorem gX8_shun_X0_has : GoodIn wsX8_shun (wsV RX8 108 RX0 yX0_has wsX0_has) := goodIn_app (goodIn_of _ (by decide +kernel)) ggX8_shun_X0_has
set_option maxRecDepth 20000 in
theorem ggX8_shun_X8_penceWithout : GoodIn wsX8_shun wsX8_penceWithout := goodIn_r _ [13, 14, 1, 15, 16, 17, 18, 19, 20, 21, 22, 6, 23, 8, 24, 25, 26, 27, 28, 29, 30, 31, 32, 33, 34, 35, 36, 37, 38, 39, 40, 41, 42, 43, 44, 45, 46, 47, 48, 49, 50, 51, 52, 53, 54, 55, 56, 57, 58, 59, 60, 61, 62, 63, 64, 65, 66, 67, 68, 69, 70, 71, 72, 73, 74, 75, 76, 77, 83, 84, 85, 86, 78, 79, 80, 81, 82] rfl (by decide +kernel)
set_option maxRecDepth 20000 in
theorem gX8_shun_X8_penceWithout : GoodIn wsX8_shun (wsV RX8 235 RX8 yX8_penceWithout wsX8_penceWithout) := goodIn_app (goodIn_of _ (by decide +kernel)) ggX8_shun_X8_penceWithout
theorem dX8_shun_0 : decode cX8_shun 0 = .ok (.aload_n 0, 1) := by decide +kernel
theorem dX8_shun_1 : decode cX8_shun 1 = .ok (.getfield 10, 3) := by decide +kernel
theorem dX8_shun_4 : decode cX8_shun 4 = .ok (.iload_n 1, 1) := by decide +kernel
theorem dX8_shun_5 : decode cX8_shun 5 = .ok (.invokevirtual 108, 3) := by decide +kernel
theorem dX8_shun_8 : decode cX8_shun 8 = .ok (.ifCond .ne 5, 3) := by decide +kernel
theorem dX8_shun_11 : decode cX8_shun 11 = .ok (.iconst (-1), 1) := by decide +kernel
theorem dX8_shun_12 : decode cX8_shun 12 = .ok (.ireturn, 1) := by decide +kernel
theorem dX8_shun_13 : decode cX8_shun 13 = .ok (.aload_n 0, 1) := by decide +kernel
theorem dX8_shun_14 : decode cX8_shun 14 = .ok (.bipush 9, 2) := by decide +kernel
theorem dX8_shun_16 : decode cX8_shun 16 = .ok (.iload_n 1, 1) := by decide +kernel
theorem dX8_shun_17 : decode cX8_shun 17 = .ok (.invokevirtual 235, 3) := by decide +kernel
theorem dX8_shun_20 : decode cX8_shun 20 = .ok (.istore_n 2, 1) := by decide +kernel
theorem dX8_shun_21 : decode cX8_shun 21 = .ok (.bipush 9, 2) := by decide +kernel
theorem dX8_shun_23 : decode cX8_shun 23 = .ok (.istore_n 3, 1) := by decide +kernel
theorem dX8_shun_24 : decode cX8_shun 24 = .ok (.iconst 0, 1) := by decide +kernel
theorem dX8_shun_25 : decode cX8_shun 25 = .ok (.istore 4, 2) := by decide +kernel
theorem dX8_shun_27 : decode cX8_shun 27 = .ok (.iload 4, 2) := by decide +kernel
theorem dX8_shun_29 : decode cX8_shun 29 = .ok (.aload_n 0, 1) := by decide +kernel
theorem dX8_shun_30 : decode cX8_shun 30 = .ok (.getfield 10, 3) := by decide +kernel
theorem dX8_shun_33 : decode cX8_shun 33 = .ok (.getfield 98, 3) := by decide +kernel
theorem dX8_shun_36 : decode cX8_shun 36 = .ok (.if_icmp .ge 40, 3) := by decide +kernel
theorem dX8_shun_39 : decode cX8_shun 39 = .ok (.iload 4, 2) := by decide +kernel
theorem dX8_shun_41 : decode cX8_shun 41 = .ok (.iload_n 1, 1) := by decide +kernel
theorem dX8_shun_42 : decode cX8_shun 42 = .ok (.if_icmp .ne 7, 3) := by decide +kernel
theorem dX8_shun_45 : decode cX8_shun 45 = .ok (.iload_n 2, 1) := by decide +kernel
theorem dX8_shun_46 : decode cX8_shun 46 = .ok (.goto 10, 3) := by decide +kernel
theorem dX8_shun_49 : decode cX8_shun 49 = .ok (.aload_n 0, 1) := by decide +kernel
theorem dX8_shun_50 : decode cX8_shun 50 = .ok (.iload 4, 2) := by decide +kernel
theorem dX8_shun_52 : decode cX8_shun 52 = .ok (.iload_n 1, 1) := by decide +kernel
theorem dX8_shun_53 : decode cX8_shun 53 = .ok (.invokevirtual 235, 3) := by decide +kernel
theorem dX8_shun_56 : decode cX8_shun 56 = .ok (.istore 5, 2) := by decide +kernel
theorem dX8_shun_58 : decode cX8_shun 58 = .ok (.iload 5, 2) := by decide +kernel
theorem dX8_shun_60 : decode cX8_shun 60 = .ok (.iload_n 2, 1) := by decide +kernel
theorem dX8_shun_61 : decode cX8_shun 61 = .ok (.if_icmp .le 9, 3) := by decide +kernel
theorem dX8_shun_64 : decode cX8_shun 64 = .ok (.iload 5, 2) := by decide +kernel
theorem dX8_shun_66 : decode cX8_shun 66 = .ok (.istore_n 2, 1) := by decide +kernel
theorem dX8_shun_67 : decode cX8_shun 67 = .ok (.iload 4, 2) := by decide +kernel
theorem dX8_shun_69 : decode cX8_shun 69 = .ok (.istore_n 3, 1) := by decide +kernel
theorem dX8_shun_70 : decode cX8_shun 70 = .ok (.iinc 4 1, 3) := by decide +kernel
theorem dX8_shun_73 : decode cX8_shun 73 = .ok (.goto (-46), 3) := by decide +kernel
theorem dX8_shun_76 : decode cX8_shun 76 = .ok (.iload_n 3, 1) := by decide +kernel
theorem dX8_shun_77 : decode cX8_shun 77 = .ok (.ireturn, 1) := by decide +kernel
set_option maxRecDepth 20000 in
theorem ggX8_image_X0_takeFrom : GoodIn wsX8_image wsX0_takeFrom := goodIn_r _ [10, 11, 12, 13, 14, 15, 16, 17, 18, 19, 47, 48, 49, 50, 51] rfl (by decide +kernel)
set_option maxRecDepth 20000 in
theorem gX8_image_X0_takeFrom : GoodIn wsX8_image (wsV RX8 158 RX0 yX0_takeFrom wsX0_takeFrom) := goodIn_app (goodIn_of _ (by decide +kernel)) ggX8_image_X0_takeFrom
set_option maxRecDepth 20000 in
theorem ggX8_image_X2_takeFrom : GoodIn wsX8_image wsX2_takeFrom := goodIn_r _ [24, 25, 26, 27, 28, 16, 17, 18, 29, 52, 53, 54, 55] rfl (by decide +kernel)
set_option maxRecDepth 20000 in
theorem gX8_image_X2_takeFrom : GoodIn wsX8_image (wsV RX8 169 RX2 yX2_takeFrom wsX2_takeFrom) := goodIn_app (goodIn_of _ (by decide +kernel)) ggX8_image_X2_takeFrom
theorem dX8_image_0 : decode cX8_image 0 = .ok (.aload_n 0, 1) := by decide +kernel
theorem dX8_image_1 : decode cX8_image 1 = .ok (.getfield 30, 3) := by decide +kernel
theorem dX8_image_4 : decode cX8_image 4 = .ok (.aload_n 0, 1) := by decide +kernel
theorem dX8_image_5 : decode cX8_image 5 = .ok (.getfield 10, 3) := by decide +kernel
theorem dX8_image_8 : decode cX8_image 8 = .ok (.invokevirtual 158, 3) := by decide +kernel
theorem dX8_image_11 : decode cX8_image 11 = .ok (.aload_n 0, 1) := by decide +kernel
theorem dX8_image_12 : decode cX8_image 12 = .ok (.getfield 33, 3) := by decide +kernel
theorem dX8_image_15 : decode cX8_image 15 = .ok (.aload_n 0, 1) := by decide +kernel
theorem dX8_image_16 : decode cX8_image 16 = .ok (.getfield 19, 3) := by decide +kernel
theorem dX8_image_19 : decode cX8_image 19 = .ok (.invokevirtual 169, 3) := by decide +kernel
theorem dX8_image_22 : decode cX8_image 22 = .ok (.aload_n 0, 1) := by decide +kernel
theorem dX8_image_23 : decode cX8_image 23 = .ok (.iconst 1, 1) := by decide +kernel
theorem dX8_image_24 : decode cX8_image 24 = .ok (.putfield 36, 3) := by decide +kernel
theorem dX8_image_27 : decode cX8_image 27 = .ok (.iconst 1, 1) := by decide +kernel
theorem dX8_image_28 : decode cX8_image 28 = .ok (.ireturn, 1) := by decide +kernel
set_option maxRecDepth 20000 in
theorem ggX8_restore_X8_forgetFound : GoodIn wsX8_restore wsX8_forgetFound := goodIn_r _ [10, 11, 12, 13, 38, 39, 40, 41, 42, 43, 44, 45, 46, 47, 48, 49, 50, 51, 52, 53, 54] rfl (by decide +kernel)
set_option maxRecDepth 20000 in
theorem gX8_restore_X8_forgetFound : GoodIn wsX8_restore (wsV RX8 101 RX8 yX8_forgetFound wsX8_forgetFound) := goodIn_app (goodIn_of _ (by decide +kernel)) ggX8_restore_X8_forgetFound
set_option maxRecDepth 20000 in
theorem ggX8_restore_X0_takeFrom : GoodIn wsX8_restore wsX0_takeFrom := goodIn_r _ [18, 19, 20, 21, 22, 23, 24, 25, 26, 27, 55, 56, 57, 58, 59] rfl (by decide +kernel)
set_option maxRecDepth 20000 in
theorem gX8_restore_X0_takeFrom : GoodIn wsX8_restore (wsV RX8 158 RX0 yX0_takeFrom wsX0_takeFrom) := goodIn_app (goodIn_of _ (by decide +kernel)) ggX8_restore_X0_takeFrom
set_option maxRecDepth 20000 in
theorem ggX8_restore_X2_takeFrom : GoodIn wsX8_restore wsX2_takeFrom := goodIn_r _ [32, 33, 34, 35, 36, 24, 25, 26, 37, 60, 61, 62, 63] rfl (by decide +kernel)
set_option maxRecDepth 20000 in
theorem gX8_restore_X2_takeFrom : GoodIn wsX8_restore (wsV RX8 169 RX2 yX2_takeFrom wsX2_takeFrom) := goodIn_app (goodIn_of _ (by decide +kernel)) ggX8_restore_X2_takeFrom
theorem dX8_restore_0 : decode cX8_restore 0 = .ok (.aload_n 0, 1) := by decide +kernel
theorem dX8_restore_1 : decode cX8_restore 1 = .ok (.getfield 36, 3) := by decide +kernel
theorem dX8_restore_4 : decode cX8_restore 4 = .ok (.ifCond .ne 6, 3) := by decide +kernel
theorem dX8_restore_7 : decode cX8_restore 7 = .ok (.bipush (-4), 2) := by decide +kernel
theorem dX8_restore_9 : decode cX8_restore 9 = .ok (.ireturn, 1) := by decide +kernel
theorem dX8_restore_10 : decode cX8_restore 10 = .ok (.aload_n 0, 1) := by decide +kernel
theorem dX8_restore_11 : decode cX8_restore 11 = .ok (.invokevirtual 101, 3) := by decide +kernel
theorem dX8_restore_14 : decode cX8_restore 14 = .ok (.aload_n 0, 1) := by decide +kernel
theorem dX8_restore_15 : decode cX8_restore 15 = .ok (.getfield 10, 3) := by decide +kernel
theorem dX8_restore_18 : decode cX8_restore 18 = .ok (.aload_n 0, 1) := by decide +kernel
theorem dX8_restore_19 : decode cX8_restore 19 = .ok (.getfield 30, 3) := by decide +kernel
theorem dX8_restore_22 : decode cX8_restore 22 = .ok (.invokevirtual 158, 3) := by decide +kernel
theorem dX8_restore_25 : decode cX8_restore 25 = .ok (.aload_n 0, 1) := by decide +kernel
theorem dX8_restore_26 : decode cX8_restore 26 = .ok (.getfield 19, 3) := by decide +kernel

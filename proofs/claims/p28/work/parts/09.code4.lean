theorem dX8_restore_29 : decode cX8_restore 29 = .ok (.aload_n 0, 1) := by decide +kernel
theorem dX8_restore_30 : decode cX8_restore 30 = .ok (.getfield 33, 3) := by decide +kernel
theorem dX8_restore_33 : decode cX8_restore 33 = .ok (.invokevirtual 169, 3) := by decide +kernel
theorem dX8_restore_36 : decode cX8_restore 36 = .ok (.iconst 1, 1) := by decide +kernel
theorem dX8_restore_37 : decode cX8_restore 37 = .ok (.ireturn, 1) := by decide +kernel
set_option maxRecDepth 20000 in
theorem ggX8_who_X8_isSheet : GoodIn wsX8_who wsX8_isSheet := goodIn_r _ [10] rfl (by decide +kernel)
set_option maxRecDepth 20000 in
theorem gX8_who_X8_isSheet : GoodIn wsX8_who (va_wsS RX8 238 yX8_isSheet wsX8_isSheet) := goodIn_app (goodIn_of _ (by decide +kernel)) ggX8_who_X8_isSheet
set_option maxRecDepth 20000 in
theorem ggX8_who_X8_isLane : GoodIn wsX8_who wsX8_isLane := goodIn_r _ [13] rfl (by decide +kernel)
set_option maxRecDepth 20000 in
theorem gX8_who_X8_isLane : GoodIn wsX8_who (va_wsS RX8 241 yX8_isLane wsX8_isLane) := goodIn_app (goodIn_of _ (by decide +kernel)) ggX8_who_X8_isLane
set_option maxRecDepth 20000 in
theorem ggX8_who_X4_lookAt : GoodIn wsX8_who wsX4_lookAt := goodIn_r _ [18, 19, 20, 21, 22, 17, 23, 24, 111, 112] rfl (by decide +kernel)
set_option maxRecDepth 20000 in
theorem gX8_who_X4_lookAt : GoodIn wsX8_who (wsV RX8 244 RX4 yX4_lookAt wsX4_lookAt) := goodIn_app (goodIn_of _ (by decide +kernel)) ggX8_who_X4_lookAt
set_option maxRecDepth 20000 in
theorem ggX8_who_X4_areTold : GoodIn wsX8_who wsX4_areTold := goodIn_r _ [28, 24, 29, 111, 112] rfl (by decide +kernel)
set_option maxRecDepth 20000 in
theorem gX8_who_X4_areTold : GoodIn wsX8_who (wsV RX8 248 RX4 yX4_areTold wsX4_areTold) := goodIn_app (goodIn_of _ (by decide +kernel)) ggX8_who_X4_areTold
set_option maxRecDepth 20000 in
theorem ggX8_who_X3_search : GoodIn wsX8_who wsX3_search := goodIn_r _ [34, 35, 36, 37, 38, 39, 40, 41, 42, 43, 44, 45, 46, 47, 48, 49, 50, 51, 52, 53, 54, 55, 56, 57, 58, 59, 33, 60, 61, 62, 63, 64, 65, 66, 67, 68, 69, 70, 71, 72, 73, 74, 75, 76, 77, 78, 79, 80, 81, 82, 105, 106, 107, 108, 109, 110, 100, 101, 102, 103, 104, 111, 112] rfl (by decide +kernel)
set_option maxRecDepth 20000 in
theorem gX8_who_X3_search : GoodIn wsX8_who (wsV RX8 251 RX3 yX3_search wsX3_search) := goodIn_app (goodIn_of _ (by decide +kernel)) ggX8_who_X3_search
theorem dX8_who_0 : decode cX8_who 0 = .ok (.iload_n 1, 1) := by decide +kernel
theorem dX8_who_1 : decode cX8_who 1 = .ok (.invokestatic 238, 3) := by decide +kernel
theorem dX8_who_4 : decode cX8_who 4 = .ok (.ifCond .eq 35, 3) := by decide +kernel
theorem dX8_who_7 : decode cX8_who 7 = .ok (.iload_n 2, 1) := by decide +kernel
theorem dX8_who_8 : decode cX8_who 8 = .ok (.invokestatic 241, 3) := by decide +kernel
theorem dX8_who_11 : decode cX8_who 11 = .ok (.ifCond .eq 28, 3) := by decide +kernel
theorem dX8_who_14 : decode cX8_who 14 = .ok (.iload 4, 2) := by decide +kernel
theorem dX8_who_16 : decode cX8_who 16 = .ok (.iconst 1, 1) := by decide +kernel
theorem dX8_who_17 : decode cX8_who 17 = .ok (.if_icmp .lt 22, 3) := by decide +kernel
theorem dX8_who_20 : decode cX8_who 20 = .ok (.iload 4, 2) := by decide +kernel
theorem dX8_who_22 : decode cX8_who 22 = .ok (.iconst 3, 1) := by decide +kernel
theorem dX8_who_23 : decode cX8_who 23 = .ok (.if_icmp .gt 16, 3) := by decide +kernel
theorem dX8_who_26 : decode cX8_who 26 = .ok (.iload 5, 2) := by decide +kernel
theorem dX8_who_28 : decode cX8_who 28 = .ok (.iconst (-1), 1) := by decide +kernel
theorem dX8_who_29 : decode cX8_who 29 = .ok (.if_icmp .lt 10, 3) := by decide +kernel
theorem dX8_who_32 : decode cX8_who 32 = .ok (.iload 5, 2) := by decide +kernel
theorem dX8_who_34 : decode cX8_who 34 = .ok (.iload 4, 2) := by decide +kernel
theorem dX8_who_36 : decode cX8_who 36 = .ok (.if_icmp .lt 5, 3) := by decide +kernel
theorem dX8_who_39 : decode cX8_who 39 = .ok (.iconst (-1), 1) := by decide +kernel
theorem dX8_who_40 : decode cX8_who 40 = .ok (.ireturn, 1) := by decide +kernel
theorem dX8_who_41 : decode cX8_who 41 = .ok (.aload_n 0, 1) := by decide +kernel
theorem dX8_who_42 : decode cX8_who 42 = .ok (.getfield 42, 3) := by decide +kernel
theorem dX8_who_45 : decode cX8_who 45 = .ok (.iload_n 1, 1) := by decide +kernel
theorem dX8_who_46 : decode cX8_who 46 = .ok (.aaload, 1) := by decide +kernel
theorem dX8_who_47 : decode cX8_who 47 = .ok (.astore 6, 2) := by decide +kernel
theorem dX8_who_49 : decode cX8_who 49 = .ok (.aload 6, 2) := by decide +kernel
theorem dX8_who_51 : decode cX8_who 51 = .ok (.ifnonnull 6, 3) := by decide +kernel
theorem dX8_who_54 : decode cX8_who 54 = .ok (.bipush (-11), 2) := by decide +kernel
theorem dX8_who_56 : decode cX8_who 56 = .ok (.ireturn, 1) := by decide +kernel
theorem dX8_who_57 : decode cX8_who 57 = .ok (.aload 6, 2) := by decide +kernel
theorem dX8_who_59 : decode cX8_who 59 = .ok (.iload_n 2, 1) := by decide +kernel
theorem dX8_who_60 : decode cX8_who 60 = .ok (.iload_n 3, 1) := by decide +kernel
theorem dX8_who_61 : decode cX8_who 61 = .ok (.iconst 2, 1) := by decide +kernel
theorem dX8_who_62 : decode cX8_who 62 = .ok (.aload_n 0, 1) := by decide +kernel
theorem dX8_who_63 : decode cX8_who 63 = .ok (.getfield 10, 3) := by decide +kernel
theorem dX8_who_66 : decode cX8_who 66 = .ok (.getfield 98, 3) := by decide +kernel
theorem dX8_who_69 : decode cX8_who 69 = .ok (.imul, 1) := by decide +kernel
theorem dX8_who_70 : decode cX8_who 70 = .ok (.invokevirtual 244, 3) := by decide +kernel
theorem dX8_who_73 : decode cX8_who 73 = .ok (.istore 7, 2) := by decide +kernel
theorem dX8_who_75 : decode cX8_who 75 = .ok (.iload 7, 2) := by decide +kernel
theorem dX8_who_77 : decode cX8_who 77 = .ok (.ifCond .eq 6, 3) := by decide +kernel
theorem dX8_who_80 : decode cX8_who 80 = .ok (.iload 7, 2) := by decide +kernel
theorem dX8_who_82 : decode cX8_who 82 = .ok (.ireturn, 1) := by decide +kernel
theorem dX8_who_83 : decode cX8_who 83 = .ok (.aload 6, 2) := by decide +kernel
theorem dX8_who_85 : decode cX8_who 85 = .ok (.iload_n 3, 1) := by decide +kernel
theorem dX8_who_86 : decode cX8_who 86 = .ok (.iconst 2, 1) := by decide +kernel
theorem dX8_who_87 : decode cX8_who 87 = .ok (.aload_n 0, 1) := by decide +kernel
theorem dX8_who_88 : decode cX8_who 88 = .ok (.getfield 10, 3) := by decide +kernel
theorem dX8_who_91 : decode cX8_who 91 = .ok (.getfield 98, 3) := by decide +kernel
theorem dX8_who_94 : decode cX8_who 94 = .ok (.imul, 1) := by decide +kernel
theorem dX8_who_95 : decode cX8_who 95 = .ok (.invokevirtual 248, 3) := by decide +kernel
theorem dX8_who_98 : decode cX8_who 98 = .ok (.ifCond .ne 6, 3) := by decide +kernel
theorem dX8_who_101 : decode cX8_who 101 = .ok (.bipush (-2), 2) := by decide +kernel
theorem dX8_who_103 : decode cX8_who 103 = .ok (.ireturn, 1) := by decide +kernel
theorem dX8_who_104 : decode cX8_who 104 = .ok (.aload_n 0, 1) := by decide +kernel
theorem dX8_who_105 : decode cX8_who 105 = .ok (.getfield 80, 3) := by decide +kernel
theorem dX8_who_108 : decode cX8_who 108 = .ok (.aload_n 0, 1) := by decide +kernel
theorem dX8_who_109 : decode cX8_who 109 = .ok (.getfield 10, 3) := by decide +kernel
theorem dX8_who_112 : decode cX8_who 112 = .ok (.aload 6, 2) := by decide +kernel
theorem dX8_who_114 : decode cX8_who 114 = .ok (.iload_n 3, 1) := by decide +kernel
theorem dX8_who_115 : decode cX8_who 115 = .ok (.iload 4, 2) := by decide +kernel
theorem dX8_who_117 : decode cX8_who 117 = .ok (.invokevirtual 251, 3) := by decide +kernel
theorem dX8_who_120 : decode cX8_who 120 = .ok (.aload_n 0, 1) := by decide +kernel
theorem dX8_who_121 : decode cX8_who 121 = .ok (.getfield 80, 3) := by decide +kernel
theorem dX8_who_124 : decode cX8_who 124 = .ok (.getfield 254, 3) := by decide +kernel
theorem dX8_who_127 : decode cX8_who 127 = .ok (.ifCond .ne 6, 3) := by decide +kernel
theorem dX8_who_130 : decode cX8_who 130 = .ok (.bipush (-4), 2) := by decide +kernel
theorem dX8_who_132 : decode cX8_who 132 = .ok (.ireturn, 1) := by decide +kernel
theorem dX8_who_133 : decode cX8_who 133 = .ok (.iload 5, 2) := by decide +kernel
theorem dX8_who_135 : decode cX8_who 135 = .ok (.ifCond .ge 13, 3) := by decide +kernel
theorem dX8_who_138 : decode cX8_who 138 = .ok (.aload_n 0, 1) := by decide +kernel
theorem dX8_who_139 : decode cX8_who 139 = .ok (.getfield 80, 3) := by decide +kernel
theorem dX8_who_142 : decode cX8_who 142 = .ok (.getfield 254, 3) := by decide +kernel
theorem dX8_who_145 : decode cX8_who 145 = .ok (.goto 13, 3) := by decide +kernel
theorem dX8_who_148 : decode cX8_who 148 = .ok (.aload_n 0, 1) := by decide +kernel
theorem dX8_who_149 : decode cX8_who 149 = .ok (.getfield 80, 3) := by decide +kernel
theorem dX8_who_152 : decode cX8_who 152 = .ok (.getfield 257, 3) := by decide +kernel
theorem dX8_who_155 : decode cX8_who 155 = .ok (.iload 5, 2) := by decide +kernel
theorem dX8_who_157 : decode cX8_who 157 = .ok (.iaload, 1) := by decide +kernel
theorem dX8_who_158 : decode cX8_who 158 = .ok (.ireturn, 1) := by decide +kernel
set_option maxRecDepth 20000 in
theorem ggX8_sheet_X8_isSheet : GoodIn wsX8_sheet wsX8_isSheet := goodIn_r _ [8] rfl (by decide +kernel)
set_option maxRecDepth 20000 in
theorem gX8_sheet_X8_isSheet : GoodIn wsX8_sheet (va_wsS RX8 238 yX8_isSheet wsX8_isSheet) := goodIn_app (goodIn_of _ (by decide +kernel)) ggX8_sheet_X8_isSheet
set_option maxRecDepth 20000 in
theorem ggX8_sheet_X8_isLane : GoodIn wsX8_sheet wsX8_isLane := goodIn_r _ [11] rfl (by decide +kernel)
set_option maxRecDepth 20000 in
theorem gX8_sheet_X8_isLane : GoodIn wsX8_sheet (va_wsS RX8 241 yX8_isLane wsX8_isLane) := goodIn_app (goodIn_of _ (by decide +kernel)) ggX8_sheet_X8_isLane
set_option maxRecDepth 20000 in
theorem ggX8_sheet_X4_init : GoodIn wsX8_sheet wsX4_init := goodIn_r _ [14, 15, 16, 17, 18, 19, 20, 21, 22, 23, 24, 25, 26, 27, 45, 46] rfl (by decide +kernel)
set_option maxRecDepth 20000 in
theorem gX8_sheet_X4_init : GoodIn wsX8_sheet (wsX4_init) := ggX8_sheet_X4_init
theorem dX8_sheet_0 : decode cX8_sheet 0 = .ok (.iload_n 1, 1) := by decide +kernel
theorem dX8_sheet_1 : decode cX8_sheet 1 = .ok (.invokestatic 238, 3) := by decide +kernel
theorem dX8_sheet_4 : decode cX8_sheet 4 = .ok (.ifCond .eq 16, 3) := by decide +kernel
theorem dX8_sheet_7 : decode cX8_sheet 7 = .ok (.iload_n 2, 1) := by decide +kernel
theorem dX8_sheet_8 : decode cX8_sheet 8 = .ok (.invokestatic 241, 3) := by decide +kernel
theorem dX8_sheet_11 : decode cX8_sheet 11 = .ok (.ifCond .eq 9, 3) := by decide +kernel
theorem dX8_sheet_14 : decode cX8_sheet 14 = .ok (.iload_n 3, 1) := by decide +kernel
theorem dX8_sheet_15 : decode cX8_sheet 15 = .ok (.bipush 24, 2) := by decide +kernel
theorem dX8_sheet_17 : decode cX8_sheet 17 = .ok (.if_icmp .le 5, 3) := by decide +kernel
theorem dX8_sheet_20 : decode cX8_sheet 20 = .ok (.iconst (-1), 1) := by decide +kernel
theorem dX8_sheet_21 : decode cX8_sheet 21 = .ok (.ireturn, 1) := by decide +kernel
theorem dX8_sheet_22 : decode cX8_sheet 22 = .ok (.iload_n 3, 1) := by decide +kernel
theorem dX8_sheet_23 : decode cX8_sheet 23 = .ok (.ifCond .ge 6, 3) := by decide +kernel
theorem dX8_sheet_26 : decode cX8_sheet 26 = .ok (.bipush (-14), 2) := by decide +kernel
theorem dX8_sheet_28 : decode cX8_sheet 28 = .ok (.ireturn, 1) := by decide +kernel
theorem dX8_sheet_29 : decode cX8_sheet 29 = .ok (.aload_n 0, 1) := by decide +kernel
theorem dX8_sheet_30 : decode cX8_sheet 30 = .ok (.getfield 42, 3) := by decide +kernel
theorem dX8_sheet_33 : decode cX8_sheet 33 = .ok (.iload_n 1, 1) := by decide +kernel
theorem dX8_sheet_34 : decode cX8_sheet 34 = .ok (.new 40, 3) := by decide +kernel
theorem dX8_sheet_37 : decode cX8_sheet 37 = .ok (.dup, 1) := by decide +kernel
theorem dX8_sheet_38 : decode cX8_sheet 38 = .ok (.iload_n 2, 1) := by decide +kernel
theorem dX8_sheet_39 : decode cX8_sheet 39 = .ok (.iload_n 3, 1) := by decide +kernel
theorem dX8_sheet_40 : decode cX8_sheet 40 = .ok (.invokespecial 258, 3) := by decide +kernel
theorem dX8_sheet_43 : decode cX8_sheet 43 = .ok (.aastore, 1) := by decide +kernel
theorem dX8_sheet_44 : decode cX8_sheet 44 = .ok (.iload_n 3, 1) := by decide +kernel
theorem dX8_sheet_45 : decode cX8_sheet 45 = .ok (.ireturn, 1) := by decide +kernel
set_option maxRecDepth 20000 in
theorem ggX8_drop_X8_isSheet : GoodIn wsX8_drop wsX8_isSheet := goodIn_r _ [6] rfl (by decide +kernel)
set_option maxRecDepth 20000 in
theorem gX8_drop_X8_isSheet : GoodIn wsX8_drop (va_wsS RX8 238 yX8_isSheet wsX8_isSheet) := goodIn_app (goodIn_of _ (by decide +kernel)) ggX8_drop_X8_isSheet
theorem dX8_drop_0 : decode cX8_drop 0 = .ok (.iload_n 1, 1) := by decide +kernel
theorem dX8_drop_1 : decode cX8_drop 1 = .ok (.invokestatic 238, 3) := by decide +kernel
theorem dX8_drop_4 : decode cX8_drop 4 = .ok (.ifCond .ne 5, 3) := by decide +kernel
theorem dX8_drop_7 : decode cX8_drop 7 = .ok (.iconst (-1), 1) := by decide +kernel
theorem dX8_drop_8 : decode cX8_drop 8 = .ok (.ireturn, 1) := by decide +kernel
theorem dX8_drop_9 : decode cX8_drop 9 = .ok (.aload_n 0, 1) := by decide +kernel
theorem dX8_drop_10 : decode cX8_drop 10 = .ok (.getfield 42, 3) := by decide +kernel
theorem dX8_drop_13 : decode cX8_drop 13 = .ok (.iload_n 1, 1) := by decide +kernel
theorem dX8_drop_14 : decode cX8_drop 14 = .ok (.aaload, 1) := by decide +kernel
theorem dX8_drop_15 : decode cX8_drop 15 = .ok (.astore_n 2, 1) := by decide +kernel
theorem dX8_drop_16 : decode cX8_drop 16 = .ok (.aload_n 2, 1) := by decide +kernel
theorem dX8_drop_17 : decode cX8_drop 17 = .ok (.ifnonnull 6, 3) := by decide +kernel
theorem dX8_drop_20 : decode cX8_drop 20 = .ok (.bipush (-11), 2) := by decide +kernel
theorem dX8_drop_22 : decode cX8_drop 22 = .ok (.ireturn, 1) := by decide +kernel
theorem dX8_drop_23 : decode cX8_drop 23 = .ok (.aload_n 0, 1) := by decide +kernel
theorem dX8_drop_24 : decode cX8_drop 24 = .ok (.getfield 42, 3) := by decide +kernel
theorem dX8_drop_27 : decode cX8_drop 27 = .ok (.iload_n 1, 1) := by decide +kernel
theorem dX8_drop_28 : decode cX8_drop 28 = .ok (.aconst_null, 1) := by decide +kernel
theorem dX8_drop_29 : decode cX8_drop 29 = .ok (.aastore, 1) := by decide +kernel
theorem dX8_drop_30 : decode cX8_drop 30 = .ok (.aload_n 2, 1) := by decide +kernel
theorem dX8_drop_31 : decode cX8_drop 31 = .ok (.getfield 260, 3) := by decide +kernel
theorem dX8_drop_34 : decode cX8_drop 34 = .ok (.arraylength, 1) := by decide +kernel
theorem dX8_drop_35 : decode cX8_drop 35 = .ok (.ireturn, 1) := by decide +kernel
set_option maxRecDepth 20000 in
theorem ggX8_item_X8_isSheet : GoodIn wsX8_item wsX8_isSheet := goodIn_r _ [5] rfl (by decide +kernel)
set_option maxRecDepth 20000 in
theorem gX8_item_X8_isSheet : GoodIn wsX8_item (va_wsS RX8 238 yX8_isSheet wsX8_isSheet) := goodIn_app (goodIn_of _ (by decide +kernel)) ggX8_item_X8_isSheet
set_option maxRecDepth 20000 in
theorem ggX8_item_X8_isLane : GoodIn wsX8_item wsX8_isLane := goodIn_r _ [8] rfl (by decide +kernel)
set_option maxRecDepth 20000 in
theorem gX8_item_X8_isLane : GoodIn wsX8_item (va_wsS RX8 241 yX8_isLane wsX8_isLane) := goodIn_app (goodIn_of _ (by decide +kernel)) ggX8_item_X8_isLane
set_option maxRecDepth 20000 in
theorem ggX8_item_X4_lookAt : GoodIn wsX8_item wsX4_lookAt := goodIn_r _ [13, 14, 15, 16, 17, 12, 18, 19, 41, 42] rfl (by decide +kernel)
set_option maxRecDepth 20000 in
theorem gX8_item_X4_lookAt : GoodIn wsX8_item (wsV RX8 244 RX4 yX4_lookAt wsX4_lookAt) := goodIn_app (goodIn_of _ (by decide +kernel)) ggX8_item_X4_lookAt
set_option maxRecDepth 20000 in
theorem ggX8_item_X4_put : GoodIn wsX8_item wsX4_put := goodIn_r _ [23, 14, 19, 41, 42] rfl (by decide +kernel)
set_option maxRecDepth 20000 in
theorem gX8_item_X4_put : GoodIn wsX8_item (wsV RX8 263 RX4 yX4_put wsX4_put) := goodIn_app (goodIn_of _ (by decide +kernel)) ggX8_item_X4_put
theorem dX8_item_0 : decode cX8_item 0 = .ok (.iload_n 1, 1) := by decide +kernel
theorem dX8_item_1 : decode cX8_item 1 = .ok (.invokestatic 238, 3) := by decide +kernel
theorem dX8_item_4 : decode cX8_item 4 = .ok (.ifCond .eq 10, 3) := by decide +kernel
theorem dX8_item_7 : decode cX8_item 7 = .ok (.iload_n 2, 1) := by decide +kernel
theorem dX8_item_8 : decode cX8_item 8 = .ok (.invokestatic 241, 3) := by decide +kernel
theorem dX8_item_11 : decode cX8_item 11 = .ok (.ifCond .ne 5, 3) := by decide +kernel
theorem dX8_item_14 : decode cX8_item 14 = .ok (.iconst (-1), 1) := by decide +kernel
theorem dX8_item_15 : decode cX8_item 15 = .ok (.ireturn, 1) := by decide +kernel
theorem dX8_item_16 : decode cX8_item 16 = .ok (.aload_n 0, 1) := by decide +kernel
theorem dX8_item_17 : decode cX8_item 17 = .ok (.getfield 42, 3) := by decide +kernel
theorem dX8_item_20 : decode cX8_item 20 = .ok (.iload_n 1, 1) := by decide +kernel
theorem dX8_item_21 : decode cX8_item 21 = .ok (.aaload, 1) := by decide +kernel
theorem dX8_item_22 : decode cX8_item 22 = .ok (.astore 6, 2) := by decide +kernel
theorem dX8_item_24 : decode cX8_item 24 = .ok (.aload 6, 2) := by decide +kernel
theorem dX8_item_26 : decode cX8_item 26 = .ok (.ifnonnull 6, 3) := by decide +kernel
theorem dX8_item_29 : decode cX8_item 29 = .ok (.bipush (-11), 2) := by decide +kernel
theorem dX8_item_31 : decode cX8_item 31 = .ok (.ireturn, 1) := by decide +kernel
theorem dX8_item_32 : decode cX8_item 32 = .ok (.aload 6, 2) := by decide +kernel
theorem dX8_item_34 : decode cX8_item 34 = .ok (.iload_n 2, 1) := by decide +kernel
theorem dX8_item_35 : decode cX8_item 35 = .ok (.iload_n 3, 1) := by decide +kernel
theorem dX8_item_36 : decode cX8_item 36 = .ok (.iconst 1, 1) := by decide +kernel
theorem dX8_item_37 : decode cX8_item 37 = .ok (.invokevirtual 244, 3) := by decide +kernel
theorem dX8_item_40 : decode cX8_item 40 = .ok (.istore 7, 2) := by decide +kernel
theorem dX8_item_42 : decode cX8_item 42 = .ok (.iload 7, 2) := by decide +kernel
theorem dX8_item_44 : decode cX8_item 44 = .ok (.ifCond .eq 6, 3) := by decide +kernel
theorem dX8_item_47 : decode cX8_item 47 = .ok (.iload 7, 2) := by decide +kernel
theorem dX8_item_49 : decode cX8_item 49 = .ok (.ireturn, 1) := by decide +kernel
theorem dX8_item_50 : decode cX8_item 50 = .ok (.aload 6, 2) := by decide +kernel
theorem dX8_item_52 : decode cX8_item 52 = .ok (.iload_n 3, 1) := by decide +kernel
theorem dX8_item_53 : decode cX8_item 53 = .ok (.lload 4, 2) := by decide +kernel
theorem dX8_item_55 : decode cX8_item 55 = .ok (.invokevirtual 263, 3) := by decide +kernel
theorem dX8_item_58 : decode cX8_item 58 = .ok (.iconst 1, 1) := by decide +kernel
theorem dX8_item_59 : decode cX8_item 59 = .ok (.ireturn, 1) := by decide +kernel
set_option maxRecDepth 20000 in
theorem ggX8_film_X8_isSheet : GoodIn wsX8_film wsX8_isSheet := goodIn_r _ [8] rfl (by decide +kernel)
set_option maxRecDepth 20000 in
theorem gX8_film_X8_isSheet : GoodIn wsX8_film (va_wsS RX8 238 yX8_isSheet wsX8_isSheet) := goodIn_app (goodIn_of _ (by decide +kernel)) ggX8_film_X8_isSheet
set_option maxRecDepth 20000 in
theorem ggX8_film_X8_isLane : GoodIn wsX8_film wsX8_isLane := goodIn_r _ [11] rfl (by decide +kernel)
set_option maxRecDepth 20000 in
theorem gX8_film_X8_isLane : GoodIn wsX8_film (va_wsS RX8 241 yX8_isLane wsX8_isLane) := goodIn_app (goodIn_of _ (by decide +kernel)) ggX8_film_X8_isLane
set_option maxRecDepth 20000 in
theorem ggX8_film_X4_lookAt : GoodIn wsX8_film wsX4_lookAt := goodIn_r _ [16, 17, 18, 19, 20, 15, 21, 22, 49, 50] rfl (by decide +kernel)
set_option maxRecDepth 20000 in
theorem gX8_film_X4_lookAt : GoodIn wsX8_film (wsV RX8 244 RX4 yX4_lookAt wsX4_lookAt) := goodIn_app (goodIn_of _ (by decide +kernel)) ggX8_film_X4_lookAt
set_option maxRecDepth 20000 in
theorem ggX8_film_X4_put : GoodIn wsX8_film wsX4_put := goodIn_r _ [26, 17, 22, 49, 50] rfl (by decide +kernel)
set_option maxRecDepth 20000 in
theorem gX8_film_X4_put : GoodIn wsX8_film (wsV RX8 263 RX4 yX4_put wsX4_put) := goodIn_app (goodIn_of _ (by decide +kernel)) ggX8_film_X4_put
theorem dX8_film_0 : decode cX8_film 0 = .ok (.iload_n 1, 1) := by decide +kernel
theorem dX8_film_1 : decode cX8_film 1 = .ok (.invokestatic 238, 3) := by decide +kernel
theorem dX8_film_4 : decode cX8_film 4 = .ok (.ifCond .eq 10, 3) := by decide +kernel
theorem dX8_film_7 : decode cX8_film 7 = .ok (.iload_n 2, 1) := by decide +kernel
theorem dX8_film_8 : decode cX8_film 8 = .ok (.invokestatic 241, 3) := by decide +kernel
theorem dX8_film_11 : decode cX8_film 11 = .ok (.ifCond .ne 5, 3) := by decide +kernel
theorem dX8_film_14 : decode cX8_film 14 = .ok (.iconst (-1), 1) := by decide +kernel
theorem dX8_film_15 : decode cX8_film 15 = .ok (.ireturn, 1) := by decide +kernel
theorem dX8_film_16 : decode cX8_film 16 = .ok (.aload_n 0, 1) := by decide +kernel
theorem dX8_film_17 : decode cX8_film 17 = .ok (.getfield 42, 3) := by decide +kernel
theorem dX8_film_20 : decode cX8_film 20 = .ok (.iload_n 1, 1) := by decide +kernel
theorem dX8_film_21 : decode cX8_film 21 = .ok (.aaload, 1) := by decide +kernel
theorem dX8_film_22 : decode cX8_film 22 = .ok (.astore 4, 2) := by decide +kernel
theorem dX8_film_24 : decode cX8_film 24 = .ok (.aload 4, 2) := by decide +kernel
theorem dX8_film_26 : decode cX8_film 26 = .ok (.ifnonnull 6, 3) := by decide +kernel
theorem dX8_film_29 : decode cX8_film 29 = .ok (.bipush (-11), 2) := by decide +kernel
theorem dX8_film_31 : decode cX8_film 31 = .ok (.ireturn, 1) := by decide +kernel
theorem dX8_film_32 : decode cX8_film 32 = .ok (.aload 4, 2) := by decide +kernel
theorem dX8_film_34 : decode cX8_film 34 = .ok (.iload_n 2, 1) := by decide +kernel
theorem dX8_film_35 : decode cX8_film 35 = .ok (.iload_n 3, 1) := by decide +kernel
theorem dX8_film_36 : decode cX8_film 36 = .ok (.aload_n 0, 1) := by decide +kernel
theorem dX8_film_37 : decode cX8_film 37 = .ok (.getfield 10, 3) := by decide +kernel
theorem dX8_film_40 : decode cX8_film 40 = .ok (.getfield 98, 3) := by decide +kernel
theorem dX8_film_43 : decode cX8_film 43 = .ok (.invokevirtual 244, 3) := by decide +kernel
theorem dX8_film_46 : decode cX8_film 46 = .ok (.istore 5, 2) := by decide +kernel
theorem dX8_film_48 : decode cX8_film 48 = .ok (.iload 5, 2) := by decide +kernel
theorem dX8_film_50 : decode cX8_film 50 = .ok (.ifCond .eq 6, 3) := by decide +kernel
theorem dX8_film_53 : decode cX8_film 53 = .ok (.iload 5, 2) := by decide +kernel
theorem dX8_film_55 : decode cX8_film 55 = .ok (.ireturn, 1) := by decide +kernel
theorem dX8_film_56 : decode cX8_film 56 = .ok (.iconst 0, 1) := by decide +kernel
theorem dX8_film_57 : decode cX8_film 57 = .ok (.istore 6, 2) := by decide +kernel
theorem dX8_film_59 : decode cX8_film 59 = .ok (.iload 6, 2) := by decide +kernel
theorem dX8_film_61 : decode cX8_film 61 = .ok (.aload_n 0, 1) := by decide +kernel
theorem dX8_film_62 : decode cX8_film 62 = .ok (.getfield 10, 3) := by decide +kernel
theorem dX8_film_65 : decode cX8_film 65 = .ok (.getfield 98, 3) := by decide +kernel
theorem dX8_film_68 : decode cX8_film 68 = .ok (.if_icmp .ge 29, 3) := by decide +kernel
theorem dX8_film_71 : decode cX8_film 71 = .ok (.aload 4, 2) := by decide +kernel
theorem dX8_film_73 : decode cX8_film 73 = .ok (.iload_n 3, 1) := by decide +kernel
theorem dX8_film_74 : decode cX8_film 74 = .ok (.iload 6, 2) := by decide +kernel
theorem dX8_film_76 : decode cX8_film 76 = .ok (.iadd, 1) := by decide +kernel
theorem dX8_film_77 : decode cX8_film 77 = .ok (.aload_n 0, 1) := by decide +kernel
theorem dX8_film_78 : decode cX8_film 78 = .ok (.getfield 10, 3) := by decide +kernel
theorem dX8_film_81 : decode cX8_film 81 = .ok (.getfield 111, 3) := by decide +kernel
theorem dX8_film_84 : decode cX8_film 84 = .ok (.iload 6, 2) := by decide +kernel
theorem dX8_film_86 : decode cX8_film 86 = .ok (.iaload, 1) := by decide +kernel
theorem dX8_film_87 : decode cX8_film 87 = .ok (.i2l, 1) := by decide +kernel
theorem dX8_film_88 : decode cX8_film 88 = .ok (.invokevirtual 263, 3) := by decide +kernel
theorem dX8_film_91 : decode cX8_film 91 = .ok (.iinc 6 1, 3) := by decide +kernel
theorem dX8_film_94 : decode cX8_film 94 = .ok (.goto (-35), 3) := by decide +kernel
theorem dX8_film_97 : decode cX8_film 97 = .ok (.aload_n 0, 1) := by decide +kernel
theorem dX8_film_98 : decode cX8_film 98 = .ok (.getfield 10, 3) := by decide +kernel
theorem dX8_film_101 : decode cX8_film 101 = .ok (.getfield 98, 3) := by decide +kernel
theorem dX8_film_104 : decode cX8_film 104 = .ok (.ireturn, 1) := by decide +kernel
set_option maxRecDepth 20000 in
theorem ggX8_copy_X8_isSheet : GoodIn wsX8_copy wsX8_isSheet := goodIn_r _ [11] rfl (by decide +kernel)
set_option maxRecDepth 20000 in
theorem gX8_copy_X8_isSheet : GoodIn wsX8_copy (va_wsS RX8 238 yX8_isSheet wsX8_isSheet) := goodIn_app (goodIn_of _ (by decide +kernel)) ggX8_copy_X8_isSheet
set_option maxRecDepth 20000 in
theorem ggX8_copy_X4_reaches : GoodIn wsX8_copy wsX4_reaches := goodIn_r _ [16, 17, 35, 36] rfl (by decide +kernel)
set_option maxRecDepth 20000 in
theorem gX8_copy_X4_reaches : GoodIn wsX8_copy (wsV RX8 270 RX4 yX4_reaches wsX4_reaches) := goodIn_app (goodIn_of _ (by decide +kernel)) ggX8_copy_X4_reaches
theorem dX8_copy_0 : decode cX8_copy 0 = .ok (.iload_n 1, 1) := by decide +kernel
theorem dX8_copy_1 : decode cX8_copy 1 = .ok (.invokestatic 238, 3) := by decide +kernel
theorem dX8_copy_4 : decode cX8_copy 4 = .ok (.ifCond .eq 10, 3) := by decide +kernel
theorem dX8_copy_7 : decode cX8_copy 7 = .ok (.iload_n 3, 1) := by decide +kernel
theorem dX8_copy_8 : decode cX8_copy 8 = .ok (.invokestatic 238, 3) := by decide +kernel
theorem dX8_copy_11 : decode cX8_copy 11 = .ok (.ifCond .ne 5, 3) := by decide +kernel
theorem dX8_copy_14 : decode cX8_copy 14 = .ok (.iconst (-1), 1) := by decide +kernel
theorem dX8_copy_15 : decode cX8_copy 15 = .ok (.ireturn, 1) := by decide +kernel
theorem dX8_copy_16 : decode cX8_copy 16 = .ok (.aload_n 0, 1) := by decide +kernel
theorem dX8_copy_17 : decode cX8_copy 17 = .ok (.getfield 42, 3) := by decide +kernel
theorem dX8_copy_20 : decode cX8_copy 20 = .ok (.iload_n 1, 1) := by decide +kernel
theorem dX8_copy_21 : decode cX8_copy 21 = .ok (.aaload, 1) := by decide +kernel
theorem dX8_copy_22 : decode cX8_copy 22 = .ok (.astore 6, 2) := by decide +kernel
theorem dX8_copy_24 : decode cX8_copy 24 = .ok (.aload_n 0, 1) := by decide +kernel
theorem dX8_copy_25 : decode cX8_copy 25 = .ok (.getfield 42, 3) := by decide +kernel
theorem dX8_copy_28 : decode cX8_copy 28 = .ok (.iload_n 3, 1) := by decide +kernel
theorem dX8_copy_29 : decode cX8_copy 29 = .ok (.aaload, 1) := by decide +kernel
theorem dX8_copy_30 : decode cX8_copy 30 = .ok (.astore 7, 2) := by decide +kernel
theorem dX8_copy_32 : decode cX8_copy 32 = .ok (.aload 6, 2) := by decide +kernel
theorem dX8_copy_34 : decode cX8_copy 34 = .ok (.ifnull 8, 3) := by decide +kernel
theorem dX8_copy_37 : decode cX8_copy 37 = .ok (.aload 7, 2) := by decide +kernel
theorem dX8_copy_39 : decode cX8_copy 39 = .ok (.ifnonnull 6, 3) := by decide +kernel
theorem dX8_copy_42 : decode cX8_copy 42 = .ok (.bipush (-11), 2) := by decide +kernel
theorem dX8_copy_44 : decode cX8_copy 44 = .ok (.ireturn, 1) := by decide +kernel
theorem dX8_copy_45 : decode cX8_copy 45 = .ok (.aload 6, 2) := by decide +kernel
theorem dX8_copy_47 : decode cX8_copy 47 = .ok (.getfield 267, 3) := by decide +kernel
theorem dX8_copy_50 : decode cX8_copy 50 = .ok (.aload 7, 2) := by decide +kernel
theorem dX8_copy_52 : decode cX8_copy 52 = .ok (.getfield 267, 3) := by decide +kernel
theorem dX8_copy_55 : decode cX8_copy 55 = .ok (.if_icmp .eq 6, 3) := by decide +kernel
theorem dX8_copy_58 : decode cX8_copy 58 = .ok (.bipush (-12), 2) := by decide +kernel
theorem dX8_copy_60 : decode cX8_copy 60 = .ok (.ireturn, 1) := by decide +kernel
theorem dX8_copy_61 : decode cX8_copy 61 = .ok (.aload 6, 2) := by decide +kernel
theorem dX8_copy_63 : decode cX8_copy 63 = .ok (.iload_n 2, 1) := by decide +kernel
theorem dX8_copy_64 : decode cX8_copy 64 = .ok (.iload 5, 2) := by decide +kernel
theorem dX8_copy_66 : decode cX8_copy 66 = .ok (.invokevirtual 270, 3) := by decide +kernel
theorem dX8_copy_69 : decode cX8_copy 69 = .ok (.ifCond .eq 15, 3) := by decide +kernel
theorem dX8_copy_72 : decode cX8_copy 72 = .ok (.aload 7, 2) := by decide +kernel
theorem dX8_copy_74 : decode cX8_copy 74 = .ok (.iload 4, 2) := by decide +kernel
theorem dX8_copy_76 : decode cX8_copy 76 = .ok (.iload 5, 2) := by decide +kernel
theorem dX8_copy_78 : decode cX8_copy 78 = .ok (.invokevirtual 270, 3) := by decide +kernel
theorem dX8_copy_81 : decode cX8_copy 81 = .ok (.ifCond .ne 6, 3) := by decide +kernel
theorem dX8_copy_84 : decode cX8_copy 84 = .ok (.bipush (-13), 2) := by decide +kernel
theorem dX8_copy_86 : decode cX8_copy 86 = .ok (.ireturn, 1) := by decide +kernel
theorem dX8_copy_87 : decode cX8_copy 87 = .ok (.aload 6, 2) := by decide +kernel
theorem dX8_copy_89 : decode cX8_copy 89 = .ok (.getfield 260, 3) := by decide +kernel
theorem dX8_copy_92 : decode cX8_copy 92 = .ok (.iload_n 2, 1) := by decide +kernel
theorem dX8_copy_93 : decode cX8_copy 93 = .ok (.aload 7, 2) := by decide +kernel
theorem dX8_copy_95 : decode cX8_copy 95 = .ok (.getfield 260, 3) := by decide +kernel
theorem dX8_copy_98 : decode cX8_copy 98 = .ok (.iload 4, 2) := by decide +kernel
theorem dX8_copy_100 : decode cX8_copy 100 = .ok (.iload 5, 2) := by decide +kernel
theorem dX8_copy_102 : decode cX8_copy 102 = .ok (.invokestatic 273, 3) := by decide +kernel
theorem dX8_copy_105 : decode cX8_copy 105 = .ok (.iload 5, 2) := by decide +kernel
theorem dX8_copy_107 : decode cX8_copy 107 = .ok (.ireturn, 1) := by decide +kernel
theorem dX8_isSum_0 : decode cX8_isSum 0 = .ok (.iload_n 0, 1) := by decide +kernel
theorem dX8_isSum_1 : decode cX8_isSum 1 = .ok (.ifCond .lt 14, 3) := by decide +kernel
theorem dX8_isSum_4 : decode cX8_isSum 4 = .ok (.iload_n 0, 1) := by decide +kernel
theorem dX8_isSum_5 : decode cX8_isSum 5 = .ok (.sipush 9999, 3) := by decide +kernel
theorem dX8_isSum_8 : decode cX8_isSum 8 = .ok (.if_icmp .gt 7, 3) := by decide +kernel
theorem dX8_isSum_11 : decode cX8_isSum 11 = .ok (.iconst 1, 1) := by decide +kernel
theorem dX8_isSum_12 : decode cX8_isSum 12 = .ok (.goto 4, 3) := by decide +kernel
theorem dX8_isSum_15 : decode cX8_isSum 15 = .ok (.iconst 0, 1) := by decide +kernel
theorem dX8_isSum_16 : decode cX8_isSum 16 = .ok (.ireturn, 1) := by decide +kernel
theorem dX8_isSheet_0 : decode cX8_isSheet 0 = .ok (.iload_n 0, 1) := by decide +kernel
theorem dX8_isSheet_1 : decode cX8_isSheet 1 = .ok (.ifCond .lt 12, 3) := by decide +kernel
theorem dX8_isSheet_4 : decode cX8_isSheet 4 = .ok (.iload_n 0, 1) := by decide +kernel
theorem dX8_isSheet_5 : decode cX8_isSheet 5 = .ok (.iconst 4, 1) := by decide +kernel
theorem dX8_isSheet_6 : decode cX8_isSheet 6 = .ok (.if_icmp .ge 7, 3) := by decide +kernel
theorem dX8_isSheet_9 : decode cX8_isSheet 9 = .ok (.iconst 1, 1) := by decide +kernel
theorem dX8_isSheet_10 : decode cX8_isSheet 10 = .ok (.goto 4, 3) := by decide +kernel
theorem dX8_isSheet_13 : decode cX8_isSheet 13 = .ok (.iconst 0, 1) := by decide +kernel
theorem dX8_isSheet_14 : decode cX8_isSheet 14 = .ok (.ireturn, 1) := by decide +kernel
theorem dX8_isLane_0 : decode cX8_isLane 0 = .ok (.iload_n 0, 1) := by decide +kernel
theorem dX8_isLane_1 : decode cX8_isLane 1 = .ok (.ifCond .lt 12, 3) := by decide +kernel
theorem dX8_isLane_4 : decode cX8_isLane 4 = .ok (.iload_n 0, 1) := by decide +kernel
theorem dX8_isLane_5 : decode cX8_isLane 5 = .ok (.iconst 3, 1) := by decide +kernel
theorem dX8_isLane_6 : decode cX8_isLane 6 = .ok (.if_icmp .ge 7, 3) := by decide +kernel
theorem dX8_isLane_9 : decode cX8_isLane 9 = .ok (.iconst 1, 1) := by decide +kernel
theorem dX8_isLane_10 : decode cX8_isLane 10 = .ok (.goto 4, 3) := by decide +kernel
theorem dX8_isLane_13 : decode cX8_isLane 13 = .ok (.iconst 0, 1) := by decide +kernel
theorem dX8_isLane_14 : decode cX8_isLane 14 = .ok (.ireturn, 1) := by decide +kernel
theorem dX8_forgetFound_0 : decode cX8_forgetFound 0 = .ok (.aload_n 0, 1) := by decide +kernel
theorem dX8_forgetFound_1 : decode cX8_forgetFound 1 = .ok (.bipush 9, 2) := by decide +kernel
theorem dX8_forgetFound_3 : decode cX8_forgetFound 3 = .ok (.putfield 84, 3) := by decide +kernel
theorem dX8_forgetFound_6 : decode cX8_forgetFound 6 = .ok (.aload_n 0, 1) := by decide +kernel
theorem dX8_forgetFound_7 : decode cX8_forgetFound 7 = .ok (.iconst 0, 1) := by decide +kernel
theorem dX8_forgetFound_8 : decode cX8_forgetFound 8 = .ok (.putfield 88, 3) := by decide +kernel
theorem dX8_forgetFound_11 : decode cX8_forgetFound 11 = .ok (.aload_n 0, 1) := by decide +kernel
theorem dX8_forgetFound_12 : decode cX8_forgetFound 12 = .ok (.iconst 0, 1) := by decide +kernel
theorem dX8_forgetFound_13 : decode cX8_forgetFound 13 = .ok (.putfield 91, 3) := by decide +kernel
theorem dX8_forgetFound_16 : decode cX8_forgetFound 16 = .ok (.return_, 1) := by decide +kernel
set_option maxRecDepth 20000 in
theorem ggX8_findTimes_X6_search : GoodIn wsX8_findTimes wsX6_search := goodIn_r _ [9, 10, 11, 12, 13, 14, 15, 16, 17, 18, 19, 20, 21, 22, 23, 24, 25, 26, 27, 28, 29, 30, 31, 32, 33, 34, 35, 36, 37, 38, 39, 40, 41, 42, 8, 43, 44, 45, 46, 47, 48, 49, 50, 51, 52, 53, 54, 55, 56, 57, 58, 59, 60, 61, 62, 63, 64, 65, 66, 67, 68, 69, 70, 71, 72, 73, 74, 75, 76, 77, 78, 79, 80, 81, 82, 83, 84, 85, 86, 104, 105, 106, 107, 108, 109, 110, 111, 112, 113, 114, 115, 116, 117] rfl (by decide +kernel)
set_option maxRecDepth 20000 in
theorem gX8_findTimes_X6_search : GoodIn wsX8_findTimes (wsV RX8 279 RX6 yX6_search wsX6_search) := goodIn_app (goodIn_of _ (by decide +kernel)) ggX8_findTimes_X6_search
theorem dX8_findTimes_0 : decode cX8_findTimes 0 = .ok (.aload_n 0, 1) := by decide +kernel
theorem dX8_findTimes_1 : decode cX8_findTimes 1 = .ok (.getfield 84, 3) := by decide +kernel
theorem dX8_findTimes_4 : decode cX8_findTimes 4 = .ok (.iload_n 1, 1) := by decide +kernel
theorem dX8_findTimes_5 : decode cX8_findTimes 5 = .ok (.if_icmp .eq 24, 3) := by decide +kernel
theorem dX8_findTimes_8 : decode cX8_findTimes 8 = .ok (.aload_n 0, 1) := by decide +kernel
theorem dX8_findTimes_9 : decode cX8_findTimes 9 = .ok (.getfield 59, 3) := by decide +kernel
theorem dX8_findTimes_12 : decode cX8_findTimes 12 = .ok (.aload_n 0, 1) := by decide +kernel
theorem dX8_findTimes_13 : decode cX8_findTimes 13 = .ok (.getfield 10, 3) := by decide +kernel
theorem dX8_findTimes_16 : decode cX8_findTimes 16 = .ok (.aload_n 0, 1) := by decide +kernel
theorem dX8_findTimes_17 : decode cX8_findTimes 17 = .ok (.getfield 19, 3) := by decide +kernel
theorem dX8_findTimes_20 : decode cX8_findTimes 20 = .ok (.iload_n 1, 1) := by decide +kernel
theorem dX8_findTimes_21 : decode cX8_findTimes 21 = .ok (.invokevirtual 279, 3) := by decide +kernel
theorem dX8_findTimes_24 : decode cX8_findTimes 24 = .ok (.aload_n 0, 1) := by decide +kernel
theorem dX8_findTimes_25 : decode cX8_findTimes 25 = .ok (.iload_n 1, 1) := by decide +kernel
theorem dX8_findTimes_26 : decode cX8_findTimes 26 = .ok (.putfield 84, 3) := by decide +kernel
theorem dX8_findTimes_29 : decode cX8_findTimes 29 = .ok (.return_, 1) := by decide +kernel
set_option maxRecDepth 20000 in
theorem ggX8_findTurns_X7_search : GoodIn wsX8_findTurns wsX7_search := goodIn_r _ [8, 9, 10, 11, 12, 13, 14, 15, 16, 17, 18, 19, 20, 21, 22, 23, 24, 25, 26, 7, 27, 28, 29, 30, 31, 32, 33, 34, 35, 36, 37, 38, 39, 40, 41, 42, 43, 44, 45, 46, 47, 65, 66, 67, 68, 69, 70, 71, 72] rfl (by decide +kernel)
set_option maxRecDepth 20000 in
theorem gX8_findTurns_X7_search : GoodIn wsX8_findTurns (wsV RX8 282 RX7 yX7_search wsX7_search) := goodIn_app (goodIn_of _ (by decide +kernel)) ggX8_findTurns_X7_search
theorem dX8_findTurns_0 : decode cX8_findTurns 0 = .ok (.aload_n 0, 1) := by decide +kernel
theorem dX8_findTurns_1 : decode cX8_findTurns 1 = .ok (.getfield 88, 3) := by decide +kernel
theorem dX8_findTurns_4 : decode cX8_findTurns 4 = .ok (.ifCond .ne 19, 3) := by decide +kernel
theorem dX8_findTurns_7 : decode cX8_findTurns 7 = .ok (.aload_n 0, 1) := by decide +kernel
theorem dX8_findTurns_8 : decode cX8_findTurns 8 = .ok (.getfield 66, 3) := by decide +kernel
theorem dX8_findTurns_11 : decode cX8_findTurns 11 = .ok (.aload_n 0, 1) := by decide +kernel
theorem dX8_findTurns_12 : decode cX8_findTurns 12 = .ok (.getfield 10, 3) := by decide +kernel
theorem dX8_findTurns_15 : decode cX8_findTurns 15 = .ok (.invokevirtual 282, 3) := by decide +kernel
theorem dX8_findTurns_18 : decode cX8_findTurns 18 = .ok (.aload_n 0, 1) := by decide +kernel
theorem dX8_findTurns_19 : decode cX8_findTurns 19 = .ok (.iconst 1, 1) := by decide +kernel
theorem dX8_findTurns_20 : decode cX8_findTurns 20 = .ok (.putfield 88, 3) := by decide +kernel
theorem dX8_findTurns_23 : decode cX8_findTurns 23 = .ok (.return_, 1) := by decide +kernel
set_option maxRecDepth 20000 in
theorem ggX8_shareOut_X0_pair : GoodIn wsX8_shareOut wsX0_pair := goodIn_r _ [14] rfl (by decide +kernel)
set_option maxRecDepth 20000 in
theorem gX8_shareOut_X0_pair : GoodIn wsX8_shareOut (va_wsS RX8 136 yX0_pair wsX0_pair) := goodIn_app (goodIn_of _ (by decide +kernel)) ggX8_shareOut_X0_pair
theorem dX8_shareOut_0 : decode cX8_shareOut 0 = .ok (.iconst 0, 1) := by decide +kernel
theorem dX8_shareOut_1 : decode cX8_shareOut 1 = .ok (.istore_n 3, 1) := by decide +kernel
theorem dX8_shareOut_2 : decode cX8_shareOut 2 = .ok (.iload_n 3, 1) := by decide +kernel
theorem dX8_shareOut_3 : decode cX8_shareOut 3 = .ok (.aload_n 0, 1) := by decide +kernel
theorem dX8_shareOut_4 : decode cX8_shareOut 4 = .ok (.getfield 10, 3) := by decide +kernel
theorem dX8_shareOut_7 : decode cX8_shareOut 7 = .ok (.getfield 98, 3) := by decide +kernel
theorem dX8_shareOut_10 : decode cX8_shareOut 10 = .ok (.if_icmp .ge 27, 3) := by decide +kernel
theorem dX8_shareOut_13 : decode cX8_shareOut 13 = .ok (.aload_n 0, 1) := by decide +kernel
theorem dX8_shareOut_14 : decode cX8_shareOut 14 = .ok (.getfield 52, 3) := by decide +kernel
theorem dX8_shareOut_17 : decode cX8_shareOut 17 = .ok (.iload_n 3, 1) := by decide +kernel
theorem dX8_shareOut_18 : decode cX8_shareOut 18 = .ok (.aload_n 0, 1) := by decide +kernel
theorem dX8_shareOut_19 : decode cX8_shareOut 19 = .ok (.getfield 10, 3) := by decide +kernel
theorem dX8_shareOut_22 : decode cX8_shareOut 22 = .ok (.getfield 111, 3) := by decide +kernel
theorem dX8_shareOut_25 : decode cX8_shareOut 25 = .ok (.iload_n 3, 1) := by decide +kernel
theorem dX8_shareOut_26 : decode cX8_shareOut 26 = .ok (.iaload, 1) := by decide +kernel
theorem dX8_shareOut_27 : decode cX8_shareOut 27 = .ok (.i2l, 1) := by decide +kernel
theorem dX8_shareOut_28 : decode cX8_shareOut 28 = .ok (.iload_n 2, 1) := by decide +kernel
theorem dX8_shareOut_29 : decode cX8_shareOut 29 = .ok (.lshl, 1) := by decide +kernel
theorem dX8_shareOut_30 : decode cX8_shareOut 30 = .ok (.lastore, 1) := by decide +kernel
theorem dX8_shareOut_31 : decode cX8_shareOut 31 = .ok (.iinc 3 1, 3) := by decide +kernel
theorem dX8_shareOut_34 : decode cX8_shareOut 34 = .ok (.goto (-32), 3) := by decide +kernel
theorem dX8_shareOut_37 : decode cX8_shareOut 37 = .ok (.iconst 0, 1) := by decide +kernel
theorem dX8_shareOut_38 : decode cX8_shareOut 38 = .ok (.istore_n 3, 1) := by decide +kernel
theorem dX8_shareOut_39 : decode cX8_shareOut 39 = .ok (.iload_n 3, 1) := by decide +kernel
theorem dX8_shareOut_40 : decode cX8_shareOut 40 = .ok (.iload_n 1, 1) := by decide +kernel
theorem dX8_shareOut_41 : decode cX8_shareOut 41 = .ok (.if_icmp .ge 102, 3) := by decide +kernel
theorem dX8_shareOut_44 : decode cX8_shareOut 44 = .ok (.iconst 0, 1) := by decide +kernel
theorem dX8_shareOut_45 : decode cX8_shareOut 45 = .ok (.istore 4, 2) := by decide +kernel
theorem dX8_shareOut_47 : decode cX8_shareOut 47 = .ok (.iload 4, 2) := by decide +kernel
theorem dX8_shareOut_49 : decode cX8_shareOut 49 = .ok (.aload_n 0, 1) := by decide +kernel
theorem dX8_shareOut_50 : decode cX8_shareOut 50 = .ok (.getfield 19, 3) := by decide +kernel
theorem dX8_shareOut_53 : decode cX8_shareOut 53 = .ok (.getfield 175, 3) := by decide +kernel
theorem dX8_shareOut_56 : decode cX8_shareOut 56 = .ok (.if_icmp .ge 81, 3) := by decide +kernel
theorem dX8_shareOut_59 : decode cX8_shareOut 59 = .ok (.aload_n 0, 1) := by decide +kernel
theorem dX8_shareOut_60 : decode cX8_shareOut 60 = .ok (.getfield 19, 3) := by decide +kernel
theorem dX8_shareOut_63 : decode cX8_shareOut 63 = .ok (.getfield 184, 3) := by decide +kernel
theorem dX8_shareOut_66 : decode cX8_shareOut 66 = .ok (.iload 4, 2) := by decide +kernel
theorem dX8_shareOut_68 : decode cX8_shareOut 68 = .ok (.iaload, 1) := by decide +kernel
theorem dX8_shareOut_69 : decode cX8_shareOut 69 = .ok (.istore 5, 2) := by decide +kernel
theorem dX8_shareOut_71 : decode cX8_shareOut 71 = .ok (.aload_n 0, 1) := by decide +kernel
theorem dX8_shareOut_72 : decode cX8_shareOut 72 = .ok (.getfield 19, 3) := by decide +kernel
theorem dX8_shareOut_75 : decode cX8_shareOut 75 = .ok (.getfield 187, 3) := by decide +kernel
theorem dX8_shareOut_78 : decode cX8_shareOut 78 = .ok (.iload 4, 2) := by decide +kernel
theorem dX8_shareOut_80 : decode cX8_shareOut 80 = .ok (.iaload, 1) := by decide +kernel
theorem dX8_shareOut_81 : decode cX8_shareOut 81 = .ok (.istore 6, 2) := by decide +kernel
theorem dX8_shareOut_83 : decode cX8_shareOut 83 = .ok (.aload_n 0, 1) := by decide +kernel
theorem dX8_shareOut_84 : decode cX8_shareOut 84 = .ok (.getfield 10, 3) := by decide +kernel
theorem dX8_shareOut_87 : decode cX8_shareOut 87 = .ok (.getfield 122, 3) := by decide +kernel
theorem dX8_shareOut_90 : decode cX8_shareOut 90 = .ok (.iload 5, 2) := by decide +kernel
theorem dX8_shareOut_92 : decode cX8_shareOut 92 = .ok (.iload 6, 2) := by decide +kernel
theorem dX8_shareOut_94 : decode cX8_shareOut 94 = .ok (.invokestatic 136, 3) := by decide +kernel
theorem dX8_shareOut_97 : decode cX8_shareOut 97 = .ok (.iand, 1) := by decide +kernel
theorem dX8_shareOut_98 : decode cX8_shareOut 98 = .ok (.ifCond .eq 33, 3) := by decide +kernel
theorem dX8_shareOut_101 : decode cX8_shareOut 101 = .ok (.aload_n 0, 1) := by decide +kernel
theorem dX8_shareOut_102 : decode cX8_shareOut 102 = .ok (.getfield 52, 3) := by decide +kernel
theorem dX8_shareOut_105 : decode cX8_shareOut 105 = .ok (.iload 6, 2) := by decide +kernel
theorem dX8_shareOut_107 : decode cX8_shareOut 107 = .ok (.dup2, 1) := by decide +kernel
theorem dX8_shareOut_108 : decode cX8_shareOut 108 = .ok (.laload, 1) := by decide +kernel
theorem dX8_shareOut_109 : decode cX8_shareOut 109 = .ok (.ldc2_w 233, 3) := by decide +kernel
theorem dX8_shareOut_112 : decode cX8_shareOut 112 = .ok (.ldiv, 1) := by decide +kernel
theorem dX8_shareOut_113 : decode cX8_shareOut 113 = .ok (.lastore, 1) := by decide +kernel
theorem dX8_shareOut_114 : decode cX8_shareOut 114 = .ok (.aload_n 0, 1) := by decide +kernel
theorem dX8_shareOut_115 : decode cX8_shareOut 115 = .ok (.getfield 52, 3) := by decide +kernel
theorem dX8_shareOut_118 : decode cX8_shareOut 118 = .ok (.iload 5, 2) := by decide +kernel
theorem dX8_shareOut_120 : decode cX8_shareOut 120 = .ok (.dup2, 1) := by decide +kernel
theorem dX8_shareOut_121 : decode cX8_shareOut 121 = .ok (.laload, 1) := by decide +kernel
theorem dX8_shareOut_122 : decode cX8_shareOut 122 = .ok (.aload_n 0, 1) := by decide +kernel
theorem dX8_shareOut_123 : decode cX8_shareOut 123 = .ok (.getfield 52, 3) := by decide +kernel
theorem dX8_shareOut_126 : decode cX8_shareOut 126 = .ok (.iload 6, 2) := by decide +kernel
theorem dX8_shareOut_128 : decode cX8_shareOut 128 = .ok (.laload, 1) := by decide +kernel
theorem dX8_shareOut_129 : decode cX8_shareOut 129 = .ok (.ladd, 1) := by decide +kernel
theorem dX8_shareOut_130 : decode cX8_shareOut 130 = .ok (.lastore, 1) := by decide +kernel
theorem dX8_shareOut_131 : decode cX8_shareOut 131 = .ok (.iinc 4 1, 3) := by decide +kernel
theorem dX8_shareOut_134 : decode cX8_shareOut 134 = .ok (.goto (-87), 3) := by decide +kernel
theorem dX8_shareOut_137 : decode cX8_shareOut 137 = .ok (.iinc 3 1, 3) := by decide +kernel
theorem dX8_shareOut_140 : decode cX8_shareOut 140 = .ok (.goto (-101), 3) := by decide +kernel
theorem dX8_shareOut_143 : decode cX8_shareOut 143 = .ok (.return_, 1) := by decide +kernel
set_option maxRecDepth 20000 in
theorem ggX8_penceWithout_X0_takeFrom : GoodIn wsX8_penceWithout wsX0_takeFrom := goodIn_r _ [12, 13, 14, 15, 16, 17, 18, 19, 20, 21, 72, 73, 74, 75, 76] rfl (by decide +kernel)
set_option maxRecDepth 20000 in
theorem gX8_penceWithout_X0_takeFrom : GoodIn wsX8_penceWithout (wsV RX8 158 RX0 yX0_takeFrom wsX0_takeFrom) := goodIn_app (goodIn_of _ (by decide +kernel)) ggX8_penceWithout_X0_takeFrom
set_option maxRecDepth 20000 in
theorem ggX8_penceWithout_X2_endWeekIfDue : GoodIn wsX8_penceWithout wsX2_endWeekIfDue := goodIn_r _ [26, 27, 28, 29, 30, 25, 31, 32, 72, 73, 74, 75, 76, 68, 69, 70, 71] rfl (by decide +kernel)
set_option maxRecDepth 20000 in
theorem gX8_penceWithout_X2_endWeekIfDue : GoodIn wsX8_penceWithout (wsV RX8 190 RX2 yX2_endWeekIfDue wsX2_endWeekIfDue) := goodIn_app (goodIn_of _ (by decide +kernel)) ggX8_penceWithout_X2_endWeekIfDue
set_option maxRecDepth 20000 in
theorem ggX8_penceWithout_X2_goOn : GoodIn wsX8_penceWithout wsX2_goOn := goodIn_r _ [36, 37, 38, 39, 40, 41, 11, 42, 14, 15, 21, 43, 44, 45, 46, 47, 48, 49, 16, 50, 23, 24, 25, 26, 27, 28, 29, 30, 31, 32, 68, 69, 70, 71, 72, 73, 74, 75, 76] rfl (by decide +kernel)
set_option maxRecDepth 20000 in
theorem gX8_penceWithout_X2_goOn : GoodIn wsX8_penceWithout (wsV RX8 284 RX2 yX2_goOn wsX2_goOn) := goodIn_app (goodIn_of _ (by decide +kernel)) ggX8_penceWithout_X2_goOn
theorem dX8_penceWithout_0 : decode cX8_penceWithout 0 = .ok (.aload_n 0, 1) := by decide +kernel
theorem dX8_penceWithout_1 : decode cX8_penceWithout 1 = .ok (.getfield 46, 3) := by decide +kernel
theorem dX8_penceWithout_4 : decode cX8_penceWithout 4 = .ok (.astore_n 3, 1) := by decide +kernel
theorem dX8_penceWithout_5 : decode cX8_penceWithout 5 = .ok (.aload_n 3, 1) := by decide +kernel
theorem dX8_penceWithout_6 : decode cX8_penceWithout 6 = .ok (.aload_n 0, 1) := by decide +kernel
theorem dX8_penceWithout_7 : decode cX8_penceWithout 7 = .ok (.getfield 10, 3) := by decide +kernel
theorem dX8_penceWithout_10 : decode cX8_penceWithout 10 = .ok (.invokevirtual 158, 3) := by decide +kernel
theorem dX8_penceWithout_13 : decode cX8_penceWithout 13 = .ok (.iconst 0, 1) := by decide +kernel
theorem dX8_penceWithout_14 : decode cX8_penceWithout 14 = .ok (.istore 4, 2) := by decide +kernel
theorem dX8_penceWithout_16 : decode cX8_penceWithout 16 = .ok (.iload 4, 2) := by decide +kernel
theorem dX8_penceWithout_18 : decode cX8_penceWithout 18 = .ok (.aload_n 0, 1) := by decide +kernel
theorem dX8_penceWithout_19 : decode cX8_penceWithout 19 = .ok (.getfield 19, 3) := by decide +kernel
theorem dX8_penceWithout_22 : decode cX8_penceWithout 22 = .ok (.getfield 175, 3) := by decide +kernel
theorem dX8_penceWithout_25 : decode cX8_penceWithout 25 = .ok (.if_icmp .ge 60, 3) := by decide +kernel
theorem dX8_penceWithout_28 : decode cX8_penceWithout 28 = .ok (.aload_n 0, 1) := by decide +kernel
theorem dX8_penceWithout_29 : decode cX8_penceWithout 29 = .ok (.getfield 19, 3) := by decide +kernel
theorem dX8_penceWithout_32 : decode cX8_penceWithout 32 = .ok (.getfield 184, 3) := by decide +kernel
theorem dX8_penceWithout_35 : decode cX8_penceWithout 35 = .ok (.iload 4, 2) := by decide +kernel
theorem dX8_penceWithout_37 : decode cX8_penceWithout 37 = .ok (.iaload, 1) := by decide +kernel
theorem dX8_penceWithout_38 : decode cX8_penceWithout 38 = .ok (.iload_n 1, 1) := by decide +kernel
theorem dX8_penceWithout_39 : decode cX8_penceWithout 39 = .ok (.if_icmp .ne 30, 3) := by decide +kernel
theorem dX8_penceWithout_42 : decode cX8_penceWithout 42 = .ok (.aload_n 0, 1) := by decide +kernel
theorem dX8_penceWithout_43 : decode cX8_penceWithout 43 = .ok (.getfield 19, 3) := by decide +kernel
theorem dX8_penceWithout_46 : decode cX8_penceWithout 46 = .ok (.getfield 187, 3) := by decide +kernel
theorem dX8_penceWithout_49 : decode cX8_penceWithout 49 = .ok (.iload 4, 2) := by decide +kernel
theorem dX8_penceWithout_51 : decode cX8_penceWithout 51 = .ok (.iaload, 1) := by decide +kernel
theorem dX8_penceWithout_52 : decode cX8_penceWithout 52 = .ok (.iload_n 2, 1) := by decide +kernel
theorem dX8_penceWithout_53 : decode cX8_penceWithout 53 = .ok (.if_icmp .ne 16, 3) := by decide +kernel
theorem dX8_penceWithout_56 : decode cX8_penceWithout 56 = .ok (.aload_n 0, 1) := by decide +kernel
theorem dX8_penceWithout_57 : decode cX8_penceWithout 57 = .ok (.getfield 19, 3) := by decide +kernel
theorem dX8_penceWithout_60 : decode cX8_penceWithout 60 = .ok (.aload_n 3, 1) := by decide +kernel
theorem dX8_penceWithout_61 : decode cX8_penceWithout 61 = .ok (.iload 4, 2) := by decide +kernel
theorem dX8_penceWithout_63 : decode cX8_penceWithout 63 = .ok (.invokevirtual 190, 3) := by decide +kernel
theorem dX8_penceWithout_66 : decode cX8_penceWithout 66 = .ok (.goto 13, 3) := by decide +kernel
theorem dX8_penceWithout_69 : decode cX8_penceWithout 69 = .ok (.aload_n 0, 1) := by decide +kernel
theorem dX8_penceWithout_70 : decode cX8_penceWithout 70 = .ok (.getfield 19, 3) := by decide +kernel
theorem dX8_penceWithout_73 : decode cX8_penceWithout 73 = .ok (.aload_n 3, 1) := by decide +kernel
theorem dX8_penceWithout_74 : decode cX8_penceWithout 74 = .ok (.iload 4, 2) := by decide +kernel
theorem dX8_penceWithout_76 : decode cX8_penceWithout 76 = .ok (.invokevirtual 284, 3) := by decide +kernel
theorem dX8_penceWithout_79 : decode cX8_penceWithout 79 = .ok (.iinc 4 1, 3) := by decide +kernel
theorem dX8_penceWithout_82 : decode cX8_penceWithout 82 = .ok (.goto (-66), 3) := by decide +kernel
theorem dX8_penceWithout_85 : decode cX8_penceWithout 85 = .ok (.aload_n 3, 1) := by decide +kernel
theorem dX8_penceWithout_86 : decode cX8_penceWithout 86 = .ok (.getfield 111, 3) := by decide +kernel
theorem dX8_penceWithout_89 : decode cX8_penceWithout 89 = .ok (.iload_n 2, 1) := by decide +kernel
theorem dX8_penceWithout_90 : decode cX8_penceWithout 90 = .ok (.iaload, 1) := by decide +kernel
theorem dX8_penceWithout_91 : decode cX8_penceWithout 91 = .ok (.ireturn, 1) := by decide +kernel
theorem dX9_init_0 : decode cX9_init 0 = .ok (.aload_n 0, 1) := by decide +kernel
theorem dX9_init_1 : decode cX9_init 1 = .ok (.invokespecial 1, 3) := by decide +kernel
theorem dX9_init_4 : decode cX9_init 4 = .ok (.aload_n 0, 1) := by decide +kernel
theorem dX9_init_5 : decode cX9_init 5 = .ok (.iconst 5, 1) := by decide +kernel
theorem dX9_init_6 : decode cX9_init 6 = .ok (.newarray .int, 2) := by decide +kernel
theorem dX9_init_8 : decode cX9_init 8 = .ok (.putfield 7, 3) := by decide +kernel
theorem dX9_init_11 : decode cX9_init 11 = .ok (.aload_n 0, 1) := by decide +kernel
theorem dX9_init_12 : decode cX9_init 12 = .ok (.iconst 5, 1) := by decide +kernel
theorem dX9_init_13 : decode cX9_init 13 = .ok (.newarray .int, 2) := by decide +kernel
theorem dX9_init_15 : decode cX9_init 15 = .ok (.putfield 13, 3) := by decide +kernel
theorem dX9_init_18 : decode cX9_init 18 = .ok (.aload_n 0, 1) := by decide +kernel
theorem dX9_init_19 : decode cX9_init 19 = .ok (.iconst 5, 1) := by decide +kernel
theorem dX9_init_20 : decode cX9_init 20 = .ok (.newarray .int, 2) := by decide +kernel
theorem dX9_init_22 : decode cX9_init 22 = .ok (.putfield 16, 3) := by decide +kernel
theorem dX9_init_25 : decode cX9_init 25 = .ok (.aload_n 0, 1) := by decide +kernel
theorem dX9_init_26 : decode cX9_init 26 = .ok (.iconst 5, 1) := by decide +kernel
theorem dX9_init_27 : decode cX9_init 27 = .ok (.newarray .int, 2) := by decide +kernel
theorem dX9_init_29 : decode cX9_init 29 = .ok (.putfield 19, 3) := by decide +kernel
theorem dX9_init_32 : decode cX9_init 32 = .ok (.aload_n 0, 1) := by decide +kernel
theorem dX9_init_33 : decode cX9_init 33 = .ok (.bipush 24, 2) := by decide +kernel
theorem dX9_init_35 : decode cX9_init 35 = .ok (.newarray .int, 2) := by decide +kernel
theorem dX9_init_37 : decode cX9_init 37 = .ok (.putfield 22, 3) := by decide +kernel
theorem dX9_init_40 : decode cX9_init 40 = .ok (.aload_n 0, 1) := by decide +kernel
theorem dX9_init_41 : decode cX9_init 41 = .ok (.iconst 5, 1) := by decide +kernel
theorem dX9_init_42 : decode cX9_init 42 = .ok (.newarray .int, 2) := by decide +kernel
theorem dX9_init_44 : decode cX9_init 44 = .ok (.putfield 25, 3) := by decide +kernel
theorem dX9_init_47 : decode cX9_init 47 = .ok (.aload_n 0, 1) := by decide +kernel
theorem dX9_init_48 : decode cX9_init 48 = .ok (.iconst 5, 1) := by decide +kernel
theorem dX9_init_49 : decode cX9_init 49 = .ok (.newarray .int, 2) := by decide +kernel
theorem dX9_init_51 : decode cX9_init 51 = .ok (.putfield 28, 3) := by decide +kernel
theorem dX9_init_54 : decode cX9_init 54 = .ok (.aload_n 0, 1) := by decide +kernel
theorem dX9_init_55 : decode cX9_init 55 = .ok (.bipush 80, 2) := by decide +kernel
theorem dX9_init_57 : decode cX9_init 57 = .ok (.newarray .int, 2) := by decide +kernel
theorem dX9_init_59 : decode cX9_init 59 = .ok (.putfield 31, 3) := by decide +kernel
theorem dX9_init_62 : decode cX9_init 62 = .ok (.aload_n 0, 1) := by decide +kernel
theorem dX9_init_63 : decode cX9_init 63 = .ok (.bipush 24, 2) := by decide +kernel
theorem dX9_init_65 : decode cX9_init 65 = .ok (.newarray .int, 2) := by decide +kernel
theorem dX9_init_67 : decode cX9_init 67 = .ok (.putfield 34, 3) := by decide +kernel
theorem dX9_init_70 : decode cX9_init 70 = .ok (.aload_n 0, 1) := by decide +kernel
theorem dX9_init_71 : decode cX9_init 71 = .ok (.iconst 5, 1) := by decide +kernel
theorem dX9_init_72 : decode cX9_init 72 = .ok (.newarray .int, 2) := by decide +kernel
theorem dX9_init_74 : decode cX9_init 74 = .ok (.putfield 37, 3) := by decide +kernel
theorem dX9_init_77 : decode cX9_init 77 = .ok (.aload_n 0, 1) := by decide +kernel
theorem dX9_init_78 : decode cX9_init 78 = .ok (.iconst 5, 1) := by decide +kernel
theorem dX9_init_79 : decode cX9_init 79 = .ok (.newarray .int, 2) := by decide +kernel
theorem dX9_init_81 : decode cX9_init 81 = .ok (.putfield 40, 3) := by decide +kernel
theorem dX9_init_84 : decode cX9_init 84 = .ok (.aload_n 0, 1) := by decide +kernel
theorem dX9_init_85 : decode cX9_init 85 = .ok (.bipush 30, 2) := by decide +kernel
theorem dX9_init_87 : decode cX9_init 87 = .ok (.newarray .int, 2) := by decide +kernel
theorem dX9_init_89 : decode cX9_init 89 = .ok (.putfield 43, 3) := by decide +kernel
theorem dX9_init_92 : decode cX9_init 92 = .ok (.aload_n 0, 1) := by decide +kernel
theorem dX9_init_93 : decode cX9_init 93 = .ok (.bipush 6, 2) := by decide +kernel
theorem dX9_init_95 : decode cX9_init 95 = .ok (.newarray .int, 2) := by decide +kernel
theorem dX9_init_97 : decode cX9_init 97 = .ok (.putfield 46, 3) := by decide +kernel
theorem dX9_init_100 : decode cX9_init 100 = .ok (.aload_n 0, 1) := by decide +kernel
theorem dX9_init_101 : decode cX9_init 101 = .ok (.bipush 30, 2) := by decide +kernel
theorem dX9_init_103 : decode cX9_init 103 = .ok (.newarray .int, 2) := by decide +kernel
theorem dX9_init_105 : decode cX9_init 105 = .ok (.putfield 49, 3) := by decide +kernel
theorem dX9_init_108 : decode cX9_init 108 = .ok (.aload_n 0, 1) := by decide +kernel
theorem dX9_init_109 : decode cX9_init 109 = .ok (.bipush 30, 2) := by decide +kernel
theorem dX9_init_111 : decode cX9_init 111 = .ok (.newarray .int, 2) := by decide +kernel
theorem dX9_init_113 : decode cX9_init 113 = .ok (.putfield 52, 3) := by decide +kernel
theorem dX9_init_116 : decode cX9_init 116 = .ok (.aload_n 0, 1) := by decide +kernel
theorem dX9_init_117 : decode cX9_init 117 = .ok (.bipush 8, 2) := by decide +kernel
theorem dX9_init_119 : decode cX9_init 119 = .ok (.newarray .int, 2) := by decide +kernel
theorem dX9_init_121 : decode cX9_init 121 = .ok (.putfield 55, 3) := by decide +kernel
theorem dX9_init_124 : decode cX9_init 124 = .ok (.aload_n 0, 1) := by decide +kernel
theorem dX9_init_125 : decode cX9_init 125 = .ok (.bipush 8, 2) := by decide +kernel
theorem dX9_init_127 : decode cX9_init 127 = .ok (.newarray .int, 2) := by decide +kernel
theorem dX9_init_129 : decode cX9_init 129 = .ok (.putfield 58, 3) := by decide +kernel
theorem dX9_init_132 : decode cX9_init 132 = .ok (.aload_n 0, 1) := by decide +kernel
theorem dX9_init_133 : decode cX9_init 133 = .ok (.iconst 5, 1) := by decide +kernel
theorem dX9_init_134 : decode cX9_init 134 = .ok (.newarray .long, 2) := by decide +kernel
theorem dX9_init_136 : decode cX9_init 136 = .ok (.putfield 61, 3) := by decide +kernel
theorem dX9_init_139 : decode cX9_init 139 = .ok (.aload_n 0, 1) := by decide +kernel
theorem dX9_init_140 : decode cX9_init 140 = .ok (.bipush 46, 2) := by decide +kernel
theorem dX9_init_142 : decode cX9_init 142 = .ok (.newarray .int, 2) := by decide +kernel
theorem dX9_init_144 : decode cX9_init 144 = .ok (.putfield 65, 3) := by decide +kernel
theorem dX9_init_147 : decode cX9_init 147 = .ok (.aload_n 0, 1) := by decide +kernel
theorem dX9_init_148 : decode cX9_init 148 = .ok (.iconst 4, 1) := by decide +kernel
theorem dX9_init_149 : decode cX9_init 149 = .ok (.newarray .int, 2) := by decide +kernel
theorem dX9_init_151 : decode cX9_init 151 = .ok (.putfield 68, 3) := by decide +kernel
theorem dX9_init_154 : decode cX9_init 154 = .ok (.aload_n 0, 1) := by decide +kernel
theorem dX9_init_155 : decode cX9_init 155 = .ok (.iconst 4, 1) := by decide +kernel
theorem dX9_init_156 : decode cX9_init 156 = .ok (.newarray .int, 2) := by decide +kernel
theorem dX9_init_158 : decode cX9_init 158 = .ok (.putfield 71, 3) := by decide +kernel
theorem dX9_init_161 : decode cX9_init 161 = .ok (.aload_n 0, 1) := by decide +kernel
theorem dX9_init_162 : decode cX9_init 162 = .ok (.bipush 96, 2) := by decide +kernel
theorem dX9_init_164 : decode cX9_init 164 = .ok (.newarray .long, 2) := by decide +kernel
theorem dX9_init_166 : decode cX9_init 166 = .ok (.putfield 74, 3) := by decide +kernel
theorem dX9_init_169 : decode cX9_init 169 = .ok (.aload_n 0, 1) := by decide +kernel
theorem dX9_init_170 : decode cX9_init 170 = .ok (.bipush 24, 2) := by decide +kernel
theorem dX9_init_172 : decode cX9_init 172 = .ok (.newarray .long, 2) := by decide +kernel
theorem dX9_init_174 : decode cX9_init 174 = .ok (.putfield 77, 3) := by decide +kernel
theorem dX9_init_177 : decode cX9_init 177 = .ok (.aload_n 0, 1) := by decide +kernel
theorem dX9_init_178 : decode cX9_init 178 = .ok (.iconst 3, 1) := by decide +kernel
theorem dX9_init_179 : decode cX9_init 179 = .ok (.newarray .int, 2) := by decide +kernel
theorem dX9_init_181 : decode cX9_init 181 = .ok (.putfield 80, 3) := by decide +kernel
theorem dX9_init_184 : decode cX9_init 184 = .ok (.aload_n 0, 1) := by decide +kernel
theorem dX9_init_185 : decode cX9_init 185 = .ok (.iconst 3, 1) := by decide +kernel
theorem dX9_init_186 : decode cX9_init 186 = .ok (.newarray .int, 2) := by decide +kernel
theorem dX9_init_188 : decode cX9_init 188 = .ok (.putfield 83, 3) := by decide +kernel
theorem dX9_init_191 : decode cX9_init 191 = .ok (.iconst 0, 1) := by decide +kernel
theorem dX9_init_192 : decode cX9_init 192 = .ok (.istore_n 1, 1) := by decide +kernel
theorem dX9_init_193 : decode cX9_init 193 = .ok (.iload_n 1, 1) := by decide +kernel
theorem dX9_init_194 : decode cX9_init 194 = .ok (.iconst 4, 1) := by decide +kernel
theorem dX9_init_195 : decode cX9_init 195 = .ok (.if_icmp .ge 16, 3) := by decide +kernel
theorem dX9_init_198 : decode cX9_init 198 = .ok (.aload_n 0, 1) := by decide +kernel
theorem dX9_init_199 : decode cX9_init 199 = .ok (.getfield 68, 3) := by decide +kernel
theorem dX9_init_202 : decode cX9_init 202 = .ok (.iload_n 1, 1) := by decide +kernel
theorem dX9_init_203 : decode cX9_init 203 = .ok (.iconst (-1), 1) := by decide +kernel
theorem dX9_init_204 : decode cX9_init 204 = .ok (.iastore, 1) := by decide +kernel
theorem dX9_init_205 : decode cX9_init 205 = .ok (.iinc 1 1, 3) := by decide +kernel
theorem dX9_init_208 : decode cX9_init 208 = .ok (.goto (-15), 3) := by decide +kernel
theorem dX9_init_211 : decode cX9_init 211 = .ok (.return_, 1) := by decide +kernel
theorem dX9_in_0 : decode cX9_in 0 = .ok (.lload_n 0, 1) := by decide +kernel
theorem dX9_in_1 : decode cX9_in 1 = .ok (.lload_n 2, 1) := by decide +kernel
theorem dX9_in_2 : decode cX9_in 2 = .ok (.lcmp, 1) := by decide +kernel
theorem dX9_in_3 : decode cX9_in 3 = .ok (.ifCond .lt 14, 3) := by decide +kernel
theorem dX9_in_6 : decode cX9_in 6 = .ok (.lload_n 0, 1) := by decide +kernel
theorem dX9_in_7 : decode cX9_in 7 = .ok (.lload 4, 2) := by decide +kernel
theorem dX9_in_9 : decode cX9_in 9 = .ok (.lcmp, 1) := by decide +kernel
theorem dX9_in_10 : decode cX9_in 10 = .ok (.ifCond .gt 7, 3) := by decide +kernel
theorem dX9_in_13 : decode cX9_in 13 = .ok (.iconst 1, 1) := by decide +kernel
theorem dX9_in_14 : decode cX9_in 14 = .ok (.goto 4, 3) := by decide +kernel
theorem dX9_in_17 : decode cX9_in 17 = .ok (.iconst 0, 1) := by decide +kernel
theorem dX9_in_18 : decode cX9_in 18 = .ok (.ireturn, 1) := by decide +kernel
set_option maxRecDepth 20000 in
theorem ggX9_isOne_X9_in : GoodIn wsX9_isOne wsX9_in := goodIn_r _ [5] rfl (by decide +kernel)
set_option maxRecDepth 20000 in
theorem gX9_isOne_X9_in : GoodIn wsX9_isOne (va_wsS RX9 90 yX9_in wsX9_in) := goodIn_app (goodIn_of _ (by decide +kernel)) ggX9_isOne_X9_in
theorem dX9_isOne_0 : decode cX9_isOne 0 = .ok (.iload_n 1, 1) := by decide +kernel
theorem dX9_isOne_1 : decode cX9_isOne 1 = .ok (.i2l, 1) := by decide +kernel
theorem dX9_isOne_2 : decode cX9_isOne 2 = .ok (.lconst 0, 1) := by decide +kernel
theorem dX9_isOne_3 : decode cX9_isOne 3 = .ok (.aload_n 0, 1) := by decide +kernel
theorem dX9_isOne_4 : decode cX9_isOne 4 = .ok (.getfield 86, 3) := by decide +kernel
theorem dX9_isOne_7 : decode cX9_isOne 7 = .ok (.iconst 1, 1) := by decide +kernel
theorem dX9_isOne_8 : decode cX9_isOne 8 = .ok (.isub, 1) := by decide +kernel
theorem dX9_isOne_9 : decode cX9_isOne 9 = .ok (.i2l, 1) := by decide +kernel
theorem dX9_isOne_10 : decode cX9_isOne 10 = .ok (.invokestatic 90, 3) := by decide +kernel
theorem dX9_isOne_13 : decode cX9_isOne 13 = .ok (.ireturn, 1) := by decide +kernel
set_option maxRecDepth 20000 in
theorem ggX9_areTwo_X9_isOne : GoodIn wsX9_areTwo wsX9_isOne := goodIn_r _ [5, 6, 7, 8, 4, 9, 10, 11, 12, 13, 14, 15, 16, 17, 18, 19, 20, 21, 22, 23, 24, 25, 26, 27, 28, 29, 30, 31, 32, 33, 34, 35, 36, 37, 38, 39, 40] rfl (by decide +kernel)
set_option maxRecDepth 20000 in
theorem gX9_areTwo_X9_isOne : GoodIn wsX9_areTwo (wsV RX9 94 RX9 yX9_isOne wsX9_isOne) := goodIn_app (goodIn_of _ (by decide +kernel)) ggX9_areTwo_X9_isOne
theorem dX9_areTwo_0 : decode cX9_areTwo 0 = .ok (.aload_n 0, 1) := by decide +kernel
theorem dX9_areTwo_1 : decode cX9_areTwo 1 = .ok (.iload_n 1, 1) := by decide +kernel
theorem dX9_areTwo_2 : decode cX9_areTwo 2 = .ok (.invokevirtual 94, 3) := by decide +kernel
theorem dX9_areTwo_5 : decode cX9_areTwo 5 = .ok (.ifCond .eq 20, 3) := by decide +kernel
theorem dX9_areTwo_8 : decode cX9_areTwo 8 = .ok (.aload_n 0, 1) := by decide +kernel
theorem dX9_areTwo_9 : decode cX9_areTwo 9 = .ok (.iload_n 2, 1) := by decide +kernel
theorem dX9_areTwo_10 : decode cX9_areTwo 10 = .ok (.invokevirtual 94, 3) := by decide +kernel
theorem dX9_areTwo_13 : decode cX9_areTwo 13 = .ok (.ifCond .eq 12, 3) := by decide +kernel
theorem dX9_areTwo_16 : decode cX9_areTwo 16 = .ok (.iload_n 1, 1) := by decide +kernel
theorem dX9_areTwo_17 : decode cX9_areTwo 17 = .ok (.iload_n 2, 1) := by decide +kernel
theorem dX9_areTwo_18 : decode cX9_areTwo 18 = .ok (.if_icmp .eq 7, 3) := by decide +kernel
theorem dX9_areTwo_21 : decode cX9_areTwo 21 = .ok (.iconst 1, 1) := by decide +kernel
theorem dX9_areTwo_22 : decode cX9_areTwo 22 = .ok (.goto 4, 3) := by decide +kernel
theorem dX9_areTwo_25 : decode cX9_areTwo 25 = .ok (.iconst 0, 1) := by decide +kernel
theorem dX9_areTwo_26 : decode cX9_areTwo 26 = .ok (.ireturn, 1) := by decide +kernel
theorem dX9_has_0 : decode cX9_has 0 = .ok (.iload_n 0, 1) := by decide +kernel
theorem dX9_has_1 : decode cX9_has 1 = .ok (.iload_n 1, 1) := by decide +kernel
theorem dX9_has_2 : decode cX9_has 2 = .ok (.ishr, 1) := by decide +kernel
theorem dX9_has_3 : decode cX9_has 3 = .ok (.iconst 1, 1) := by decide +kernel
theorem dX9_has_4 : decode cX9_has 4 = .ok (.iand, 1) := by decide +kernel
theorem dX9_has_5 : decode cX9_has 5 = .ok (.iconst 1, 1) := by decide +kernel
theorem dX9_has_6 : decode cX9_has 6 = .ok (.if_icmp .ne 7, 3) := by decide +kernel
theorem dX9_has_9 : decode cX9_has 9 = .ok (.iconst 1, 1) := by decide +kernel
theorem dX9_has_10 : decode cX9_has 10 = .ok (.goto 4, 3) := by decide +kernel
theorem dX9_has_13 : decode cX9_has 13 = .ok (.iconst 0, 1) := by decide +kernel
theorem dX9_has_14 : decode cX9_has 14 = .ok (.ireturn, 1) := by decide +kernel
theorem dX9_ones_0 : decode cX9_ones 0 = .ok (.iconst 0, 1) := by decide +kernel
theorem dX9_ones_1 : decode cX9_ones 1 = .ok (.istore_n 1, 1) := by decide +kernel
theorem dX9_ones_2 : decode cX9_ones 2 = .ok (.iload_n 0, 1) := by decide +kernel
theorem dX9_ones_3 : decode cX9_ones 3 = .ok (.istore_n 2, 1) := by decide +kernel
theorem dX9_ones_4 : decode cX9_ones 4 = .ok (.iload_n 2, 1) := by decide +kernel
theorem dX9_ones_5 : decode cX9_ones 5 = .ok (.ifCond .eq 15, 3) := by decide +kernel
theorem dX9_ones_8 : decode cX9_ones 8 = .ok (.iinc 1 1, 3) := by decide +kernel
theorem dX9_ones_11 : decode cX9_ones 11 = .ok (.iload_n 2, 1) := by decide +kernel
theorem dX9_ones_12 : decode cX9_ones 12 = .ok (.iload_n 2, 1) := by decide +kernel
theorem dX9_ones_13 : decode cX9_ones 13 = .ok (.iconst 1, 1) := by decide +kernel
theorem dX9_ones_14 : decode cX9_ones 14 = .ok (.isub, 1) := by decide +kernel
theorem dX9_ones_15 : decode cX9_ones 15 = .ok (.iand, 1) := by decide +kernel
theorem dX9_ones_16 : decode cX9_ones 16 = .ok (.istore_n 2, 1) := by decide +kernel
theorem dX9_ones_17 : decode cX9_ones 17 = .ok (.goto (-13), 3) := by decide +kernel
theorem dX9_ones_20 : decode cX9_ones 20 = .ok (.iload_n 1, 1) := by decide +kernel
theorem dX9_ones_21 : decode cX9_ones 21 = .ok (.ireturn, 1) := by decide +kernel
theorem dX9_add_0 : decode cX9_add 0 = .ok (.aload_n 0, 1) := by decide +kernel
theorem dX9_add_1 : decode cX9_add 1 = .ok (.getfield 7, 3) := by decide +kernel
theorem dX9_add_4 : decode cX9_add 4 = .ok (.aload_n 0, 1) := by decide +kernel
theorem dX9_add_5 : decode cX9_add 5 = .ok (.getfield 86, 3) := by decide +kernel
theorem dX9_add_8 : decode cX9_add 8 = .ok (.iload_n 1, 1) := by decide +kernel
theorem dX9_add_9 : decode cX9_add 9 = .ok (.iastore, 1) := by decide +kernel
theorem dX9_add_10 : decode cX9_add 10 = .ok (.aload_n 0, 1) := by decide +kernel
theorem dX9_add_11 : decode cX9_add 11 = .ok (.getfield 13, 3) := by decide +kernel
theorem dX9_add_14 : decode cX9_add 14 = .ok (.aload_n 0, 1) := by decide +kernel
theorem dX9_add_15 : decode cX9_add 15 = .ok (.getfield 86, 3) := by decide +kernel
theorem dX9_add_18 : decode cX9_add 18 = .ok (.iload_n 2, 1) := by decide +kernel
theorem dX9_add_19 : decode cX9_add 19 = .ok (.iastore, 1) := by decide +kernel
theorem dX9_add_20 : decode cX9_add 20 = .ok (.aload_n 0, 1) := by decide +kernel
theorem dX9_add_21 : decode cX9_add 21 = .ok (.getfield 16, 3) := by decide +kernel
theorem dX9_add_24 : decode cX9_add 24 = .ok (.aload_n 0, 1) := by decide +kernel
theorem dX9_add_25 : decode cX9_add 25 = .ok (.getfield 86, 3) := by decide +kernel
theorem dX9_add_28 : decode cX9_add 28 = .ok (.iconst 0, 1) := by decide +kernel
theorem dX9_add_29 : decode cX9_add 29 = .ok (.iastore, 1) := by decide +kernel
theorem dX9_add_30 : decode cX9_add 30 = .ok (.aload_n 0, 1) := by decide +kernel
theorem dX9_add_31 : decode cX9_add 31 = .ok (.getfield 19, 3) := by decide +kernel
theorem dX9_add_34 : decode cX9_add 34 = .ok (.aload_n 0, 1) := by decide +kernel
theorem dX9_add_35 : decode cX9_add 35 = .ok (.getfield 86, 3) := by decide +kernel
theorem dX9_add_38 : decode cX9_add 38 = .ok (.iconst 0, 1) := by decide +kernel
theorem dX9_add_39 : decode cX9_add 39 = .ok (.iastore, 1) := by decide +kernel
theorem dX9_add_40 : decode cX9_add 40 = .ok (.iconst 0, 1) := by decide +kernel
theorem dX9_add_41 : decode cX9_add 41 = .ok (.istore_n 3, 1) := by decide +kernel
theorem dX9_add_42 : decode cX9_add 42 = .ok (.iload_n 3, 1) := by decide +kernel
theorem dX9_add_43 : decode cX9_add 43 = .ok (.aload_n 0, 1) := by decide +kernel
theorem dX9_add_44 : decode cX9_add 44 = .ok (.getfield 86, 3) := by decide +kernel
theorem dX9_add_47 : decode cX9_add 47 = .ok (.if_icmp .ge 39, 3) := by decide +kernel
theorem dX9_add_50 : decode cX9_add 50 = .ok (.aload_n 0, 1) := by decide +kernel
theorem dX9_add_51 : decode cX9_add 51 = .ok (.getfield 16, 3) := by decide +kernel
theorem dX9_add_54 : decode cX9_add 54 = .ok (.iload_n 3, 1) := by decide +kernel
theorem dX9_add_55 : decode cX9_add 55 = .ok (.dup2, 1) := by decide +kernel
theorem dX9_add_56 : decode cX9_add 56 = .ok (.iaload, 1) := by decide +kernel
theorem dX9_add_57 : decode cX9_add 57 = .ok (.iconst 1, 1) := by decide +kernel
theorem dX9_add_58 : decode cX9_add 58 = .ok (.aload_n 0, 1) := by decide +kernel
theorem dX9_add_59 : decode cX9_add 59 = .ok (.getfield 86, 3) := by decide +kernel
theorem dX9_add_62 : decode cX9_add 62 = .ok (.ishl, 1) := by decide +kernel
theorem dX9_add_63 : decode cX9_add 63 = .ok (.ior, 1) := by decide +kernel
theorem dX9_add_64 : decode cX9_add 64 = .ok (.iastore, 1) := by decide +kernel
theorem dX9_add_65 : decode cX9_add 65 = .ok (.aload_n 0, 1) := by decide +kernel
theorem dX9_add_66 : decode cX9_add 66 = .ok (.getfield 16, 3) := by decide +kernel
theorem dX9_add_69 : decode cX9_add 69 = .ok (.aload_n 0, 1) := by decide +kernel
theorem dX9_add_70 : decode cX9_add 70 = .ok (.getfield 86, 3) := by decide +kernel
theorem dX9_add_73 : decode cX9_add 73 = .ok (.dup2, 1) := by decide +kernel
theorem dX9_add_74 : decode cX9_add 74 = .ok (.iaload, 1) := by decide +kernel
theorem dX9_add_75 : decode cX9_add 75 = .ok (.iconst 1, 1) := by decide +kernel
theorem dX9_add_76 : decode cX9_add 76 = .ok (.iload_n 3, 1) := by decide +kernel
theorem dX9_add_77 : decode cX9_add 77 = .ok (.ishl, 1) := by decide +kernel
theorem dX9_add_78 : decode cX9_add 78 = .ok (.ior, 1) := by decide +kernel
theorem dX9_add_79 : decode cX9_add 79 = .ok (.iastore, 1) := by decide +kernel
theorem dX9_add_80 : decode cX9_add 80 = .ok (.iinc 3 1, 3) := by decide +kernel
theorem dX9_add_83 : decode cX9_add 83 = .ok (.goto (-41), 3) := by decide +kernel
theorem dX9_add_86 : decode cX9_add 86 = .ok (.aload_n 0, 1) := by decide +kernel
theorem dX9_add_87 : decode cX9_add 87 = .ok (.dup, 1) := by decide +kernel
theorem dX9_add_88 : decode cX9_add 88 = .ok (.getfield 86, 3) := by decide +kernel
theorem dX9_add_91 : decode cX9_add 91 = .ok (.iconst 1, 1) := by decide +kernel
theorem dX9_add_92 : decode cX9_add 92 = .ok (.iadd, 1) := by decide +kernel
theorem dX9_add_93 : decode cX9_add 93 = .ok (.putfield 86, 3) := by decide +kernel
theorem dX9_add_96 : decode cX9_add 96 = .ok (.return_, 1) := by decide +kernel
set_option maxRecDepth 20000 in
theorem ggX9_person_X9_in : GoodIn wsX9_person wsX9_in := goodIn_r _ [7] rfl (by decide +kernel)
set_option maxRecDepth 20000 in
theorem gX9_person_X9_in : GoodIn wsX9_person (va_wsS RX9 90 yX9_in wsX9_in) := goodIn_app (goodIn_of _ (by decide +kernel)) ggX9_person_X9_in
set_option maxRecDepth 20000 in
theorem ggX9_person_X9_add : GoodIn wsX9_person wsX9_add := goodIn_r _ [11, 12, 3, 13, 14, 15, 16, 17, 18, 19, 20, 21, 22, 23, 24, 25, 26, 27, 28, 29, 30, 31, 32, 33, 34, 35, 36, 37, 38, 39, 40, 41, 42, 43, 44, 45, 46] rfl (by decide +kernel)
set_option maxRecDepth 20000 in
theorem gX9_person_X9_add : GoodIn wsX9_person (wsV RX9 102 RX9 yX9_add wsX9_add) := goodIn_app (goodIn_of _ (by decide +kernel)) ggX9_person_X9_add
theorem dX9_person_0 : decode cX9_person 0 = .ok (.iload_n 1, 1) := by decide +kernel
theorem dX9_person_1 : decode cX9_person 1 = .ok (.i2l, 1) := by decide +kernel
theorem dX9_person_2 : decode cX9_person 2 = .ok (.lconst 0, 1) := by decide +kernel
theorem dX9_person_3 : decode cX9_person 3 = .ok (.ldc2_w 98, 3) := by decide +kernel
theorem dX9_person_6 : decode cX9_person 6 = .ok (.invokestatic 90, 3) := by decide +kernel
theorem dX9_person_9 : decode cX9_person 9 = .ok (.ifCond .eq 15, 3) := by decide +kernel
theorem dX9_person_12 : decode cX9_person 12 = .ok (.iload_n 2, 1) := by decide +kernel
theorem dX9_person_13 : decode cX9_person 13 = .ok (.i2l, 1) := by decide +kernel
theorem dX9_person_14 : decode cX9_person 14 = .ok (.lconst 0, 1) := by decide +kernel
theorem dX9_person_15 : decode cX9_person 15 = .ok (.ldc2_w 100, 3) := by decide +kernel
theorem dX9_person_18 : decode cX9_person 18 = .ok (.invokestatic 90, 3) := by decide +kernel
theorem dX9_person_21 : decode cX9_person 21 = .ok (.ifCond .ne 5, 3) := by decide +kernel
theorem dX9_person_24 : decode cX9_person 24 = .ok (.iconst (-1), 1) := by decide +kernel
theorem dX9_person_25 : decode cX9_person 25 = .ok (.ireturn, 1) := by decide +kernel
theorem dX9_person_26 : decode cX9_person 26 = .ok (.aload_n 0, 1) := by decide +kernel
theorem dX9_person_27 : decode cX9_person 27 = .ok (.getfield 86, 3) := by decide +kernel
theorem dX9_person_30 : decode cX9_person 30 = .ok (.iconst 5, 1) := by decide +kernel
theorem dX9_person_31 : decode cX9_person 31 = .ok (.if_icmp .ne 6, 3) := by decide +kernel
theorem dX9_person_34 : decode cX9_person 34 = .ok (.bipush (-3), 2) := by decide +kernel
theorem dX9_person_36 : decode cX9_person 36 = .ok (.ireturn, 1) := by decide +kernel
theorem dX9_person_37 : decode cX9_person 37 = .ok (.aload_n 0, 1) := by decide +kernel
theorem dX9_person_38 : decode cX9_person 38 = .ok (.iload_n 1, 1) := by decide +kernel
theorem dX9_person_39 : decode cX9_person 39 = .ok (.iload_n 2, 1) := by decide +kernel
theorem dX9_person_40 : decode cX9_person 40 = .ok (.invokevirtual 102, 3) := by decide +kernel
theorem dX9_person_43 : decode cX9_person 43 = .ok (.aload_n 0, 1) := by decide +kernel
theorem dX9_person_44 : decode cX9_person 44 = .ok (.getfield 86, 3) := by decide +kernel
theorem dX9_person_47 : decode cX9_person 47 = .ok (.iconst 1, 1) := by decide +kernel
theorem dX9_person_48 : decode cX9_person 48 = .ok (.isub, 1) := by decide +kernel
theorem dX9_person_49 : decode cX9_person 49 = .ok (.ireturn, 1) := by decide +kernel
set_option maxRecDepth 20000 in
theorem ggX9_set_X9_isOne : GoodIn wsX9_set wsX9_isOne := goodIn_r _ [7, 8, 9, 10, 6, 11, 12, 13, 14, 15, 16, 17, 18, 19, 20, 21, 22, 23, 24, 25, 26, 27, 28, 29, 30, 31, 32, 33, 34, 35, 36, 37, 38, 39, 40, 41, 42] rfl (by decide +kernel)
set_option maxRecDepth 20000 in
theorem gX9_set_X9_isOne : GoodIn wsX9_set (wsV RX9 94 RX9 yX9_isOne wsX9_isOne) := goodIn_app (goodIn_of _ (by decide +kernel)) ggX9_set_X9_isOne
set_option maxRecDepth 20000 in
theorem ggX9_set_X9_in : GoodIn wsX9_set wsX9_in := goodIn_r _ [11] rfl (by decide +kernel)
set_option maxRecDepth 20000 in
theorem gX9_set_X9_in : GoodIn wsX9_set (va_wsS RX9 90 yX9_in wsX9_in) := goodIn_app (goodIn_of _ (by decide +kernel)) ggX9_set_X9_in
theorem dX9_set_0 : decode cX9_set 0 = .ok (.aload_n 0, 1) := by decide +kernel
theorem dX9_set_1 : decode cX9_set 1 = .ok (.iload_n 1, 1) := by decide +kernel
theorem dX9_set_2 : decode cX9_set 2 = .ok (.invokevirtual 94, 3) := by decide +kernel
theorem dX9_set_5 : decode cX9_set 5 = .ok (.ifCond .eq 15, 3) := by decide +kernel
theorem dX9_set_8 : decode cX9_set 8 = .ok (.iload_n 2, 1) := by decide +kernel
theorem dX9_set_9 : decode cX9_set 9 = .ok (.i2l, 1) := by decide +kernel
theorem dX9_set_10 : decode cX9_set 10 = .ok (.lconst 0, 1) := by decide +kernel
theorem dX9_set_11 : decode cX9_set 11 = .ok (.ldc2_w 100, 3) := by decide +kernel
theorem dX9_set_14 : decode cX9_set 14 = .ok (.invokestatic 90, 3) := by decide +kernel
theorem dX9_set_17 : decode cX9_set 17 = .ok (.ifCond .ne 5, 3) := by decide +kernel
theorem dX9_set_20 : decode cX9_set 20 = .ok (.iconst (-1), 1) := by decide +kernel
theorem dX9_set_21 : decode cX9_set 21 = .ok (.ireturn, 1) := by decide +kernel
theorem dX9_set_22 : decode cX9_set 22 = .ok (.aload_n 0, 1) := by decide +kernel
theorem dX9_set_23 : decode cX9_set 23 = .ok (.getfield 13, 3) := by decide +kernel
theorem dX9_set_26 : decode cX9_set 26 = .ok (.iload_n 1, 1) := by decide +kernel
theorem dX9_set_27 : decode cX9_set 27 = .ok (.iaload, 1) := by decide +kernel
theorem dX9_set_28 : decode cX9_set 28 = .ok (.istore_n 3, 1) := by decide +kernel
theorem dX9_set_29 : decode cX9_set 29 = .ok (.aload_n 0, 1) := by decide +kernel
theorem dX9_set_30 : decode cX9_set 30 = .ok (.getfield 13, 3) := by decide +kernel
theorem dX9_set_33 : decode cX9_set 33 = .ok (.iload_n 1, 1) := by decide +kernel
theorem dX9_set_34 : decode cX9_set 34 = .ok (.iload_n 2, 1) := by decide +kernel
theorem dX9_set_35 : decode cX9_set 35 = .ok (.iastore, 1) := by decide +kernel
theorem dX9_set_36 : decode cX9_set 36 = .ok (.iload_n 3, 1) := by decide +kernel
theorem dX9_set_37 : decode cX9_set 37 = .ok (.ireturn, 1) := by decide +kernel
theorem dX9_gives_0 : decode cX9_gives 0 = .ok (.aload_n 0, 1) := by decide +kernel
theorem dX9_gives_1 : decode cX9_gives 1 = .ok (.getfield 7, 3) := by decide +kernel
theorem dX9_gives_4 : decode cX9_gives 4 = .ok (.iload_n 1, 1) := by decide +kernel
theorem dX9_gives_5 : decode cX9_gives 5 = .ok (.iaload, 1) := by decide +kernel
theorem dX9_gives_6 : decode cX9_gives 6 = .ok (.istore_n 3, 1) := by decide +kernel
theorem dX9_gives_7 : decode cX9_gives 7 = .ok (.iload_n 3, 1) := by decide +kernel
theorem dX9_gives_8 : decode cX9_gives 8 = .ok (.iconst 3, 1) := by decide +kernel
theorem dX9_gives_9 : decode cX9_gives 9 = .ok (.if_icmp .ne 18, 3) := by decide +kernel
theorem dX9_gives_12 : decode cX9_gives 12 = .ok (.iload_n 2, 1) := by decide +kernel
theorem dX9_gives_13 : decode cX9_gives 13 = .ok (.bipush 9, 2) := by decide +kernel
theorem dX9_gives_15 : decode cX9_gives 15 = .ok (.if_icmp .le 10, 3) := by decide +kernel
theorem dX9_gives_18 : decode cX9_gives 18 = .ok (.iload_n 2, 1) := by decide +kernel
theorem dX9_gives_19 : decode cX9_gives 19 = .ok (.bipush 9, 2) := by decide +kernel
theorem dX9_gives_21 : decode cX9_gives 21 = .ok (.isub, 1) := by decide +kernel
theorem dX9_gives_22 : decode cX9_gives 22 = .ok (.goto 4, 3) := by decide +kernel
theorem dX9_gives_25 : decode cX9_gives 25 = .ok (.iconst 0, 1) := by decide +kernel
theorem dX9_gives_26 : decode cX9_gives 26 = .ok (.ireturn, 1) := by decide +kernel
theorem dX9_gives_27 : decode cX9_gives 27 = .ok (.iload_n 3, 1) := by decide +kernel
theorem dX9_gives_28 : decode cX9_gives 28 = .ok (.iconst 1, 1) := by decide +kernel
theorem dX9_gives_29 : decode cX9_gives 29 = .ok (.if_icmp .ne 9, 3) := by decide +kernel
theorem dX9_gives_32 : decode cX9_gives 32 = .ok (.iload_n 2, 1) := by decide +kernel
theorem dX9_gives_33 : decode cX9_gives 33 = .ok (.iconst 2, 1) := by decide +kernel
theorem dX9_gives_34 : decode cX9_gives 34 = .ok (.idiv, 1) := by decide +kernel
theorem dX9_gives_35 : decode cX9_gives 35 = .ok (.goto 19, 3) := by decide +kernel
theorem dX9_gives_38 : decode cX9_gives 38 = .ok (.iload_n 3, 1) := by decide +kernel
theorem dX9_gives_39 : decode cX9_gives 39 = .ok (.iconst 2, 1) := by decide +kernel
theorem dX9_gives_40 : decode cX9_gives 40 = .ok (.if_icmp .ne 9, 3) := by decide +kernel
theorem dX9_gives_43 : decode cX9_gives 43 = .ok (.iload_n 2, 1) := by decide +kernel
theorem dX9_gives_44 : decode cX9_gives 44 = .ok (.iconst 3, 1) := by decide +kernel
theorem dX9_gives_45 : decode cX9_gives 45 = .ok (.idiv, 1) := by decide +kernel
theorem dX9_gives_46 : decode cX9_gives 46 = .ok (.goto 8, 3) := by decide +kernel
theorem dX9_gives_49 : decode cX9_gives 49 = .ok (.iload_n 2, 1) := by decide +kernel
theorem dX9_gives_50 : decode cX9_gives 50 = .ok (.iconst 1, 1) := by decide +kernel
theorem dX9_gives_51 : decode cX9_gives 51 = .ok (.iadd, 1) := by decide +kernel

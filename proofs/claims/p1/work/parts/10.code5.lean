theorem dX9_carried_248 : decode cX9_carried 248 = .ok (.ifCond .eq 13, 3) := by decide +kernel
theorem dX9_carried_251 : decode cX9_carried 251 = .ok (.iload_n 1, 1) := by decide +kernel
theorem dX9_carried_252 : decode cX9_carried 252 = .ok (.bipush 45, 2) := by decide +kernel
theorem dX9_carried_254 : decode cX9_carried 254 = .ok (.if_icmp .ne 7, 3) := by decide +kernel
theorem dX9_carried_257 : decode cX9_carried 257 = .ok (.iload_n 2, 1) := by decide +kernel
theorem dX9_carried_258 : decode cX9_carried 258 = .ok (.goto 7, 3) := by decide +kernel
theorem dX9_carried_261 : decode cX9_carried 261 = .ok (.aload_n 0, 1) := by decide +kernel
theorem dX9_carried_262 : decode cX9_carried 262 = .ok (.getfield 139, 3) := by decide +kernel
theorem dX9_carried_265 : decode cX9_carried 265 = .ok (.putfield 139, 3) := by decide +kernel
theorem dX9_carried_268 : decode cX9_carried 268 = .ok (.iload_n 1, 1) := by decide +kernel
theorem dX9_carried_269 : decode cX9_carried 269 = .ok (.bipush 44, 2) := by decide +kernel
theorem dX9_carried_271 : decode cX9_carried 271 = .ok (.if_icmp .ne 10, 3) := by decide +kernel
theorem dX9_carried_274 : decode cX9_carried 274 = .ok (.aload_n 0, 1) := by decide +kernel
theorem dX9_carried_275 : decode cX9_carried 275 = .ok (.getfield 86, 3) := by decide +kernel
theorem dX9_carried_278 : decode cX9_carried 278 = .ok (.goto 7, 3) := by decide +kernel
theorem dX9_carried_281 : decode cX9_carried 281 = .ok (.aload_n 0, 1) := by decide +kernel
theorem dX9_carried_282 : decode cX9_carried 282 = .ok (.getfield 139, 3) := by decide +kernel
theorem dX9_carried_285 : decode cX9_carried 285 = .ok (.ireturn, 1) := by decide +kernel
set_option maxRecDepth 20000 in
theorem ggX9_image_X9_carried : GoodIn wsX9_image wsX9_carried := goodIn_r _ [7, 8, 9, 10, 11, 12, 13, 14, 15, 16, 17, 18, 19, 20, 21, 22, 23, 24, 25, 26, 27, 28, 29, 30, 31, 32, 33, 34, 35, 36, 37, 38, 39, 40, 41, 42, 43, 44, 45] (by decide +kernel) (by decide +kernel)
set_option maxRecDepth 20000 in
theorem gX9_image_X9_carried : GoodIn wsX9_image (wsV RX9 232 RX9 yX9_carried wsX9_carried) := goodIn_app (goodIn_of _ (by decide +kernel)) ggX9_image_X9_carried
theorem dX9_image_0 : decode cX9_image 0 = .ok (.iconst 0, 1) := by decide +kernel
theorem dX9_image_1 : decode cX9_image 1 = .ok (.istore_n 1, 1) := by decide +kernel
theorem dX9_image_2 : decode cX9_image 2 = .ok (.iload_n 1, 1) := by decide +kernel
theorem dX9_image_3 : decode cX9_image 3 = .ok (.bipush 46, 2) := by decide +kernel
theorem dX9_image_5 : decode cX9_image 5 = .ok (.if_icmp .ge 22, 3) := by decide +kernel
theorem dX9_image_8 : decode cX9_image 8 = .ok (.aload_n 0, 1) := by decide +kernel
theorem dX9_image_9 : decode cX9_image 9 = .ok (.getfield 65, 3) := by decide +kernel
theorem dX9_image_12 : decode cX9_image 12 = .ok (.iload_n 1, 1) := by decide +kernel
theorem dX9_image_13 : decode cX9_image 13 = .ok (.aload_n 0, 1) := by decide +kernel
theorem dX9_image_14 : decode cX9_image 14 = .ok (.iload_n 1, 1) := by decide +kernel
theorem dX9_image_15 : decode cX9_image 15 = .ok (.iconst 0, 1) := by decide +kernel
theorem dX9_image_16 : decode cX9_image 16 = .ok (.iconst 0, 1) := by decide +kernel
theorem dX9_image_17 : decode cX9_image 17 = .ok (.invokevirtual 232, 3) := by decide +kernel
theorem dX9_image_20 : decode cX9_image 20 = .ok (.iastore, 1) := by decide +kernel
theorem dX9_image_21 : decode cX9_image 21 = .ok (.iinc 1 1, 3) := by decide +kernel
theorem dX9_image_24 : decode cX9_image 24 = .ok (.goto (-22), 3) := by decide +kernel
theorem dX9_image_27 : decode cX9_image 27 = .ok (.aload_n 0, 1) := by decide +kernel
theorem dX9_image_28 : decode cX9_image 28 = .ok (.iconst 1, 1) := by decide +kernel
theorem dX9_image_29 : decode cX9_image 29 = .ok (.putfield 236, 3) := by decide +kernel
theorem dX9_image_32 : decode cX9_image 32 = .ok (.iconst 1, 1) := by decide +kernel
theorem dX9_image_33 : decode cX9_image 33 = .ok (.ireturn, 1) := by decide +kernel
set_option maxRecDepth 20000 in
theorem ggX9_restore_X9_carried : GoodIn wsX9_restore wsX9_carried := goodIn_r _ [7, 8, 9, 10, 11, 12, 13, 14, 15, 16, 17, 18, 19, 20, 21, 22, 23, 24, 25, 26, 27, 28, 29, 30, 31, 32, 33, 34, 35, 36, 37, 38, 39, 40, 41, 42, 43, 44, 45] (by decide +kernel) (by decide +kernel)
set_option maxRecDepth 20000 in
theorem gX9_restore_X9_carried : GoodIn wsX9_restore (wsV RX9 232 RX9 yX9_carried wsX9_carried) := goodIn_app (goodIn_of _ (by decide +kernel)) ggX9_restore_X9_carried
theorem dX9_restore_0 : decode cX9_restore 0 = .ok (.aload_n 0, 1) := by decide +kernel
theorem dX9_restore_1 : decode cX9_restore 1 = .ok (.getfield 236, 3) := by decide +kernel
theorem dX9_restore_4 : decode cX9_restore 4 = .ok (.ifCond .ne 6, 3) := by decide +kernel
theorem dX9_restore_7 : decode cX9_restore 7 = .ok (.bipush (-4), 2) := by decide +kernel
theorem dX9_restore_9 : decode cX9_restore 9 = .ok (.ireturn, 1) := by decide +kernel
theorem dX9_restore_10 : decode cX9_restore 10 = .ok (.iconst 0, 1) := by decide +kernel
theorem dX9_restore_11 : decode cX9_restore 11 = .ok (.istore_n 1, 1) := by decide +kernel
theorem dX9_restore_12 : decode cX9_restore 12 = .ok (.iload_n 1, 1) := by decide +kernel
theorem dX9_restore_13 : decode cX9_restore 13 = .ok (.bipush 46, 2) := by decide +kernel
theorem dX9_restore_15 : decode cX9_restore 15 = .ok (.if_icmp .ge 22, 3) := by decide +kernel
theorem dX9_restore_18 : decode cX9_restore 18 = .ok (.aload_n 0, 1) := by decide +kernel
theorem dX9_restore_19 : decode cX9_restore 19 = .ok (.iload_n 1, 1) := by decide +kernel
theorem dX9_restore_20 : decode cX9_restore 20 = .ok (.aload_n 0, 1) := by decide +kernel
theorem dX9_restore_21 : decode cX9_restore 21 = .ok (.getfield 65, 3) := by decide +kernel
theorem dX9_restore_24 : decode cX9_restore 24 = .ok (.iload_n 1, 1) := by decide +kernel
theorem dX9_restore_25 : decode cX9_restore 25 = .ok (.iaload, 1) := by decide +kernel
theorem dX9_restore_26 : decode cX9_restore 26 = .ok (.iconst 1, 1) := by decide +kernel
theorem dX9_restore_27 : decode cX9_restore 27 = .ok (.invokevirtual 232, 3) := by decide +kernel
theorem dX9_restore_30 : decode cX9_restore 30 = .ok (.pop, 1) := by decide +kernel
theorem dX9_restore_31 : decode cX9_restore 31 = .ok (.iinc 1 1, 3) := by decide +kernel
theorem dX9_restore_34 : decode cX9_restore 34 = .ok (.goto (-22), 3) := by decide +kernel
theorem dX9_restore_37 : decode cX9_restore 37 = .ok (.iconst 1, 1) := by decide +kernel
theorem dX9_restore_38 : decode cX9_restore 38 = .ok (.ireturn, 1) := by decide +kernel
set_option maxRecDepth 20000 in
theorem ggX9_isSheet_X9_in : GoodIn wsX9_isSheet wsX9_in := goodIn_r _ [6] (by decide +kernel) (by decide +kernel)
set_option maxRecDepth 20000 in
theorem gX9_isSheet_X9_in : GoodIn wsX9_isSheet (va_wsS RX9 90 yX9_in wsX9_in) := goodIn_app (goodIn_of _ (by decide +kernel)) ggX9_isSheet_X9_in
theorem dX9_isSheet_0 : decode cX9_isSheet 0 = .ok (.iload_n 0, 1) := by decide +kernel
theorem dX9_isSheet_1 : decode cX9_isSheet 1 = .ok (.i2l, 1) := by decide +kernel
theorem dX9_isSheet_2 : decode cX9_isSheet 2 = .ok (.lconst 0, 1) := by decide +kernel
theorem dX9_isSheet_3 : decode cX9_isSheet 3 = .ok (.ldc2_w 98, 3) := by decide +kernel
theorem dX9_isSheet_6 : decode cX9_isSheet 6 = .ok (.invokestatic 90, 3) := by decide +kernel
theorem dX9_isSheet_9 : decode cX9_isSheet 9 = .ok (.ifCond .eq 19, 3) := by decide +kernel
theorem dX9_isSheet_12 : decode cX9_isSheet 12 = .ok (.iload_n 1, 1) := by decide +kernel
theorem dX9_isSheet_13 : decode cX9_isSheet 13 = .ok (.i2l, 1) := by decide +kernel
theorem dX9_isSheet_14 : decode cX9_isSheet 14 = .ok (.lconst 0, 1) := by decide +kernel
theorem dX9_isSheet_15 : decode cX9_isSheet 15 = .ok (.ldc2_w 227, 3) := by decide +kernel
theorem dX9_isSheet_18 : decode cX9_isSheet 18 = .ok (.invokestatic 90, 3) := by decide +kernel
theorem dX9_isSheet_21 : decode cX9_isSheet 21 = .ok (.ifCond .eq 7, 3) := by decide +kernel
theorem dX9_isSheet_24 : decode cX9_isSheet 24 = .ok (.iconst 1, 1) := by decide +kernel
theorem dX9_isSheet_25 : decode cX9_isSheet 25 = .ok (.goto 4, 3) := by decide +kernel
theorem dX9_isSheet_28 : decode cX9_isSheet 28 = .ok (.iconst 0, 1) := by decide +kernel
theorem dX9_isSheet_29 : decode cX9_isSheet 29 = .ok (.ireturn, 1) := by decide +kernel
set_option maxRecDepth 20000 in
theorem ggX9_sheet_X9_isSheet : GoodIn wsX9_sheet wsX9_isSheet := goodIn_r _ [7, 8, 9, 10, 11, 6, 12] (by decide +kernel) (by decide +kernel)
set_option maxRecDepth 20000 in
theorem gX9_sheet_X9_isSheet : GoodIn wsX9_sheet (va_wsS RX9 240 yX9_isSheet wsX9_isSheet) := goodIn_app (goodIn_of _ (by decide +kernel)) ggX9_sheet_X9_isSheet
theorem dX9_sheet_0 : decode cX9_sheet 0 = .ok (.iload_n 1, 1) := by decide +kernel
theorem dX9_sheet_1 : decode cX9_sheet 1 = .ok (.iload_n 2, 1) := by decide +kernel
theorem dX9_sheet_2 : decode cX9_sheet 2 = .ok (.invokestatic 240, 3) := by decide +kernel
theorem dX9_sheet_5 : decode cX9_sheet 5 = .ok (.ifCond .eq 9, 3) := by decide +kernel
theorem dX9_sheet_8 : decode cX9_sheet 8 = .ok (.iload_n 3, 1) := by decide +kernel
theorem dX9_sheet_9 : decode cX9_sheet 9 = .ok (.bipush 24, 2) := by decide +kernel
theorem dX9_sheet_11 : decode cX9_sheet 11 = .ok (.if_icmp .le 5, 3) := by decide +kernel
theorem dX9_sheet_14 : decode cX9_sheet 14 = .ok (.iconst (-1), 1) := by decide +kernel
theorem dX9_sheet_15 : decode cX9_sheet 15 = .ok (.ireturn, 1) := by decide +kernel
theorem dX9_sheet_16 : decode cX9_sheet 16 = .ok (.iload_n 3, 1) := by decide +kernel
theorem dX9_sheet_17 : decode cX9_sheet 17 = .ok (.ifCond .ge 6, 3) := by decide +kernel
theorem dX9_sheet_20 : decode cX9_sheet 20 = .ok (.bipush (-14), 2) := by decide +kernel
theorem dX9_sheet_22 : decode cX9_sheet 22 = .ok (.ireturn, 1) := by decide +kernel
theorem dX9_sheet_23 : decode cX9_sheet 23 = .ok (.aload_n 0, 1) := by decide +kernel
theorem dX9_sheet_24 : decode cX9_sheet 24 = .ok (.getfield 68, 3) := by decide +kernel
theorem dX9_sheet_27 : decode cX9_sheet 27 = .ok (.iload_n 1, 1) := by decide +kernel
theorem dX9_sheet_28 : decode cX9_sheet 28 = .ok (.iload_n 2, 1) := by decide +kernel
theorem dX9_sheet_29 : decode cX9_sheet 29 = .ok (.iastore, 1) := by decide +kernel
theorem dX9_sheet_30 : decode cX9_sheet 30 = .ok (.aload_n 0, 1) := by decide +kernel
theorem dX9_sheet_31 : decode cX9_sheet 31 = .ok (.getfield 71, 3) := by decide +kernel
theorem dX9_sheet_34 : decode cX9_sheet 34 = .ok (.iload_n 1, 1) := by decide +kernel
theorem dX9_sheet_35 : decode cX9_sheet 35 = .ok (.iload_n 3, 1) := by decide +kernel
theorem dX9_sheet_36 : decode cX9_sheet 36 = .ok (.iastore, 1) := by decide +kernel
theorem dX9_sheet_37 : decode cX9_sheet 37 = .ok (.iconst 0, 1) := by decide +kernel
theorem dX9_sheet_38 : decode cX9_sheet 38 = .ok (.istore 4, 2) := by decide +kernel
theorem dX9_sheet_40 : decode cX9_sheet 40 = .ok (.iload 4, 2) := by decide +kernel
theorem dX9_sheet_42 : decode cX9_sheet 42 = .ok (.bipush 24, 2) := by decide +kernel
theorem dX9_sheet_44 : decode cX9_sheet 44 = .ok (.if_icmp .ge 22, 3) := by decide +kernel
theorem dX9_sheet_47 : decode cX9_sheet 47 = .ok (.aload_n 0, 1) := by decide +kernel
theorem dX9_sheet_48 : decode cX9_sheet 48 = .ok (.getfield 74, 3) := by decide +kernel
theorem dX9_sheet_51 : decode cX9_sheet 51 = .ok (.bipush 24, 2) := by decide +kernel
theorem dX9_sheet_53 : decode cX9_sheet 53 = .ok (.iload_n 1, 1) := by decide +kernel
theorem dX9_sheet_54 : decode cX9_sheet 54 = .ok (.imul, 1) := by decide +kernel
theorem dX9_sheet_55 : decode cX9_sheet 55 = .ok (.iload 4, 2) := by decide +kernel
theorem dX9_sheet_57 : decode cX9_sheet 57 = .ok (.iadd, 1) := by decide +kernel
theorem dX9_sheet_58 : decode cX9_sheet 58 = .ok (.lconst 0, 1) := by decide +kernel
theorem dX9_sheet_59 : decode cX9_sheet 59 = .ok (.lastore, 1) := by decide +kernel
theorem dX9_sheet_60 : decode cX9_sheet 60 = .ok (.iinc 4 1, 3) := by decide +kernel
theorem dX9_sheet_63 : decode cX9_sheet 63 = .ok (.goto (-23), 3) := by decide +kernel
theorem dX9_sheet_66 : decode cX9_sheet 66 = .ok (.iload_n 3, 1) := by decide +kernel
theorem dX9_sheet_67 : decode cX9_sheet 67 = .ok (.ireturn, 1) := by decide +kernel
set_option maxRecDepth 20000 in
theorem ggX9_drop_X9_in : GoodIn wsX9_drop wsX9_in := goodIn_r _ [7] (by decide +kernel) (by decide +kernel)
set_option maxRecDepth 20000 in
theorem gX9_drop_X9_in : GoodIn wsX9_drop (va_wsS RX9 90 yX9_in wsX9_in) := goodIn_app (goodIn_of _ (by decide +kernel)) ggX9_drop_X9_in
theorem dX9_drop_0 : decode cX9_drop 0 = .ok (.iload_n 1, 1) := by decide +kernel
theorem dX9_drop_1 : decode cX9_drop 1 = .ok (.i2l, 1) := by decide +kernel
theorem dX9_drop_2 : decode cX9_drop 2 = .ok (.lconst 0, 1) := by decide +kernel
theorem dX9_drop_3 : decode cX9_drop 3 = .ok (.ldc2_w 98, 3) := by decide +kernel
theorem dX9_drop_6 : decode cX9_drop 6 = .ok (.invokestatic 90, 3) := by decide +kernel
theorem dX9_drop_9 : decode cX9_drop 9 = .ok (.ifCond .ne 5, 3) := by decide +kernel
theorem dX9_drop_12 : decode cX9_drop 12 = .ok (.iconst (-1), 1) := by decide +kernel
theorem dX9_drop_13 : decode cX9_drop 13 = .ok (.ireturn, 1) := by decide +kernel
theorem dX9_drop_14 : decode cX9_drop 14 = .ok (.aload_n 0, 1) := by decide +kernel
theorem dX9_drop_15 : decode cX9_drop 15 = .ok (.getfield 68, 3) := by decide +kernel
theorem dX9_drop_18 : decode cX9_drop 18 = .ok (.iload_n 1, 1) := by decide +kernel
theorem dX9_drop_19 : decode cX9_drop 19 = .ok (.iaload, 1) := by decide +kernel
theorem dX9_drop_20 : decode cX9_drop 20 = .ok (.ifCond .ge 6, 3) := by decide +kernel
theorem dX9_drop_23 : decode cX9_drop 23 = .ok (.bipush (-11), 2) := by decide +kernel
theorem dX9_drop_25 : decode cX9_drop 25 = .ok (.ireturn, 1) := by decide +kernel
theorem dX9_drop_26 : decode cX9_drop 26 = .ok (.aload_n 0, 1) := by decide +kernel
theorem dX9_drop_27 : decode cX9_drop 27 = .ok (.getfield 68, 3) := by decide +kernel
theorem dX9_drop_30 : decode cX9_drop 30 = .ok (.iload_n 1, 1) := by decide +kernel
theorem dX9_drop_31 : decode cX9_drop 31 = .ok (.iconst (-1), 1) := by decide +kernel
theorem dX9_drop_32 : decode cX9_drop 32 = .ok (.iastore, 1) := by decide +kernel
theorem dX9_drop_33 : decode cX9_drop 33 = .ok (.aload_n 0, 1) := by decide +kernel
theorem dX9_drop_34 : decode cX9_drop 34 = .ok (.getfield 71, 3) := by decide +kernel
theorem dX9_drop_37 : decode cX9_drop 37 = .ok (.iload_n 1, 1) := by decide +kernel
theorem dX9_drop_38 : decode cX9_drop 38 = .ok (.iaload, 1) := by decide +kernel
theorem dX9_drop_39 : decode cX9_drop 39 = .ok (.ireturn, 1) := by decide +kernel
set_option maxRecDepth 20000 in
theorem ggX9_lacksRow_X9_in : GoodIn wsX9_lacksRow wsX9_in := goodIn_r _ [6] (by decide +kernel) (by decide +kernel)
set_option maxRecDepth 20000 in
theorem gX9_lacksRow_X9_in : GoodIn wsX9_lacksRow (va_wsS RX9 90 yX9_in wsX9_in) := goodIn_app (goodIn_of _ (by decide +kernel)) ggX9_lacksRow_X9_in
theorem dX9_lacksRow_0 : decode cX9_lacksRow 0 = .ok (.aload_n 0, 1) := by decide +kernel
theorem dX9_lacksRow_1 : decode cX9_lacksRow 1 = .ok (.getfield 68, 3) := by decide +kernel
theorem dX9_lacksRow_4 : decode cX9_lacksRow 4 = .ok (.iload_n 1, 1) := by decide +kernel
theorem dX9_lacksRow_5 : decode cX9_lacksRow 5 = .ok (.iaload, 1) := by decide +kernel
theorem dX9_lacksRow_6 : decode cX9_lacksRow 6 = .ok (.iload_n 2, 1) := by decide +kernel
theorem dX9_lacksRow_7 : decode cX9_lacksRow 7 = .ok (.if_icmp .eq 20, 3) := by decide +kernel
theorem dX9_lacksRow_10 : decode cX9_lacksRow 10 = .ok (.aload_n 0, 1) := by decide +kernel
theorem dX9_lacksRow_11 : decode cX9_lacksRow 11 = .ok (.getfield 68, 3) := by decide +kernel
theorem dX9_lacksRow_14 : decode cX9_lacksRow 14 = .ok (.iload_n 1, 1) := by decide +kernel
theorem dX9_lacksRow_15 : decode cX9_lacksRow 15 = .ok (.iaload, 1) := by decide +kernel
theorem dX9_lacksRow_16 : decode cX9_lacksRow 16 = .ok (.ifCond .ge 8, 3) := by decide +kernel
theorem dX9_lacksRow_19 : decode cX9_lacksRow 19 = .ok (.bipush (-11), 2) := by decide +kernel
theorem dX9_lacksRow_21 : decode cX9_lacksRow 21 = .ok (.goto 5, 3) := by decide +kernel
theorem dX9_lacksRow_24 : decode cX9_lacksRow 24 = .ok (.bipush (-12), 2) := by decide +kernel
theorem dX9_lacksRow_26 : decode cX9_lacksRow 26 = .ok (.ireturn, 1) := by decide +kernel
theorem dX9_lacksRow_27 : decode cX9_lacksRow 27 = .ok (.iload_n 3, 1) := by decide +kernel
theorem dX9_lacksRow_28 : decode cX9_lacksRow 28 = .ok (.i2l, 1) := by decide +kernel
theorem dX9_lacksRow_29 : decode cX9_lacksRow 29 = .ok (.lconst 0, 1) := by decide +kernel
theorem dX9_lacksRow_30 : decode cX9_lacksRow 30 = .ok (.aload_n 0, 1) := by decide +kernel
theorem dX9_lacksRow_31 : decode cX9_lacksRow 31 = .ok (.getfield 71, 3) := by decide +kernel
theorem dX9_lacksRow_34 : decode cX9_lacksRow 34 = .ok (.iload_n 1, 1) := by decide +kernel
theorem dX9_lacksRow_35 : decode cX9_lacksRow 35 = .ok (.iaload, 1) := by decide +kernel
theorem dX9_lacksRow_36 : decode cX9_lacksRow 36 = .ok (.iload 4, 2) := by decide +kernel
theorem dX9_lacksRow_38 : decode cX9_lacksRow 38 = .ok (.isub, 1) := by decide +kernel
theorem dX9_lacksRow_39 : decode cX9_lacksRow 39 = .ok (.i2l, 1) := by decide +kernel
theorem dX9_lacksRow_40 : decode cX9_lacksRow 40 = .ok (.invokestatic 90, 3) := by decide +kernel
theorem dX9_lacksRow_43 : decode cX9_lacksRow 43 = .ok (.ifCond .eq 7, 3) := by decide +kernel
theorem dX9_lacksRow_46 : decode cX9_lacksRow 46 = .ok (.iconst 0, 1) := by decide +kernel
theorem dX9_lacksRow_47 : decode cX9_lacksRow 47 = .ok (.goto 5, 3) := by decide +kernel
theorem dX9_lacksRow_50 : decode cX9_lacksRow 50 = .ok (.bipush (-13), 2) := by decide +kernel
theorem dX9_lacksRow_52 : decode cX9_lacksRow 52 = .ok (.ireturn, 1) := by decide +kernel
set_option maxRecDepth 20000 in
theorem ggX9_item_X9_isSheet : GoodIn wsX9_item wsX9_isSheet := goodIn_r _ [5, 6, 7, 8, 9, 4, 10] (by decide +kernel) (by decide +kernel)
set_option maxRecDepth 20000 in
theorem gX9_item_X9_isSheet : GoodIn wsX9_item (va_wsS RX9 240 yX9_isSheet wsX9_isSheet) := goodIn_app (goodIn_of _ (by decide +kernel)) ggX9_item_X9_isSheet
set_option maxRecDepth 20000 in
theorem ggX9_item_X9_lacksRow : GoodIn wsX9_item wsX9_lacksRow := goodIn_r _ [14, 15, 16, 8, 9, 4, 10, 20, 21, 22, 23, 24, 25, 26, 27, 28, 29, 30, 31, 32, 33, 34, 35, 36, 37, 38, 39, 40, 41, 42, 43, 44, 45, 46, 47, 48, 49, 50] (by decide +kernel) (by decide +kernel)
set_option maxRecDepth 20000 in
theorem gX9_item_X9_lacksRow : GoodIn wsX9_item (wsV RX9 243 RX9 yX9_lacksRow wsX9_lacksRow) := goodIn_app (goodIn_of _ (by decide +kernel)) ggX9_item_X9_lacksRow
theorem dX9_item_0 : decode cX9_item 0 = .ok (.iload_n 1, 1) := by decide +kernel
theorem dX9_item_1 : decode cX9_item 1 = .ok (.iload_n 2, 1) := by decide +kernel
theorem dX9_item_2 : decode cX9_item 2 = .ok (.invokestatic 240, 3) := by decide +kernel
theorem dX9_item_5 : decode cX9_item 5 = .ok (.ifCond .ne 5, 3) := by decide +kernel
theorem dX9_item_8 : decode cX9_item 8 = .ok (.iconst (-1), 1) := by decide +kernel
theorem dX9_item_9 : decode cX9_item 9 = .ok (.ireturn, 1) := by decide +kernel
theorem dX9_item_10 : decode cX9_item 10 = .ok (.aload_n 0, 1) := by decide +kernel
theorem dX9_item_11 : decode cX9_item 11 = .ok (.iload_n 1, 1) := by decide +kernel
theorem dX9_item_12 : decode cX9_item 12 = .ok (.iload_n 2, 1) := by decide +kernel
theorem dX9_item_13 : decode cX9_item 13 = .ok (.iload_n 3, 1) := by decide +kernel
theorem dX9_item_14 : decode cX9_item 14 = .ok (.iconst 1, 1) := by decide +kernel
theorem dX9_item_15 : decode cX9_item 15 = .ok (.invokevirtual 243, 3) := by decide +kernel
theorem dX9_item_18 : decode cX9_item 18 = .ok (.istore 6, 2) := by decide +kernel
theorem dX9_item_20 : decode cX9_item 20 = .ok (.iload 6, 2) := by decide +kernel
theorem dX9_item_22 : decode cX9_item 22 = .ok (.ifCond .ge 6, 3) := by decide +kernel
theorem dX9_item_25 : decode cX9_item 25 = .ok (.iload 6, 2) := by decide +kernel
theorem dX9_item_27 : decode cX9_item 27 = .ok (.ireturn, 1) := by decide +kernel
theorem dX9_item_28 : decode cX9_item 28 = .ok (.aload_n 0, 1) := by decide +kernel
theorem dX9_item_29 : decode cX9_item 29 = .ok (.getfield 74, 3) := by decide +kernel
theorem dX9_item_32 : decode cX9_item 32 = .ok (.bipush 24, 2) := by decide +kernel
theorem dX9_item_34 : decode cX9_item 34 = .ok (.iload_n 1, 1) := by decide +kernel
theorem dX9_item_35 : decode cX9_item 35 = .ok (.imul, 1) := by decide +kernel
theorem dX9_item_36 : decode cX9_item 36 = .ok (.iload_n 3, 1) := by decide +kernel
theorem dX9_item_37 : decode cX9_item 37 = .ok (.iadd, 1) := by decide +kernel
theorem dX9_item_38 : decode cX9_item 38 = .ok (.iload_n 2, 1) := by decide +kernel
theorem dX9_item_39 : decode cX9_item 39 = .ok (.lload 4, 2) := by decide +kernel
theorem dX9_item_41 : decode cX9_item 41 = .ok (.invokestatic 247, 3) := by decide +kernel
theorem dX9_item_44 : decode cX9_item 44 = .ok (.lastore, 1) := by decide +kernel
theorem dX9_item_45 : decode cX9_item 45 = .ok (.iconst 1, 1) := by decide +kernel
theorem dX9_item_46 : decode cX9_item 46 = .ok (.ireturn, 1) := by decide +kernel
set_option maxRecDepth 20000 in
theorem ggX9_film_X9_isSheet : GoodIn wsX9_film wsX9_isSheet := goodIn_r _ [7, 8, 9, 10, 11, 6, 12] (by decide +kernel) (by decide +kernel)
set_option maxRecDepth 20000 in
theorem gX9_film_X9_isSheet : GoodIn wsX9_film (va_wsS RX9 240 yX9_isSheet wsX9_isSheet) := goodIn_app (goodIn_of _ (by decide +kernel)) ggX9_film_X9_isSheet
set_option maxRecDepth 20000 in
theorem ggX9_film_X9_lacksRow : GoodIn wsX9_film wsX9_lacksRow := goodIn_r _ [16, 17, 18, 10, 11, 6, 12, 22, 23, 24, 25, 26, 27, 28, 29, 30, 31, 32, 33, 34, 35, 36, 37, 38, 39, 40, 41, 42, 43, 44, 45, 46, 47, 48, 49, 50, 51, 52] (by decide +kernel) (by decide +kernel)
set_option maxRecDepth 20000 in
theorem gX9_film_X9_lacksRow : GoodIn wsX9_film (wsV RX9 243 RX9 yX9_lacksRow wsX9_lacksRow) := goodIn_app (goodIn_of _ (by decide +kernel)) ggX9_film_X9_lacksRow
theorem dX9_film_0 : decode cX9_film 0 = .ok (.iload_n 1, 1) := by decide +kernel
theorem dX9_film_1 : decode cX9_film 1 = .ok (.iload_n 2, 1) := by decide +kernel
theorem dX9_film_2 : decode cX9_film 2 = .ok (.invokestatic 240, 3) := by decide +kernel
theorem dX9_film_5 : decode cX9_film 5 = .ok (.ifCond .ne 5, 3) := by decide +kernel
theorem dX9_film_8 : decode cX9_film 8 = .ok (.iconst (-1), 1) := by decide +kernel
theorem dX9_film_9 : decode cX9_film 9 = .ok (.ireturn, 1) := by decide +kernel
theorem dX9_film_10 : decode cX9_film 10 = .ok (.aload_n 0, 1) := by decide +kernel
theorem dX9_film_11 : decode cX9_film 11 = .ok (.iload_n 1, 1) := by decide +kernel
theorem dX9_film_12 : decode cX9_film 12 = .ok (.iload_n 2, 1) := by decide +kernel
theorem dX9_film_13 : decode cX9_film 13 = .ok (.iload_n 3, 1) := by decide +kernel
theorem dX9_film_14 : decode cX9_film 14 = .ok (.aload_n 0, 1) := by decide +kernel
theorem dX9_film_15 : decode cX9_film 15 = .ok (.getfield 86, 3) := by decide +kernel
theorem dX9_film_18 : decode cX9_film 18 = .ok (.invokevirtual 243, 3) := by decide +kernel
theorem dX9_film_21 : decode cX9_film 21 = .ok (.istore 4, 2) := by decide +kernel
theorem dX9_film_23 : decode cX9_film 23 = .ok (.iload 4, 2) := by decide +kernel
theorem dX9_film_25 : decode cX9_film 25 = .ok (.ifCond .ge 6, 3) := by decide +kernel
theorem dX9_film_28 : decode cX9_film 28 = .ok (.iload 4, 2) := by decide +kernel
theorem dX9_film_30 : decode cX9_film 30 = .ok (.ireturn, 1) := by decide +kernel
theorem dX9_film_31 : decode cX9_film 31 = .ok (.iconst 0, 1) := by decide +kernel
theorem dX9_film_32 : decode cX9_film 32 = .ok (.istore 5, 2) := by decide +kernel
theorem dX9_film_34 : decode cX9_film 34 = .ok (.iload 5, 2) := by decide +kernel
theorem dX9_film_36 : decode cX9_film 36 = .ok (.aload_n 0, 1) := by decide +kernel
theorem dX9_film_37 : decode cX9_film 37 = .ok (.getfield 86, 3) := by decide +kernel
theorem dX9_film_40 : decode cX9_film 40 = .ok (.if_icmp .ge 35, 3) := by decide +kernel
theorem dX9_film_43 : decode cX9_film 43 = .ok (.aload_n 0, 1) := by decide +kernel
theorem dX9_film_44 : decode cX9_film 44 = .ok (.getfield 74, 3) := by decide +kernel
theorem dX9_film_47 : decode cX9_film 47 = .ok (.bipush 24, 2) := by decide +kernel
theorem dX9_film_49 : decode cX9_film 49 = .ok (.iload_n 1, 1) := by decide +kernel
theorem dX9_film_50 : decode cX9_film 50 = .ok (.imul, 1) := by decide +kernel
theorem dX9_film_51 : decode cX9_film 51 = .ok (.iload_n 3, 1) := by decide +kernel
theorem dX9_film_52 : decode cX9_film 52 = .ok (.iadd, 1) := by decide +kernel
theorem dX9_film_53 : decode cX9_film 53 = .ok (.iload 5, 2) := by decide +kernel
theorem dX9_film_55 : decode cX9_film 55 = .ok (.iadd, 1) := by decide +kernel
theorem dX9_film_56 : decode cX9_film 56 = .ok (.iload_n 2, 1) := by decide +kernel
theorem dX9_film_57 : decode cX9_film 57 = .ok (.aload_n 0, 1) := by decide +kernel
theorem dX9_film_58 : decode cX9_film 58 = .ok (.getfield 13, 3) := by decide +kernel
theorem dX9_film_61 : decode cX9_film 61 = .ok (.iload 5, 2) := by decide +kernel
theorem dX9_film_63 : decode cX9_film 63 = .ok (.iaload, 1) := by decide +kernel
theorem dX9_film_64 : decode cX9_film 64 = .ok (.i2l, 1) := by decide +kernel
theorem dX9_film_65 : decode cX9_film 65 = .ok (.invokestatic 247, 3) := by decide +kernel
theorem dX9_film_68 : decode cX9_film 68 = .ok (.lastore, 1) := by decide +kernel
theorem dX9_film_69 : decode cX9_film 69 = .ok (.iinc 5 1, 3) := by decide +kernel
theorem dX9_film_72 : decode cX9_film 72 = .ok (.goto (-38), 3) := by decide +kernel
theorem dX9_film_75 : decode cX9_film 75 = .ok (.aload_n 0, 1) := by decide +kernel
theorem dX9_film_76 : decode cX9_film 76 = .ok (.getfield 86, 3) := by decide +kernel
theorem dX9_film_79 : decode cX9_film 79 = .ok (.ireturn, 1) := by decide +kernel
set_option maxRecDepth 20000 in
theorem ggX9_copy_X9_in : GoodIn wsX9_copy wsX9_in := goodIn_r _ [9] (by decide +kernel) (by decide +kernel)
set_option maxRecDepth 20000 in
theorem gX9_copy_X9_in : GoodIn wsX9_copy (va_wsS RX9 90 yX9_in wsX9_in) := goodIn_app (goodIn_of _ (by decide +kernel)) ggX9_copy_X9_in
theorem dX9_copy_0 : decode cX9_copy 0 = .ok (.iload_n 1, 1) := by decide +kernel
theorem dX9_copy_1 : decode cX9_copy 1 = .ok (.i2l, 1) := by decide +kernel
theorem dX9_copy_2 : decode cX9_copy 2 = .ok (.lconst 0, 1) := by decide +kernel
theorem dX9_copy_3 : decode cX9_copy 3 = .ok (.ldc2_w 98, 3) := by decide +kernel
theorem dX9_copy_6 : decode cX9_copy 6 = .ok (.invokestatic 90, 3) := by decide +kernel
theorem dX9_copy_9 : decode cX9_copy 9 = .ok (.ifCond .eq 15, 3) := by decide +kernel
theorem dX9_copy_12 : decode cX9_copy 12 = .ok (.iload_n 3, 1) := by decide +kernel
theorem dX9_copy_13 : decode cX9_copy 13 = .ok (.i2l, 1) := by decide +kernel
theorem dX9_copy_14 : decode cX9_copy 14 = .ok (.lconst 0, 1) := by decide +kernel
theorem dX9_copy_15 : decode cX9_copy 15 = .ok (.ldc2_w 98, 3) := by decide +kernel
theorem dX9_copy_18 : decode cX9_copy 18 = .ok (.invokestatic 90, 3) := by decide +kernel
theorem dX9_copy_21 : decode cX9_copy 21 = .ok (.ifCond .ne 5, 3) := by decide +kernel
theorem dX9_copy_24 : decode cX9_copy 24 = .ok (.iconst (-1), 1) := by decide +kernel
theorem dX9_copy_25 : decode cX9_copy 25 = .ok (.ireturn, 1) := by decide +kernel
theorem dX9_copy_26 : decode cX9_copy 26 = .ok (.aload_n 0, 1) := by decide +kernel
theorem dX9_copy_27 : decode cX9_copy 27 = .ok (.getfield 68, 3) := by decide +kernel
theorem dX9_copy_30 : decode cX9_copy 30 = .ok (.iload_n 1, 1) := by decide +kernel
theorem dX9_copy_31 : decode cX9_copy 31 = .ok (.iaload, 1) := by decide +kernel
theorem dX9_copy_32 : decode cX9_copy 32 = .ok (.ifCond .lt 12, 3) := by decide +kernel
theorem dX9_copy_35 : decode cX9_copy 35 = .ok (.aload_n 0, 1) := by decide +kernel
theorem dX9_copy_36 : decode cX9_copy 36 = .ok (.getfield 68, 3) := by decide +kernel
theorem dX9_copy_39 : decode cX9_copy 39 = .ok (.iload_n 3, 1) := by decide +kernel
theorem dX9_copy_40 : decode cX9_copy 40 = .ok (.iaload, 1) := by decide +kernel
theorem dX9_copy_41 : decode cX9_copy 41 = .ok (.ifCond .ge 6, 3) := by decide +kernel
theorem dX9_copy_44 : decode cX9_copy 44 = .ok (.bipush (-11), 2) := by decide +kernel
theorem dX9_copy_46 : decode cX9_copy 46 = .ok (.ireturn, 1) := by decide +kernel
theorem dX9_copy_47 : decode cX9_copy 47 = .ok (.aload_n 0, 1) := by decide +kernel
theorem dX9_copy_48 : decode cX9_copy 48 = .ok (.getfield 68, 3) := by decide +kernel
theorem dX9_copy_51 : decode cX9_copy 51 = .ok (.iload_n 1, 1) := by decide +kernel
theorem dX9_copy_52 : decode cX9_copy 52 = .ok (.iaload, 1) := by decide +kernel
theorem dX9_copy_53 : decode cX9_copy 53 = .ok (.aload_n 0, 1) := by decide +kernel
theorem dX9_copy_54 : decode cX9_copy 54 = .ok (.getfield 68, 3) := by decide +kernel
theorem dX9_copy_57 : decode cX9_copy 57 = .ok (.iload_n 3, 1) := by decide +kernel
theorem dX9_copy_58 : decode cX9_copy 58 = .ok (.iaload, 1) := by decide +kernel
theorem dX9_copy_59 : decode cX9_copy 59 = .ok (.if_icmp .eq 6, 3) := by decide +kernel
theorem dX9_copy_62 : decode cX9_copy 62 = .ok (.bipush (-12), 2) := by decide +kernel
theorem dX9_copy_64 : decode cX9_copy 64 = .ok (.ireturn, 1) := by decide +kernel
theorem dX9_copy_65 : decode cX9_copy 65 = .ok (.iload 5, 2) := by decide +kernel
theorem dX9_copy_67 : decode cX9_copy 67 = .ok (.ifCond .lt 44, 3) := by decide +kernel
theorem dX9_copy_70 : decode cX9_copy 70 = .ok (.iload_n 2, 1) := by decide +kernel
theorem dX9_copy_71 : decode cX9_copy 71 = .ok (.i2l, 1) := by decide +kernel
theorem dX9_copy_72 : decode cX9_copy 72 = .ok (.lconst 0, 1) := by decide +kernel
theorem dX9_copy_73 : decode cX9_copy 73 = .ok (.aload_n 0, 1) := by decide +kernel
theorem dX9_copy_74 : decode cX9_copy 74 = .ok (.getfield 71, 3) := by decide +kernel
theorem dX9_copy_77 : decode cX9_copy 77 = .ok (.iload_n 1, 1) := by decide +kernel
theorem dX9_copy_78 : decode cX9_copy 78 = .ok (.iaload, 1) := by decide +kernel
theorem dX9_copy_79 : decode cX9_copy 79 = .ok (.i2l, 1) := by decide +kernel
theorem dX9_copy_80 : decode cX9_copy 80 = .ok (.iload 5, 2) := by decide +kernel
theorem dX9_copy_82 : decode cX9_copy 82 = .ok (.i2l, 1) := by decide +kernel
theorem dX9_copy_83 : decode cX9_copy 83 = .ok (.lsub, 1) := by decide +kernel
theorem dX9_copy_84 : decode cX9_copy 84 = .ok (.invokestatic 90, 3) := by decide +kernel
theorem dX9_copy_87 : decode cX9_copy 87 = .ok (.ifCond .eq 24, 3) := by decide +kernel
theorem dX9_copy_90 : decode cX9_copy 90 = .ok (.iload 4, 2) := by decide +kernel
theorem dX9_copy_92 : decode cX9_copy 92 = .ok (.i2l, 1) := by decide +kernel
theorem dX9_copy_93 : decode cX9_copy 93 = .ok (.lconst 0, 1) := by decide +kernel
theorem dX9_copy_94 : decode cX9_copy 94 = .ok (.aload_n 0, 1) := by decide +kernel
theorem dX9_copy_95 : decode cX9_copy 95 = .ok (.getfield 71, 3) := by decide +kernel
theorem dX9_copy_98 : decode cX9_copy 98 = .ok (.iload_n 3, 1) := by decide +kernel
theorem dX9_copy_99 : decode cX9_copy 99 = .ok (.iaload, 1) := by decide +kernel
theorem dX9_copy_100 : decode cX9_copy 100 = .ok (.i2l, 1) := by decide +kernel
theorem dX9_copy_101 : decode cX9_copy 101 = .ok (.iload 5, 2) := by decide +kernel
theorem dX9_copy_103 : decode cX9_copy 103 = .ok (.i2l, 1) := by decide +kernel
theorem dX9_copy_104 : decode cX9_copy 104 = .ok (.lsub, 1) := by decide +kernel
theorem dX9_copy_105 : decode cX9_copy 105 = .ok (.invokestatic 90, 3) := by decide +kernel
theorem dX9_copy_108 : decode cX9_copy 108 = .ok (.ifCond .ne 6, 3) := by decide +kernel
theorem dX9_copy_111 : decode cX9_copy 111 = .ok (.bipush (-13), 2) := by decide +kernel
theorem dX9_copy_113 : decode cX9_copy 113 = .ok (.ireturn, 1) := by decide +kernel
theorem dX9_copy_114 : decode cX9_copy 114 = .ok (.iconst 0, 1) := by decide +kernel
theorem dX9_copy_115 : decode cX9_copy 115 = .ok (.istore 6, 2) := by decide +kernel
theorem dX9_copy_117 : decode cX9_copy 117 = .ok (.iload 6, 2) := by decide +kernel
theorem dX9_copy_119 : decode cX9_copy 119 = .ok (.iload 5, 2) := by decide +kernel
theorem dX9_copy_121 : decode cX9_copy 121 = .ok (.if_icmp .ge 30, 3) := by decide +kernel
theorem dX9_copy_124 : decode cX9_copy 124 = .ok (.aload_n 0, 1) := by decide +kernel
theorem dX9_copy_125 : decode cX9_copy 125 = .ok (.getfield 77, 3) := by decide +kernel
theorem dX9_copy_128 : decode cX9_copy 128 = .ok (.iload 6, 2) := by decide +kernel
theorem dX9_copy_130 : decode cX9_copy 130 = .ok (.aload_n 0, 1) := by decide +kernel
theorem dX9_copy_131 : decode cX9_copy 131 = .ok (.getfield 74, 3) := by decide +kernel
theorem dX9_copy_134 : decode cX9_copy 134 = .ok (.bipush 24, 2) := by decide +kernel
theorem dX9_copy_136 : decode cX9_copy 136 = .ok (.iload_n 1, 1) := by decide +kernel
theorem dX9_copy_137 : decode cX9_copy 137 = .ok (.imul, 1) := by decide +kernel
theorem dX9_copy_138 : decode cX9_copy 138 = .ok (.iload_n 2, 1) := by decide +kernel
theorem dX9_copy_139 : decode cX9_copy 139 = .ok (.iadd, 1) := by decide +kernel
theorem dX9_copy_140 : decode cX9_copy 140 = .ok (.iload 6, 2) := by decide +kernel
theorem dX9_copy_142 : decode cX9_copy 142 = .ok (.iadd, 1) := by decide +kernel
theorem dX9_copy_143 : decode cX9_copy 143 = .ok (.laload, 1) := by decide +kernel
theorem dX9_copy_144 : decode cX9_copy 144 = .ok (.lastore, 1) := by decide +kernel
theorem dX9_copy_145 : decode cX9_copy 145 = .ok (.iinc 6 1, 3) := by decide +kernel
theorem dX9_copy_148 : decode cX9_copy 148 = .ok (.goto (-31), 3) := by decide +kernel
theorem dX9_copy_151 : decode cX9_copy 151 = .ok (.iconst 0, 1) := by decide +kernel
theorem dX9_copy_152 : decode cX9_copy 152 = .ok (.istore 6, 2) := by decide +kernel
theorem dX9_copy_154 : decode cX9_copy 154 = .ok (.iload 6, 2) := by decide +kernel
theorem dX9_copy_156 : decode cX9_copy 156 = .ok (.iload 5, 2) := by decide +kernel
theorem dX9_copy_158 : decode cX9_copy 158 = .ok (.if_icmp .ge 31, 3) := by decide +kernel
theorem dX9_copy_161 : decode cX9_copy 161 = .ok (.aload_n 0, 1) := by decide +kernel
theorem dX9_copy_162 : decode cX9_copy 162 = .ok (.getfield 74, 3) := by decide +kernel
theorem dX9_copy_165 : decode cX9_copy 165 = .ok (.bipush 24, 2) := by decide +kernel
theorem dX9_copy_167 : decode cX9_copy 167 = .ok (.iload_n 3, 1) := by decide +kernel
theorem dX9_copy_168 : decode cX9_copy 168 = .ok (.imul, 1) := by decide +kernel
theorem dX9_copy_169 : decode cX9_copy 169 = .ok (.iload 4, 2) := by decide +kernel
theorem dX9_copy_171 : decode cX9_copy 171 = .ok (.iadd, 1) := by decide +kernel
theorem dX9_copy_172 : decode cX9_copy 172 = .ok (.iload 6, 2) := by decide +kernel
theorem dX9_copy_174 : decode cX9_copy 174 = .ok (.iadd, 1) := by decide +kernel
theorem dX9_copy_175 : decode cX9_copy 175 = .ok (.aload_n 0, 1) := by decide +kernel
theorem dX9_copy_176 : decode cX9_copy 176 = .ok (.getfield 77, 3) := by decide +kernel
theorem dX9_copy_179 : decode cX9_copy 179 = .ok (.iload 6, 2) := by decide +kernel
theorem dX9_copy_181 : decode cX9_copy 181 = .ok (.laload, 1) := by decide +kernel
theorem dX9_copy_182 : decode cX9_copy 182 = .ok (.lastore, 1) := by decide +kernel
theorem dX9_copy_183 : decode cX9_copy 183 = .ok (.iinc 6 1, 3) := by decide +kernel
theorem dX9_copy_186 : decode cX9_copy 186 = .ok (.goto (-32), 3) := by decide +kernel
theorem dX9_copy_189 : decode cX9_copy 189 = .ok (.iload 5, 2) := by decide +kernel
theorem dX9_copy_191 : decode cX9_copy 191 = .ok (.ireturn, 1) := by decide +kernel
set_option maxRecDepth 20000 in
theorem ggX9_who_X9_isSheet : GoodIn wsX9_who wsX9_isSheet := goodIn_r _ [11, 1, 12, 13, 14, 10, 15] (by decide +kernel) (by decide +kernel)
set_option maxRecDepth 20000 in
theorem gX9_who_X9_isSheet : GoodIn wsX9_who (va_wsS RX9 240 yX9_isSheet wsX9_isSheet) := goodIn_app (goodIn_of _ (by decide +kernel)) ggX9_who_X9_isSheet
set_option maxRecDepth 20000 in
theorem ggX9_who_X9_in : GoodIn wsX9_who wsX9_in := goodIn_r _ [15] (by decide +kernel) (by decide +kernel)
set_option maxRecDepth 20000 in
theorem gX9_who_X9_in : GoodIn wsX9_who (va_wsS RX9 90 yX9_in wsX9_in) := goodIn_app (goodIn_of _ (by decide +kernel)) ggX9_who_X9_in
set_option maxRecDepth 20000 in
theorem ggX9_who_X9_lacksRow : GoodIn wsX9_who wsX9_lacksRow := goodIn_r _ [19, 20, 21, 13, 14, 10, 15, 57, 58, 59, 60, 61, 62, 63, 64, 65, 66, 67, 68, 69, 70, 71, 72, 73, 74, 75, 76, 77, 78, 79, 80, 81, 82, 83, 84, 85, 86, 87] (by decide +kernel) (by decide +kernel)
set_option maxRecDepth 20000 in
theorem gX9_who_X9_lacksRow : GoodIn wsX9_who (wsV RX9 243 RX9 yX9_lacksRow wsX9_lacksRow) := goodIn_app (goodIn_of _ (by decide +kernel)) ggX9_who_X9_lacksRow
theorem dX9_who_0 : decode cX9_who 0 = .ok (.iload_n 1, 1) := by decide +kernel
theorem dX9_who_1 : decode cX9_who 1 = .ok (.iload_n 2, 1) := by decide +kernel
theorem dX9_who_2 : decode cX9_who 2 = .ok (.invokestatic 240, 3) := by decide +kernel
theorem dX9_who_5 : decode cX9_who 5 = .ok (.ifCond .eq 33, 3) := by decide +kernel
theorem dX9_who_8 : decode cX9_who 8 = .ok (.iload 4, 2) := by decide +kernel
theorem dX9_who_10 : decode cX9_who 10 = .ok (.i2l, 1) := by decide +kernel
theorem dX9_who_11 : decode cX9_who 11 = .ok (.lconst 1, 1) := by decide +kernel
theorem dX9_who_12 : decode cX9_who 12 = .ok (.ldc2_w 98, 3) := by decide +kernel
theorem dX9_who_15 : decode cX9_who 15 = .ok (.invokestatic 90, 3) := by decide +kernel
theorem dX9_who_18 : decode cX9_who 18 = .ok (.ifCond .eq 20, 3) := by decide +kernel
theorem dX9_who_21 : decode cX9_who 21 = .ok (.iload 5, 2) := by decide +kernel
theorem dX9_who_23 : decode cX9_who 23 = .ok (.i2l, 1) := by decide +kernel
theorem dX9_who_24 : decode cX9_who 24 = .ok (.ldc2_w 208, 3) := by decide +kernel
theorem dX9_who_27 : decode cX9_who 27 = .ok (.iload 4, 2) := by decide +kernel
theorem dX9_who_29 : decode cX9_who 29 = .ok (.iconst 1, 1) := by decide +kernel
theorem dX9_who_30 : decode cX9_who 30 = .ok (.isub, 1) := by decide +kernel
theorem dX9_who_31 : decode cX9_who 31 = .ok (.i2l, 1) := by decide +kernel
theorem dX9_who_32 : decode cX9_who 32 = .ok (.invokestatic 90, 3) := by decide +kernel
theorem dX9_who_35 : decode cX9_who 35 = .ok (.ifCond .ne 5, 3) := by decide +kernel
theorem dX9_who_38 : decode cX9_who 38 = .ok (.iconst (-1), 1) := by decide +kernel
theorem dX9_who_39 : decode cX9_who 39 = .ok (.ireturn, 1) := by decide +kernel
theorem dX9_who_40 : decode cX9_who 40 = .ok (.aload_n 0, 1) := by decide +kernel
theorem dX9_who_41 : decode cX9_who 41 = .ok (.iload_n 1, 1) := by decide +kernel
theorem dX9_who_42 : decode cX9_who 42 = .ok (.iload_n 2, 1) := by decide +kernel
theorem dX9_who_43 : decode cX9_who 43 = .ok (.iload_n 3, 1) := by decide +kernel
theorem dX9_who_44 : decode cX9_who 44 = .ok (.iconst 2, 1) := by decide +kernel
theorem dX9_who_45 : decode cX9_who 45 = .ok (.aload_n 0, 1) := by decide +kernel
theorem dX9_who_46 : decode cX9_who 46 = .ok (.getfield 86, 3) := by decide +kernel
theorem dX9_who_49 : decode cX9_who 49 = .ok (.imul, 1) := by decide +kernel
theorem dX9_who_50 : decode cX9_who 50 = .ok (.invokevirtual 243, 3) := by decide +kernel
theorem dX9_who_53 : decode cX9_who 53 = .ok (.istore 6, 2) := by decide +kernel
theorem dX9_who_55 : decode cX9_who 55 = .ok (.iload 6, 2) := by decide +kernel
theorem dX9_who_57 : decode cX9_who 57 = .ok (.ifCond .ge 6, 3) := by decide +kernel
theorem dX9_who_60 : decode cX9_who 60 = .ok (.iload 6, 2) := by decide +kernel
theorem dX9_who_62 : decode cX9_who 62 = .ok (.ireturn, 1) := by decide +kernel
theorem dX9_who_63 : decode cX9_who 63 = .ok (.bipush 24, 2) := by decide +kernel
theorem dX9_who_65 : decode cX9_who 65 = .ok (.iload_n 1, 1) := by decide +kernel
theorem dX9_who_66 : decode cX9_who 66 = .ok (.imul, 1) := by decide +kernel
theorem dX9_who_67 : decode cX9_who 67 = .ok (.iload_n 3, 1) := by decide +kernel
theorem dX9_who_68 : decode cX9_who 68 = .ok (.iadd, 1) := by decide +kernel
theorem dX9_who_69 : decode cX9_who 69 = .ok (.istore 7, 2) := by decide +kernel
theorem dX9_who_71 : decode cX9_who 71 = .ok (.iconst 0, 1) := by decide +kernel
theorem dX9_who_72 : decode cX9_who 72 = .ok (.istore 8, 2) := by decide +kernel
theorem dX9_who_74 : decode cX9_who 74 = .ok (.iload 8, 2) := by decide +kernel
theorem dX9_who_76 : decode cX9_who 76 = .ok (.iconst 2, 1) := by decide +kernel
theorem dX9_who_77 : decode cX9_who 77 = .ok (.aload_n 0, 1) := by decide +kernel
theorem dX9_who_78 : decode cX9_who 78 = .ok (.getfield 86, 3) := by decide +kernel
theorem dX9_who_81 : decode cX9_who 81 = .ok (.imul, 1) := by decide +kernel
theorem dX9_who_82 : decode cX9_who 82 = .ok (.if_icmp .ge 32, 3) := by decide +kernel
theorem dX9_who_85 : decode cX9_who 85 = .ok (.aload_n 0, 1) := by decide +kernel
theorem dX9_who_86 : decode cX9_who 86 = .ok (.getfield 74, 3) := by decide +kernel
theorem dX9_who_89 : decode cX9_who 89 = .ok (.iload 7, 2) := by decide +kernel
theorem dX9_who_91 : decode cX9_who 91 = .ok (.iload 8, 2) := by decide +kernel
theorem dX9_who_93 : decode cX9_who 93 = .ok (.iadd, 1) := by decide +kernel
theorem dX9_who_94 : decode cX9_who 94 = .ok (.laload, 1) := by decide +kernel
theorem dX9_who_95 : decode cX9_who 95 = .ok (.lconst 0, 1) := by decide +kernel
theorem dX9_who_96 : decode cX9_who 96 = .ok (.ldc2_w 225, 3) := by decide +kernel
theorem dX9_who_99 : decode cX9_who 99 = .ok (.invokestatic 90, 3) := by decide +kernel
theorem dX9_who_102 : decode cX9_who 102 = .ok (.ifCond .ne 6, 3) := by decide +kernel
theorem dX9_who_105 : decode cX9_who 105 = .ok (.bipush (-2), 2) := by decide +kernel
theorem dX9_who_107 : decode cX9_who 107 = .ok (.ireturn, 1) := by decide +kernel
theorem dX9_who_108 : decode cX9_who 108 = .ok (.iinc 8 1, 3) := by decide +kernel
theorem dX9_who_111 : decode cX9_who 111 = .ok (.goto (-37), 3) := by decide +kernel
theorem dX9_who_114 : decode cX9_who 114 = .ok (.iconst 0, 1) := by decide +kernel
theorem dX9_who_115 : decode cX9_who 115 = .ok (.istore 8, 2) := by decide +kernel
theorem dX9_who_117 : decode cX9_who 117 = .ok (.iload 8, 2) := by decide +kernel
theorem dX9_who_119 : decode cX9_who 119 = .ok (.iconst 3, 1) := by decide +kernel
theorem dX9_who_120 : decode cX9_who 120 = .ok (.if_icmp .ge 17, 3) := by decide +kernel
theorem dX9_who_123 : decode cX9_who 123 = .ok (.aload_n 0, 1) := by decide +kernel
theorem dX9_who_124 : decode cX9_who 124 = .ok (.getfield 80, 3) := by decide +kernel
theorem dX9_who_127 : decode cX9_who 127 = .ok (.iload 8, 2) := by decide +kernel
theorem dX9_who_129 : decode cX9_who 129 = .ok (.iconst 0, 1) := by decide +kernel
theorem dX9_who_130 : decode cX9_who 130 = .ok (.iastore, 1) := by decide +kernel
theorem dX9_who_131 : decode cX9_who 131 = .ok (.iinc 8 1, 3) := by decide +kernel
theorem dX9_who_134 : decode cX9_who 134 = .ok (.goto (-17), 3) := by decide +kernel
theorem dX9_who_137 : decode cX9_who 137 = .ok (.iconst 0, 1) := by decide +kernel
theorem dX9_who_138 : decode cX9_who 138 = .ok (.istore 8, 2) := by decide +kernel
theorem dX9_who_140 : decode cX9_who 140 = .ok (.iconst 1, 1) := by decide +kernel
theorem dX9_who_141 : decode cX9_who 141 = .ok (.istore 9, 2) := by decide +kernel
theorem dX9_who_143 : decode cX9_who 143 = .ok (.iload 9, 2) := by decide +kernel
theorem dX9_who_145 : decode cX9_who 145 = .ok (.ifCond .eq 63, 3) := by decide +kernel
theorem dX9_who_148 : decode cX9_who 148 = .ok (.aload_n 0, 1) := by decide +kernel
theorem dX9_who_149 : decode cX9_who 149 = .ok (.iload 7, 2) := by decide +kernel
theorem dX9_who_151 : decode cX9_who 151 = .ok (.iload 4, 2) := by decide +kernel
theorem dX9_who_153 : decode cX9_who 153 = .ok (.invokevirtual 251, 3) := by decide +kernel
theorem dX9_who_156 : decode cX9_who 156 = .ok (.ifCond .eq 41, 3) := by decide +kernel
theorem dX9_who_159 : decode cX9_who 159 = .ok (.iconst 0, 1) := by decide +kernel
theorem dX9_who_160 : decode cX9_who 160 = .ok (.istore 10, 2) := by decide +kernel
theorem dX9_who_162 : decode cX9_who 162 = .ok (.iload 10, 2) := by decide +kernel
theorem dX9_who_164 : decode cX9_who 164 = .ok (.iload 4, 2) := by decide +kernel
theorem dX9_who_166 : decode cX9_who 166 = .ok (.if_icmp .ge 28, 3) := by decide +kernel
theorem dX9_who_169 : decode cX9_who 169 = .ok (.iload 8, 2) := by decide +kernel
theorem dX9_who_171 : decode cX9_who 171 = .ok (.ifCond .ne 23, 3) := by decide +kernel
theorem dX9_who_174 : decode cX9_who 174 = .ok (.aload_n 0, 1) := by decide +kernel
theorem dX9_who_175 : decode cX9_who 175 = .ok (.getfield 83, 3) := by decide +kernel
theorem dX9_who_178 : decode cX9_who 178 = .ok (.iload 10, 2) := by decide +kernel
theorem dX9_who_180 : decode cX9_who 180 = .ok (.aload_n 0, 1) := by decide +kernel
theorem dX9_who_181 : decode cX9_who 181 = .ok (.getfield 80, 3) := by decide +kernel
theorem dX9_who_184 : decode cX9_who 184 = .ok (.iload 10, 2) := by decide +kernel
theorem dX9_who_186 : decode cX9_who 186 = .ok (.iaload, 1) := by decide +kernel
theorem dX9_who_187 : decode cX9_who 187 = .ok (.iastore, 1) := by decide +kernel
theorem dX9_who_188 : decode cX9_who 188 = .ok (.iinc 10 1, 3) := by decide +kernel
theorem dX9_who_191 : decode cX9_who 191 = .ok (.goto (-29), 3) := by decide +kernel
theorem dX9_who_194 : decode cX9_who 194 = .ok (.iinc 8 1, 3) := by decide +kernel
theorem dX9_who_197 : decode cX9_who 197 = .ok (.aload_n 0, 1) := by decide +kernel
theorem dX9_who_198 : decode cX9_who 198 = .ok (.iload 4, 2) := by decide +kernel
theorem dX9_who_200 : decode cX9_who 200 = .ok (.invokevirtual 254, 3) := by decide +kernel
theorem dX9_who_203 : decode cX9_who 203 = .ok (.istore 9, 2) := by decide +kernel
theorem dX9_who_205 : decode cX9_who 205 = .ok (.goto (-62), 3) := by decide +kernel
theorem dX9_who_208 : decode cX9_who 208 = .ok (.iload 8, 2) := by decide +kernel
theorem dX9_who_210 : decode cX9_who 210 = .ok (.ifCond .ne 8, 3) := by decide +kernel
theorem dX9_who_213 : decode cX9_who 213 = .ok (.bipush (-4), 2) := by decide +kernel
theorem dX9_who_215 : decode cX9_who 215 = .ok (.goto 35, 3) := by decide +kernel
theorem dX9_who_218 : decode cX9_who 218 = .ok (.iload 5, 2) := by decide +kernel
theorem dX9_who_220 : decode cX9_who 220 = .ok (.ifCond .ge 8, 3) := by decide +kernel
theorem dX9_who_223 : decode cX9_who 223 = .ok (.iload 8, 2) := by decide +kernel
theorem dX9_who_225 : decode cX9_who 225 = .ok (.goto 25, 3) := by decide +kernel
theorem dX9_who_228 : decode cX9_who 228 = .ok (.bipush 10, 2) := by decide +kernel
theorem dX9_who_230 : decode cX9_who 230 = .ok (.aload_n 0, 1) := by decide +kernel
theorem dX9_who_231 : decode cX9_who 231 = .ok (.getfield 83, 3) := by decide +kernel
theorem dX9_who_234 : decode cX9_who 234 = .ok (.iload 5, 2) := by decide +kernel
theorem dX9_who_236 : decode cX9_who 236 = .ok (.iaload, 1) := by decide +kernel
theorem dX9_who_237 : decode cX9_who 237 = .ok (.iconst 5, 1) := by decide +kernel
theorem dX9_who_238 : decode cX9_who 238 = .ok (.idiv, 1) := by decide +kernel
theorem dX9_who_239 : decode cX9_who 239 = .ok (.imul, 1) := by decide +kernel
theorem dX9_who_240 : decode cX9_who 240 = .ok (.aload_n 0, 1) := by decide +kernel
theorem dX9_who_241 : decode cX9_who 241 = .ok (.getfield 83, 3) := by decide +kernel
theorem dX9_who_244 : decode cX9_who 244 = .ok (.iload 5, 2) := by decide +kernel
theorem dX9_who_246 : decode cX9_who 246 = .ok (.iaload, 1) := by decide +kernel
theorem dX9_who_247 : decode cX9_who 247 = .ok (.iconst 5, 1) := by decide +kernel
theorem dX9_who_248 : decode cX9_who 248 = .ok (.irem, 1) := by decide +kernel
theorem dX9_who_249 : decode cX9_who 249 = .ok (.iadd, 1) := by decide +kernel
theorem dX9_who_250 : decode cX9_who 250 = .ok (.ireturn, 1) := by decide +kernel
theorem dJ6_bitCount_0f7a4_0 : decode cJ6_bitCount_0f7a4 0 = .ok (.iload_n 0, 1) := by decide +kernel
theorem dJ6_bitCount_0f7a4_1 : decode cJ6_bitCount_0f7a4 1 = .ok (.iload_n 0, 1) := by decide +kernel
theorem dJ6_bitCount_0f7a4_2 : decode cJ6_bitCount_0f7a4 2 = .ok (.iconst 1, 1) := by decide +kernel
theorem dJ6_bitCount_0f7a4_3 : decode cJ6_bitCount_0f7a4 3 = .ok (.iushr, 1) := by decide +kernel
theorem dJ6_bitCount_0f7a4_4 : decode cJ6_bitCount_0f7a4 4 = .ok (.ldc_w 265, 3) := by decide +kernel
theorem dJ6_bitCount_0f7a4_7 : decode cJ6_bitCount_0f7a4 7 = .ok (.iand, 1) := by decide +kernel
theorem dJ6_bitCount_0f7a4_8 : decode cJ6_bitCount_0f7a4 8 = .ok (.isub, 1) := by decide +kernel
theorem dJ6_bitCount_0f7a4_9 : decode cJ6_bitCount_0f7a4 9 = .ok (.istore_n 0, 1) := by decide +kernel
theorem dJ6_bitCount_0f7a4_10 : decode cJ6_bitCount_0f7a4 10 = .ok (.iload_n 0, 1) := by decide +kernel
theorem dJ6_bitCount_0f7a4_11 : decode cJ6_bitCount_0f7a4 11 = .ok (.ldc_w 266, 3) := by decide +kernel
theorem dJ6_bitCount_0f7a4_14 : decode cJ6_bitCount_0f7a4 14 = .ok (.iand, 1) := by decide +kernel
theorem dJ6_bitCount_0f7a4_15 : decode cJ6_bitCount_0f7a4 15 = .ok (.iload_n 0, 1) := by decide +kernel
theorem dJ6_bitCount_0f7a4_16 : decode cJ6_bitCount_0f7a4 16 = .ok (.iconst 2, 1) := by decide +kernel
theorem dJ6_bitCount_0f7a4_17 : decode cJ6_bitCount_0f7a4 17 = .ok (.iushr, 1) := by decide +kernel
theorem dJ6_bitCount_0f7a4_18 : decode cJ6_bitCount_0f7a4 18 = .ok (.ldc_w 266, 3) := by decide +kernel
theorem dJ6_bitCount_0f7a4_21 : decode cJ6_bitCount_0f7a4 21 = .ok (.iand, 1) := by decide +kernel
theorem dJ6_bitCount_0f7a4_22 : decode cJ6_bitCount_0f7a4 22 = .ok (.iadd, 1) := by decide +kernel
theorem dJ6_bitCount_0f7a4_23 : decode cJ6_bitCount_0f7a4 23 = .ok (.istore_n 0, 1) := by decide +kernel
theorem dJ6_bitCount_0f7a4_24 : decode cJ6_bitCount_0f7a4 24 = .ok (.iload_n 0, 1) := by decide +kernel
theorem dJ6_bitCount_0f7a4_25 : decode cJ6_bitCount_0f7a4 25 = .ok (.iload_n 0, 1) := by decide +kernel
theorem dJ6_bitCount_0f7a4_26 : decode cJ6_bitCount_0f7a4 26 = .ok (.iconst 4, 1) := by decide +kernel
theorem dJ6_bitCount_0f7a4_27 : decode cJ6_bitCount_0f7a4 27 = .ok (.iushr, 1) := by decide +kernel
theorem dJ6_bitCount_0f7a4_28 : decode cJ6_bitCount_0f7a4 28 = .ok (.iadd, 1) := by decide +kernel
theorem dJ6_bitCount_0f7a4_29 : decode cJ6_bitCount_0f7a4 29 = .ok (.ldc_w 267, 3) := by decide +kernel
theorem dJ6_bitCount_0f7a4_32 : decode cJ6_bitCount_0f7a4 32 = .ok (.iand, 1) := by decide +kernel
theorem dJ6_bitCount_0f7a4_33 : decode cJ6_bitCount_0f7a4 33 = .ok (.istore_n 0, 1) := by decide +kernel
theorem dJ6_bitCount_0f7a4_34 : decode cJ6_bitCount_0f7a4 34 = .ok (.iload_n 0, 1) := by decide +kernel
theorem dJ6_bitCount_0f7a4_35 : decode cJ6_bitCount_0f7a4 35 = .ok (.iload_n 0, 1) := by decide +kernel
theorem dJ6_bitCount_0f7a4_36 : decode cJ6_bitCount_0f7a4 36 = .ok (.bipush 8, 2) := by decide +kernel
theorem dJ6_bitCount_0f7a4_38 : decode cJ6_bitCount_0f7a4 38 = .ok (.iushr, 1) := by decide +kernel
theorem dJ6_bitCount_0f7a4_39 : decode cJ6_bitCount_0f7a4 39 = .ok (.iadd, 1) := by decide +kernel
theorem dJ6_bitCount_0f7a4_40 : decode cJ6_bitCount_0f7a4 40 = .ok (.istore_n 0, 1) := by decide +kernel
theorem dJ6_bitCount_0f7a4_41 : decode cJ6_bitCount_0f7a4 41 = .ok (.iload_n 0, 1) := by decide +kernel
theorem dJ6_bitCount_0f7a4_42 : decode cJ6_bitCount_0f7a4 42 = .ok (.iload_n 0, 1) := by decide +kernel
theorem dJ6_bitCount_0f7a4_43 : decode cJ6_bitCount_0f7a4 43 = .ok (.bipush 16, 2) := by decide +kernel
theorem dJ6_bitCount_0f7a4_45 : decode cJ6_bitCount_0f7a4 45 = .ok (.iushr, 1) := by decide +kernel
theorem dJ6_bitCount_0f7a4_46 : decode cJ6_bitCount_0f7a4 46 = .ok (.iadd, 1) := by decide +kernel
theorem dJ6_bitCount_0f7a4_47 : decode cJ6_bitCount_0f7a4 47 = .ok (.istore_n 0, 1) := by decide +kernel
theorem dJ6_bitCount_0f7a4_48 : decode cJ6_bitCount_0f7a4 48 = .ok (.iload_n 0, 1) := by decide +kernel
theorem dJ6_bitCount_0f7a4_49 : decode cJ6_bitCount_0f7a4 49 = .ok (.bipush 63, 2) := by decide +kernel
theorem dJ6_bitCount_0f7a4_51 : decode cJ6_bitCount_0f7a4 51 = .ok (.iand, 1) := by decide +kernel
theorem dJ6_bitCount_0f7a4_52 : decode cJ6_bitCount_0f7a4 52 = .ok (.ireturn, 1) := by decide +kernel
set_option maxRecDepth 20000 in
theorem ggJ0_length_8abf5_J0_coder_7d493 : GoodIn wsJ0_length_8abf5 wsJ0_coder_7d493 := goodIn_r _ [6, 7, 8] (by decide +kernel) (by decide +kernel)
set_option maxRecDepth 20000 in
theorem gJ0_length_8abf5_J0_coder_7d493 : GoodIn wsJ0_length_8abf5 (wsV RJ0 335 RJ0 yJ0_coder_7d493 wsJ0_coder_7d493) := goodIn_app (goodIn_of _ (by decide +kernel)) ggJ0_length_8abf5_J0_coder_7d493
theorem dJ0_length_8abf5_0 : decode cJ0_length_8abf5 0 = .ok (.aload_n 0, 1) := by decide +kernel
theorem dJ0_length_8abf5_1 : decode cJ0_length_8abf5 1 = .ok (.getfield 9, 3) := by decide +kernel
theorem dJ0_length_8abf5_4 : decode cJ0_length_8abf5 4 = .ok (.arraylength, 1) := by decide +kernel
theorem dJ0_length_8abf5_5 : decode cJ0_length_8abf5 5 = .ok (.aload_n 0, 1) := by decide +kernel
theorem dJ0_length_8abf5_6 : decode cJ0_length_8abf5 6 = .ok (.invokevirtual 335, 3) := by decide +kernel
theorem dJ0_length_8abf5_9 : decode cJ0_length_8abf5 9 = .ok (.ishr, 1) := by decide +kernel
theorem dJ0_length_8abf5_10 : decode cJ0_length_8abf5 10 = .ok (.ireturn, 1) := by decide +kernel
set_option maxRecDepth 20000 in
theorem ggJ0_indexOf_0f7a4_J0_indexOf_7cf53 : GoodIn wsJ0_indexOf_0f7a4 wsJ0_indexOf_7cf53 := goodIn_r _ [5, 6, 7, 8, 9, 4, 10, 11, 12, 13, 14, 15, 16, 17, 18, 19, 20, 21, 22, 23, 24, 25, 26, 27, 28, 29, 30, 31, 32, 33, 34, 35, 36, 37, 38, 39, 40, 41, 42, 43, 44, 45, 46, 47, 48, 49, 50, 51, 52, 53, 54, 55, 56, 57, 58, 59, 60, 61, 62, 63, 64, 65, 66, 67, 68, 69, 70, 71, 72, 73, 74, 75, 76, 77, 78, 79, 80, 81, 82, 83, 84, 85] (by decide +kernel) (by decide +kernel)
set_option maxRecDepth 20000 in
theorem gJ0_indexOf_0f7a4_J0_indexOf_7cf53 : GoodIn wsJ0_indexOf_0f7a4 (wsV RJ0 633 RJ0 yJ0_indexOf_7cf53 wsJ0_indexOf_7cf53) := goodIn_app (goodIn_of _ (by decide +kernel)) ggJ0_indexOf_0f7a4_J0_indexOf_7cf53
theorem dJ0_indexOf_0f7a4_0 : decode cJ0_indexOf_0f7a4 0 = .ok (.aload_n 0, 1) := by decide +kernel
theorem dJ0_indexOf_0f7a4_1 : decode cJ0_indexOf_0f7a4 1 = .ok (.iload_n 1, 1) := by decide +kernel
theorem dJ0_indexOf_0f7a4_2 : decode cJ0_indexOf_0f7a4 2 = .ok (.iconst 0, 1) := by decide +kernel
theorem dJ0_indexOf_0f7a4_3 : decode cJ0_indexOf_0f7a4 3 = .ok (.invokevirtual 633, 3) := by decide +kernel
theorem dJ0_indexOf_0f7a4_6 : decode cJ0_indexOf_0f7a4 6 = .ok (.ireturn, 1) := by decide +kernel
set_option maxRecDepth 20000 in
theorem ggJ0_indexOf_7cf53_J0_isLatin1_aae02 : GoodIn wsJ0_indexOf_7cf53 wsJ0_isLatin1_aae02 := goodIn_r _ [6, 7, 8] (by decide +kernel) (by decide +kernel)
set_option maxRecDepth 20000 in
theorem gJ0_indexOf_7cf53_J0_isLatin1_aae02 : GoodIn wsJ0_indexOf_7cf53 (wsV RJ0 492 RJ0 yJ0_isLatin1_aae02 wsJ0_isLatin1_aae02) := goodIn_app (goodIn_of _ (by decide +kernel)) ggJ0_indexOf_7cf53_J0_isLatin1_aae02
set_option maxRecDepth 20000 in
theorem ggJ0_indexOf_7cf53_J0_length_8abf5 : GoodIn wsJ0_indexOf_7cf53 wsJ0_length_8abf5 := goodIn_r _ [12, 1, 13, 14, 15, 5, 16, 7, 8] (by decide +kernel) (by decide +kernel)
set_option maxRecDepth 20000 in
theorem gJ0_indexOf_7cf53_J0_length_8abf5 : GoodIn wsJ0_indexOf_7cf53 (wsV RJ0 505 RJ0 yJ0_length_8abf5 wsJ0_length_8abf5) := goodIn_app (goodIn_of _ (by decide +kernel)) ggJ0_indexOf_7cf53_J0_length_8abf5
set_option maxRecDepth 20000 in
theorem ggJ0_indexOf_7cf53_J1_indexOf_4cfef : GoodIn wsJ0_indexOf_7cf53 wsJ1_indexOf_4cfef := goodIn_r _ [20, 21, 22, 23, 24, 25, 26, 27, 28, 29, 19, 30, 31, 32, 33] (by decide +kernel) (by decide +kernel)
set_option maxRecDepth 20000 in
theorem gJ0_indexOf_7cf53_J1_indexOf_4cfef : GoodIn wsJ0_indexOf_7cf53 (va_wsS RJ0 637 yJ1_indexOf_4cfef wsJ1_indexOf_4cfef) := goodIn_app (goodIn_of _ (by decide +kernel)) ggJ0_indexOf_7cf53_J1_indexOf_4cfef
theorem dJ0_indexOf_7cf53_0 : decode cJ0_indexOf_7cf53 0 = .ok (.aload_n 0, 1) := by decide +kernel
theorem dJ0_indexOf_7cf53_1 : decode cJ0_indexOf_7cf53 1 = .ok (.invokevirtual 492, 3) := by decide +kernel
theorem dJ0_indexOf_7cf53_4 : decode cJ0_indexOf_7cf53 4 = .ok (.ifCond .eq 19, 3) := by decide +kernel
theorem dJ0_indexOf_7cf53_7 : decode cJ0_indexOf_7cf53 7 = .ok (.aload_n 0, 1) := by decide +kernel
theorem dJ0_indexOf_7cf53_8 : decode cJ0_indexOf_7cf53 8 = .ok (.getfield 9, 3) := by decide +kernel
theorem dJ0_indexOf_7cf53_11 : decode cJ0_indexOf_7cf53 11 = .ok (.iload_n 1, 1) := by decide +kernel
theorem dJ0_indexOf_7cf53_12 : decode cJ0_indexOf_7cf53 12 = .ok (.iload_n 2, 1) := by decide +kernel
theorem dJ0_indexOf_7cf53_13 : decode cJ0_indexOf_7cf53 13 = .ok (.aload_n 0, 1) := by decide +kernel
theorem dJ0_indexOf_7cf53_14 : decode cJ0_indexOf_7cf53 14 = .ok (.invokevirtual 505, 3) := by decide +kernel
theorem dJ0_indexOf_7cf53_17 : decode cJ0_indexOf_7cf53 17 = .ok (.invokestatic 637, 3) := by decide +kernel
theorem dJ0_indexOf_7cf53_20 : decode cJ0_indexOf_7cf53 20 = .ok (.goto 16, 3) := by decide +kernel
theorem dJ0_indexOf_7cf53_23 : decode cJ0_indexOf_7cf53 23 = .ok (.aload_n 0, 1) := by decide +kernel
theorem dJ0_indexOf_7cf53_24 : decode cJ0_indexOf_7cf53 24 = .ok (.getfield 9, 3) := by decide +kernel
theorem dJ0_indexOf_7cf53_27 : decode cJ0_indexOf_7cf53 27 = .ok (.iload_n 1, 1) := by decide +kernel
theorem dJ0_indexOf_7cf53_28 : decode cJ0_indexOf_7cf53 28 = .ok (.iload_n 2, 1) := by decide +kernel
theorem dJ0_indexOf_7cf53_29 : decode cJ0_indexOf_7cf53 29 = .ok (.aload_n 0, 1) := by decide +kernel
theorem dJ0_indexOf_7cf53_30 : decode cJ0_indexOf_7cf53 30 = .ok (.invokevirtual 505, 3) := by decide +kernel
theorem dJ0_indexOf_7cf53_33 : decode cJ0_indexOf_7cf53 33 = .ok (.invokestatic 640, 3) := by decide +kernel
theorem dJ0_indexOf_7cf53_36 : decode cJ0_indexOf_7cf53 36 = .ok (.ireturn, 1) := by decide +kernel
theorem dJ0_coder_7d493_0 : decode cJ0_coder_7d493 0 = .ok (.getstatic 38, 3) := by decide +kernel
theorem dJ0_coder_7d493_3 : decode cJ0_coder_7d493 3 = .ok (.ifCond .eq 10, 3) := by decide +kernel
theorem dJ0_coder_7d493_6 : decode cJ0_coder_7d493 6 = .ok (.aload_n 0, 1) := by decide +kernel
theorem dJ0_coder_7d493_7 : decode cJ0_coder_7d493 7 = .ok (.getfield 15, 3) := by decide +kernel
theorem dJ0_coder_7d493_10 : decode cJ0_coder_7d493 10 = .ok (.goto 4, 3) := by decide +kernel
theorem dJ0_coder_7d493_13 : decode cJ0_coder_7d493 13 = .ok (.iconst 1, 1) := by decide +kernel
theorem dJ0_coder_7d493_14 : decode cJ0_coder_7d493 14 = .ok (.ireturn, 1) := by decide +kernel
theorem dJ0_isLatin1_aae02_0 : decode cJ0_isLatin1_aae02 0 = .ok (.getstatic 38, 3) := by decide +kernel
theorem dJ0_isLatin1_aae02_3 : decode cJ0_isLatin1_aae02 3 = .ok (.ifCond .eq 14, 3) := by decide +kernel
theorem dJ0_isLatin1_aae02_6 : decode cJ0_isLatin1_aae02 6 = .ok (.aload_n 0, 1) := by decide +kernel
theorem dJ0_isLatin1_aae02_7 : decode cJ0_isLatin1_aae02 7 = .ok (.getfield 15, 3) := by decide +kernel
theorem dJ0_isLatin1_aae02_10 : decode cJ0_isLatin1_aae02 10 = .ok (.ifCond .ne 7, 3) := by decide +kernel
theorem dJ0_isLatin1_aae02_13 : decode cJ0_isLatin1_aae02 13 = .ok (.iconst 1, 1) := by decide +kernel
theorem dJ0_isLatin1_aae02_14 : decode cJ0_isLatin1_aae02 14 = .ok (.goto 4, 3) := by decide +kernel
theorem dJ0_isLatin1_aae02_17 : decode cJ0_isLatin1_aae02 17 = .ok (.iconst 0, 1) := by decide +kernel
theorem dJ0_isLatin1_aae02_18 : decode cJ0_isLatin1_aae02 18 = .ok (.ireturn, 1) := by decide +kernel
theorem dJ1_canEncode_9a6ad_0 : decode cJ1_canEncode_9a6ad 0 = .ok (.iload_n 0, 1) := by decide +kernel
theorem dJ1_canEncode_9a6ad_1 : decode cJ1_canEncode_9a6ad 1 = .ok (.ifCond .lt 14, 3) := by decide +kernel
theorem dJ1_canEncode_9a6ad_4 : decode cJ1_canEncode_9a6ad 4 = .ok (.iload_n 0, 1) := by decide +kernel
theorem dJ1_canEncode_9a6ad_5 : decode cJ1_canEncode_9a6ad 5 = .ok (.sipush 255, 3) := by decide +kernel
theorem dJ1_canEncode_9a6ad_8 : decode cJ1_canEncode_9a6ad 8 = .ok (.if_icmp .gt 7, 3) := by decide +kernel
theorem dJ1_canEncode_9a6ad_11 : decode cJ1_canEncode_9a6ad 11 = .ok (.iconst 1, 1) := by decide +kernel
theorem dJ1_canEncode_9a6ad_12 : decode cJ1_canEncode_9a6ad 12 = .ok (.goto 4, 3) := by decide +kernel
theorem dJ1_canEncode_9a6ad_15 : decode cJ1_canEncode_9a6ad 15 = .ok (.iconst 0, 1) := by decide +kernel
theorem dJ1_canEncode_9a6ad_16 : decode cJ1_canEncode_9a6ad 16 = .ok (.ireturn, 1) := by decide +kernel
set_option maxRecDepth 20000 in
theorem ggJ1_indexOf_4cfef_J1_canEncode_9a6ad : GoodIn wsJ1_indexOf_4cfef wsJ1_canEncode_9a6ad := goodIn_r _ [11] (by decide +kernel) (by decide +kernel)
set_option maxRecDepth 20000 in
theorem gJ1_indexOf_4cfef_J1_canEncode_9a6ad : GoodIn wsJ1_indexOf_4cfef (va_wsS RJ1 88 yJ1_canEncode_9a6ad wsJ1_canEncode_9a6ad) := goodIn_app (goodIn_of _ (by decide +kernel)) ggJ1_indexOf_4cfef_J1_canEncode_9a6ad
set_option maxRecDepth 20000 in
theorem ggJ1_indexOf_4cfef_J1_indexOfChar_4cfef : GoodIn wsJ1_indexOf_4cfef wsJ1_indexOfChar_4cfef := goodIn_r _ [14] (by decide +kernel) (by decide +kernel)
set_option maxRecDepth 20000 in
theorem gJ1_indexOf_4cfef_J1_indexOfChar_4cfef : GoodIn wsJ1_indexOf_4cfef (va_wsS RJ1 95 yJ1_indexOfChar_4cfef wsJ1_indexOfChar_4cfef) := goodIn_app (goodIn_of _ (by decide +kernel)) ggJ1_indexOf_4cfef_J1_indexOfChar_4cfef
theorem dJ1_indexOf_4cfef_0 : decode cJ1_indexOf_4cfef 0 = .ok (.iload_n 1, 1) := by decide +kernel
theorem dJ1_indexOf_4cfef_1 : decode cJ1_indexOf_4cfef 1 = .ok (.invokestatic 88, 3) := by decide +kernel
theorem dJ1_indexOf_4cfef_4 : decode cJ1_indexOf_4cfef 4 = .ok (.ifCond .ne 5, 3) := by decide +kernel
theorem dJ1_indexOf_4cfef_7 : decode cJ1_indexOf_4cfef 7 = .ok (.iconst (-1), 1) := by decide +kernel
theorem dJ1_indexOf_4cfef_8 : decode cJ1_indexOf_4cfef 8 = .ok (.ireturn, 1) := by decide +kernel
theorem dJ1_indexOf_4cfef_9 : decode cJ1_indexOf_4cfef 9 = .ok (.iload_n 2, 1) := by decide +kernel
theorem dJ1_indexOf_4cfef_10 : decode cJ1_indexOf_4cfef 10 = .ok (.iconst 0, 1) := by decide +kernel
theorem dJ1_indexOf_4cfef_11 : decode cJ1_indexOf_4cfef 11 = .ok (.invokestatic 92, 3) := by decide +kernel
theorem dJ1_indexOf_4cfef_14 : decode cJ1_indexOf_4cfef 14 = .ok (.istore_n 2, 1) := by decide +kernel
theorem dJ1_indexOf_4cfef_15 : decode cJ1_indexOf_4cfef 15 = .ok (.iload_n 3, 1) := by decide +kernel
theorem dJ1_indexOf_4cfef_16 : decode cJ1_indexOf_4cfef 16 = .ok (.aload_n 0, 1) := by decide +kernel
theorem dJ1_indexOf_4cfef_17 : decode cJ1_indexOf_4cfef 17 = .ok (.arraylength, 1) := by decide +kernel
theorem dJ1_indexOf_4cfef_18 : decode cJ1_indexOf_4cfef 18 = .ok (.invokestatic 38, 3) := by decide +kernel
theorem dJ1_indexOf_4cfef_21 : decode cJ1_indexOf_4cfef 21 = .ok (.istore_n 3, 1) := by decide +kernel
theorem dJ1_indexOf_4cfef_22 : decode cJ1_indexOf_4cfef 22 = .ok (.iload_n 2, 1) := by decide +kernel
theorem dJ1_indexOf_4cfef_23 : decode cJ1_indexOf_4cfef 23 = .ok (.iload_n 3, 1) := by decide +kernel
theorem dJ1_indexOf_4cfef_24 : decode cJ1_indexOf_4cfef 24 = .ok (.if_icmp .lt 5, 3) := by decide +kernel
theorem dJ1_indexOf_4cfef_27 : decode cJ1_indexOf_4cfef 27 = .ok (.iconst (-1), 1) := by decide +kernel
theorem dJ1_indexOf_4cfef_28 : decode cJ1_indexOf_4cfef 28 = .ok (.ireturn, 1) := by decide +kernel
theorem dJ1_indexOf_4cfef_29 : decode cJ1_indexOf_4cfef 29 = .ok (.aload_n 0, 1) := by decide +kernel
theorem dJ1_indexOf_4cfef_30 : decode cJ1_indexOf_4cfef 30 = .ok (.iload_n 1, 1) := by decide +kernel
theorem dJ1_indexOf_4cfef_31 : decode cJ1_indexOf_4cfef 31 = .ok (.iload_n 2, 1) := by decide +kernel
theorem dJ1_indexOf_4cfef_32 : decode cJ1_indexOf_4cfef 32 = .ok (.iload_n 3, 1) := by decide +kernel
theorem dJ1_indexOf_4cfef_33 : decode cJ1_indexOf_4cfef 33 = .ok (.invokestatic 95, 3) := by decide +kernel
theorem dJ1_indexOf_4cfef_36 : decode cJ1_indexOf_4cfef 36 = .ok (.ireturn, 1) := by decide +kernel
theorem dJ1_indexOfChar_4cfef_0 : decode cJ1_indexOfChar_4cfef 0 = .ok (.iload_n 1, 1) := by decide +kernel
theorem dJ1_indexOfChar_4cfef_1 : decode cJ1_indexOfChar_4cfef 1 = .ok (.i2b, 1) := by decide +kernel
theorem dJ1_indexOfChar_4cfef_2 : decode cJ1_indexOfChar_4cfef 2 = .ok (.istore 4, 2) := by decide +kernel
theorem dJ1_indexOfChar_4cfef_4 : decode cJ1_indexOfChar_4cfef 4 = .ok (.iload_n 2, 1) := by decide +kernel
theorem dJ1_indexOfChar_4cfef_5 : decode cJ1_indexOfChar_4cfef 5 = .ok (.istore 5, 2) := by decide +kernel
theorem dJ1_indexOfChar_4cfef_7 : decode cJ1_indexOfChar_4cfef 7 = .ok (.iload 5, 2) := by decide +kernel
theorem dJ1_indexOfChar_4cfef_9 : decode cJ1_indexOfChar_4cfef 9 = .ok (.iload_n 3, 1) := by decide +kernel
theorem dJ1_indexOfChar_4cfef_10 : decode cJ1_indexOfChar_4cfef 10 = .ok (.if_icmp .ge 21, 3) := by decide +kernel
theorem dJ1_indexOfChar_4cfef_13 : decode cJ1_indexOfChar_4cfef 13 = .ok (.aload_n 0, 1) := by decide +kernel
theorem dJ1_indexOfChar_4cfef_14 : decode cJ1_indexOfChar_4cfef 14 = .ok (.iload 5, 2) := by decide +kernel
theorem dJ1_indexOfChar_4cfef_16 : decode cJ1_indexOfChar_4cfef 16 = .ok (.baload, 1) := by decide +kernel
theorem dJ1_indexOfChar_4cfef_17 : decode cJ1_indexOfChar_4cfef 17 = .ok (.iload 4, 2) := by decide +kernel
theorem dJ1_indexOfChar_4cfef_19 : decode cJ1_indexOfChar_4cfef 19 = .ok (.if_icmp .ne 6, 3) := by decide +kernel
theorem dJ1_indexOfChar_4cfef_22 : decode cJ1_indexOfChar_4cfef 22 = .ok (.iload 5, 2) := by decide +kernel
theorem dJ1_indexOfChar_4cfef_24 : decode cJ1_indexOfChar_4cfef 24 = .ok (.ireturn, 1) := by decide +kernel
theorem dJ1_indexOfChar_4cfef_25 : decode cJ1_indexOfChar_4cfef 25 = .ok (.iinc 5 1, 3) := by decide +kernel
theorem dJ1_indexOfChar_4cfef_28 : decode cJ1_indexOfChar_4cfef 28 = .ok (.goto (-21), 3) := by decide +kernel
theorem dJ1_indexOfChar_4cfef_31 : decode cJ1_indexOfChar_4cfef 31 = .ok (.iconst (-1), 1) := by decide +kernel
theorem dJ1_indexOfChar_4cfef_32 : decode cJ1_indexOfChar_4cfef 32 = .ok (.ireturn, 1) := by decide +kernel

theorem dX4_reaches_18 : decode cX4_reaches 18 = .ok (.aload_n 0, 1) := by decide +kernel
theorem dX4_reaches_19 : decode cX4_reaches 19 = .ok (.getfield 24, 3) := by decide +kernel
theorem dX4_reaches_22 : decode cX4_reaches 22 = .ok (.arraylength, 1) := by decide +kernel
theorem dX4_reaches_23 : decode cX4_reaches 23 = .ok (.iload_n 1, 1) := by decide +kernel
theorem dX4_reaches_24 : decode cX4_reaches 24 = .ok (.isub, 1) := by decide +kernel
theorem dX4_reaches_25 : decode cX4_reaches 25 = .ok (.if_icmp .gt 7, 3) := by decide +kernel
theorem dX4_reaches_28 : decode cX4_reaches 28 = .ok (.iconst 1, 1) := by decide +kernel
theorem dX4_reaches_29 : decode cX4_reaches 29 = .ok (.goto 4, 3) := by decide +kernel
theorem dX4_reaches_32 : decode cX4_reaches 32 = .ok (.iconst 0, 1) := by decide +kernel
theorem dX4_reaches_33 : decode cX4_reaches 33 = .ok (.ireturn, 1) := by decide +kernel
set_option maxRecDepth 20000 in
theorem ggX4_lookAt_X4_reaches : GoodIn wsX4_lookAt wsX4_reaches := goodIn_r _ [6, 7, 8, 9] rfl (by decide +kernel)
set_option maxRecDepth 20000 in
theorem gX4_lookAt_X4_reaches : GoodIn wsX4_lookAt (wsV RX4 28 RX4 yX4_reaches wsX4_reaches) := goodIn_app (goodIn_of _ (by decide +kernel)) ggX4_lookAt_X4_reaches
theorem dX4_lookAt_0 : decode cX4_lookAt 0 = .ok (.aload_n 0, 1) := by decide +kernel
theorem dX4_lookAt_1 : decode cX4_lookAt 1 = .ok (.getfield 9, 3) := by decide +kernel
theorem dX4_lookAt_4 : decode cX4_lookAt 4 = .ok (.iload_n 1, 1) := by decide +kernel
theorem dX4_lookAt_5 : decode cX4_lookAt 5 = .ok (.if_icmp .eq 6, 3) := by decide +kernel
theorem dX4_lookAt_8 : decode cX4_lookAt 8 = .ok (.bipush (-12), 2) := by decide +kernel
theorem dX4_lookAt_10 : decode cX4_lookAt 10 = .ok (.ireturn, 1) := by decide +kernel
theorem dX4_lookAt_11 : decode cX4_lookAt 11 = .ok (.aload_n 0, 1) := by decide +kernel
theorem dX4_lookAt_12 : decode cX4_lookAt 12 = .ok (.iload_n 2, 1) := by decide +kernel
theorem dX4_lookAt_13 : decode cX4_lookAt 13 = .ok (.iload_n 3, 1) := by decide +kernel
theorem dX4_lookAt_14 : decode cX4_lookAt 14 = .ok (.invokevirtual 28, 3) := by decide +kernel
theorem dX4_lookAt_17 : decode cX4_lookAt 17 = .ok (.ifCond .eq 7, 3) := by decide +kernel
theorem dX4_lookAt_20 : decode cX4_lookAt 20 = .ok (.iconst 0, 1) := by decide +kernel
theorem dX4_lookAt_21 : decode cX4_lookAt 21 = .ok (.goto 5, 3) := by decide +kernel
theorem dX4_lookAt_24 : decode cX4_lookAt 24 = .ok (.bipush (-13), 2) := by decide +kernel
theorem dX4_lookAt_26 : decode cX4_lookAt 26 = .ok (.ireturn, 1) := by decide +kernel
theorem dX4_put_0 : decode cX4_put 0 = .ok (.aload_n 0, 1) := by decide +kernel
theorem dX4_put_1 : decode cX4_put 1 = .ok (.getfield 9, 3) := by decide +kernel
theorem dX4_put_4 : decode cX4_put 4 = .ok (.lookupswitch 53 #[(0, 28), (1, 41)], 28) := by decide +kernel
theorem dX4_put_32 : decode cX4_put 32 = .ok (.aload_n 0, 1) := by decide +kernel
theorem dX4_put_33 : decode cX4_put 33 = .ok (.getfield 24, 3) := by decide +kernel
theorem dX4_put_36 : decode cX4_put 36 = .ok (.iload_n 1, 1) := by decide +kernel
theorem dX4_put_37 : decode cX4_put 37 = .ok (.lload_n 2, 1) := by decide +kernel
theorem dX4_put_38 : decode cX4_put 38 = .ok (.l2i, 1) := by decide +kernel
theorem dX4_put_39 : decode cX4_put 39 = .ok (.i2b, 1) := by decide +kernel
theorem dX4_put_40 : decode cX4_put 40 = .ok (.i2l, 1) := by decide +kernel
theorem dX4_put_41 : decode cX4_put 41 = .ok (.lastore, 1) := by decide +kernel
theorem dX4_put_42 : decode cX4_put 42 = .ok (.goto 22, 3) := by decide +kernel
theorem dX4_put_45 : decode cX4_put 45 = .ok (.aload_n 0, 1) := by decide +kernel
theorem dX4_put_46 : decode cX4_put 46 = .ok (.getfield 24, 3) := by decide +kernel
theorem dX4_put_49 : decode cX4_put 49 = .ok (.iload_n 1, 1) := by decide +kernel
theorem dX4_put_50 : decode cX4_put 50 = .ok (.lload_n 2, 1) := by decide +kernel
theorem dX4_put_51 : decode cX4_put 51 = .ok (.l2i, 1) := by decide +kernel
theorem dX4_put_52 : decode cX4_put 52 = .ok (.i2l, 1) := by decide +kernel
theorem dX4_put_53 : decode cX4_put 53 = .ok (.lastore, 1) := by decide +kernel
theorem dX4_put_54 : decode cX4_put 54 = .ok (.goto 10, 3) := by decide +kernel
theorem dX4_put_57 : decode cX4_put 57 = .ok (.aload_n 0, 1) := by decide +kernel
theorem dX4_put_58 : decode cX4_put 58 = .ok (.getfield 24, 3) := by decide +kernel
theorem dX4_put_61 : decode cX4_put 61 = .ok (.iload_n 1, 1) := by decide +kernel
theorem dX4_put_62 : decode cX4_put 62 = .ok (.lload_n 2, 1) := by decide +kernel
theorem dX4_put_63 : decode cX4_put 63 = .ok (.lastore, 1) := by decide +kernel
theorem dX4_put_64 : decode cX4_put 64 = .ok (.return_, 1) := by decide +kernel
theorem dX4_areTold_0 : decode cX4_areTold 0 = .ok (.iload_n 1, 1) := by decide +kernel
theorem dX4_areTold_1 : decode cX4_areTold 1 = .ok (.istore_n 3, 1) := by decide +kernel
theorem dX4_areTold_2 : decode cX4_areTold 2 = .ok (.iload_n 3, 1) := by decide +kernel
theorem dX4_areTold_3 : decode cX4_areTold 3 = .ok (.iload_n 1, 1) := by decide +kernel
theorem dX4_areTold_4 : decode cX4_areTold 4 = .ok (.iload_n 2, 1) := by decide +kernel
theorem dX4_areTold_5 : decode cX4_areTold 5 = .ok (.iadd, 1) := by decide +kernel
theorem dX4_areTold_6 : decode cX4_areTold 6 = .ok (.if_icmp .ge 35, 3) := by decide +kernel
theorem dX4_areTold_9 : decode cX4_areTold 9 = .ok (.aload_n 0, 1) := by decide +kernel
theorem dX4_areTold_10 : decode cX4_areTold 10 = .ok (.getfield 24, 3) := by decide +kernel
theorem dX4_areTold_13 : decode cX4_areTold 13 = .ok (.iload_n 3, 1) := by decide +kernel
theorem dX4_areTold_14 : decode cX4_areTold 14 = .ok (.laload, 1) := by decide +kernel
theorem dX4_areTold_15 : decode cX4_areTold 15 = .ok (.lconst 0, 1) := by decide +kernel
theorem dX4_areTold_16 : decode cX4_areTold 16 = .ok (.lcmp, 1) := by decide +kernel
theorem dX4_areTold_17 : decode cX4_areTold 17 = .ok (.ifCond .lt 16, 3) := by decide +kernel
theorem dX4_areTold_20 : decode cX4_areTold 20 = .ok (.aload_n 0, 1) := by decide +kernel
theorem dX4_areTold_21 : decode cX4_areTold 21 = .ok (.getfield 24, 3) := by decide +kernel
theorem dX4_areTold_24 : decode cX4_areTold 24 = .ok (.iload_n 3, 1) := by decide +kernel
theorem dX4_areTold_25 : decode cX4_areTold 25 = .ok (.laload, 1) := by decide +kernel
theorem dX4_areTold_26 : decode cX4_areTold 26 = .ok (.ldc2_w 32, 3) := by decide +kernel
theorem dX4_areTold_29 : decode cX4_areTold 29 = .ok (.lcmp, 1) := by decide +kernel
theorem dX4_areTold_30 : decode cX4_areTold 30 = .ok (.ifCond .le 5, 3) := by decide +kernel
theorem dX4_areTold_33 : decode cX4_areTold 33 = .ok (.iconst 0, 1) := by decide +kernel
theorem dX4_areTold_34 : decode cX4_areTold 34 = .ok (.ireturn, 1) := by decide +kernel
theorem dX4_areTold_35 : decode cX4_areTold 35 = .ok (.iinc 3 1, 3) := by decide +kernel
theorem dX4_areTold_38 : decode cX4_areTold 38 = .ok (.goto (-36), 3) := by decide +kernel
theorem dX4_areTold_41 : decode cX4_areTold 41 = .ok (.iconst 1, 1) := by decide +kernel
theorem dX4_areTold_42 : decode cX4_areTold 42 = .ok (.ireturn, 1) := by decide +kernel
theorem dX5_init_0 : decode cX5_init 0 = .ok (.aload_n 0, 1) := by decide +kernel
theorem dX5_init_1 : decode cX5_init 1 = .ok (.invokespecial 3, 3) := by decide +kernel
theorem dX5_init_4 : decode cX5_init 4 = .ok (.aload_n 0, 1) := by decide +kernel
theorem dX5_init_5 : decode cX5_init 5 = .ok (.iconst 0, 1) := by decide +kernel
theorem dX5_init_6 : decode cX5_init 6 = .ok (.putfield 9, 3) := by decide +kernel
theorem dX5_init_9 : decode cX5_init 9 = .ok (.aload_n 0, 1) := by decide +kernel
theorem dX5_init_10 : decode cX5_init 10 = .ok (.iconst 0, 1) := by decide +kernel
theorem dX5_init_11 : decode cX5_init 11 = .ok (.putfield 15, 3) := by decide +kernel
theorem dX5_init_14 : decode cX5_init 14 = .ok (.aload_n 0, 1) := by decide +kernel
theorem dX5_init_15 : decode cX5_init 15 = .ok (.bipush 80, 2) := by decide +kernel
theorem dX5_init_17 : decode cX5_init 17 = .ok (.newarray .char, 2) := by decide +kernel
theorem dX5_init_19 : decode cX5_init 19 = .ok (.putfield 18, 3) := by decide +kernel
theorem dX5_init_22 : decode cX5_init 22 = .ok (.return_, 1) := by decide +kernel
theorem dX5_areSigns_0 : decode cX5_areSigns 0 = .ok (.iconst 0, 1) := by decide +kernel
theorem dX5_areSigns_1 : decode cX5_areSigns 1 = .ok (.istore_n 3, 1) := by decide +kernel
theorem dX5_areSigns_2 : decode cX5_areSigns 2 = .ok (.iload_n 3, 1) := by decide +kernel
theorem dX5_areSigns_3 : decode cX5_areSigns 3 = .ok (.iload_n 2, 1) := by decide +kernel
theorem dX5_areSigns_4 : decode cX5_areSigns 4 = .ok (.if_icmp .ge 41, 3) := by decide +kernel
theorem dX5_areSigns_7 : decode cX5_areSigns 7 = .ok (.lload_n 0, 1) := by decide +kernel
theorem dX5_areSigns_8 : decode cX5_areSigns 8 = .ok (.bipush 8, 2) := by decide +kernel
theorem dX5_areSigns_10 : decode cX5_areSigns 10 = .ok (.iload_n 3, 1) := by decide +kernel
theorem dX5_areSigns_11 : decode cX5_areSigns 11 = .ok (.imul, 1) := by decide +kernel
theorem dX5_areSigns_12 : decode cX5_areSigns 12 = .ok (.lshr, 1) := by decide +kernel
theorem dX5_areSigns_13 : decode cX5_areSigns 13 = .ok (.ldc2_w 22, 3) := by decide +kernel
theorem dX5_areSigns_16 : decode cX5_areSigns 16 = .ok (.land, 1) := by decide +kernel
theorem dX5_areSigns_17 : decode cX5_areSigns 17 = .ok (.lstore 4, 2) := by decide +kernel
theorem dX5_areSigns_19 : decode cX5_areSigns 19 = .ok (.lload 4, 2) := by decide +kernel
theorem dX5_areSigns_21 : decode cX5_areSigns 21 = .ok (.ldc2_w 24, 3) := by decide +kernel
theorem dX5_areSigns_24 : decode cX5_areSigns 24 = .ok (.lcmp, 1) := by decide +kernel
theorem dX5_areSigns_25 : decode cX5_areSigns 25 = .ok (.ifCond .lt 12, 3) := by decide +kernel
theorem dX5_areSigns_28 : decode cX5_areSigns 28 = .ok (.lload 4, 2) := by decide +kernel
theorem dX5_areSigns_30 : decode cX5_areSigns 30 = .ok (.ldc2_w 26, 3) := by decide +kernel
theorem dX5_areSigns_33 : decode cX5_areSigns 33 = .ok (.lcmp, 1) := by decide +kernel
theorem dX5_areSigns_34 : decode cX5_areSigns 34 = .ok (.ifCond .le 5, 3) := by decide +kernel
theorem dX5_areSigns_37 : decode cX5_areSigns 37 = .ok (.iconst 0, 1) := by decide +kernel
theorem dX5_areSigns_38 : decode cX5_areSigns 38 = .ok (.ireturn, 1) := by decide +kernel
theorem dX5_areSigns_39 : decode cX5_areSigns 39 = .ok (.iinc 3 1, 3) := by decide +kernel
theorem dX5_areSigns_42 : decode cX5_areSigns 42 = .ok (.goto (-40), 3) := by decide +kernel
theorem dX5_areSigns_45 : decode cX5_areSigns 45 = .ok (.iconst 1, 1) := by decide +kernel
theorem dX5_areSigns_46 : decode cX5_areSigns 46 = .ok (.ireturn, 1) := by decide +kernel
theorem dX5_add_0 : decode cX5_add 0 = .ok (.iload_n 3, 1) := by decide +kernel
theorem dX5_add_1 : decode cX5_add 1 = .ok (.iconst 1, 1) := by decide +kernel
theorem dX5_add_2 : decode cX5_add 2 = .ok (.isub, 1) := by decide +kernel
theorem dX5_add_3 : decode cX5_add 3 = .ok (.istore 4, 2) := by decide +kernel
theorem dX5_add_5 : decode cX5_add 5 = .ok (.iload 4, 2) := by decide +kernel
theorem dX5_add_7 : decode cX5_add 7 = .ok (.ifCond .lt 50, 3) := by decide +kernel
theorem dX5_add_10 : decode cX5_add 10 = .ok (.aload_n 0, 1) := by decide +kernel
theorem dX5_add_11 : decode cX5_add 11 = .ok (.getfield 9, 3) := by decide +kernel
theorem dX5_add_14 : decode cX5_add 14 = .ok (.bipush 80, 2) := by decide +kernel
theorem dX5_add_16 : decode cX5_add 16 = .ok (.if_icmp .ge 41, 3) := by decide +kernel
theorem dX5_add_19 : decode cX5_add 19 = .ok (.aload_n 0, 1) := by decide +kernel
theorem dX5_add_20 : decode cX5_add 20 = .ok (.getfield 18, 3) := by decide +kernel
theorem dX5_add_23 : decode cX5_add 23 = .ok (.aload_n 0, 1) := by decide +kernel
theorem dX5_add_24 : decode cX5_add 24 = .ok (.getfield 9, 3) := by decide +kernel
theorem dX5_add_27 : decode cX5_add 27 = .ok (.lload_n 1, 1) := by decide +kernel
theorem dX5_add_28 : decode cX5_add 28 = .ok (.bipush 8, 2) := by decide +kernel
theorem dX5_add_30 : decode cX5_add 30 = .ok (.iload 4, 2) := by decide +kernel
theorem dX5_add_32 : decode cX5_add 32 = .ok (.imul, 1) := by decide +kernel
theorem dX5_add_33 : decode cX5_add 33 = .ok (.lshr, 1) := by decide +kernel
theorem dX5_add_34 : decode cX5_add 34 = .ok (.ldc2_w 22, 3) := by decide +kernel
theorem dX5_add_37 : decode cX5_add 37 = .ok (.land, 1) := by decide +kernel
theorem dX5_add_38 : decode cX5_add 38 = .ok (.l2i, 1) := by decide +kernel
theorem dX5_add_39 : decode cX5_add 39 = .ok (.i2c, 1) := by decide +kernel
theorem dX5_add_40 : decode cX5_add 40 = .ok (.castore, 1) := by decide +kernel
theorem dX5_add_41 : decode cX5_add 41 = .ok (.aload_n 0, 1) := by decide +kernel
theorem dX5_add_42 : decode cX5_add 42 = .ok (.dup, 1) := by decide +kernel
theorem dX5_add_43 : decode cX5_add 43 = .ok (.getfield 9, 3) := by decide +kernel
theorem dX5_add_46 : decode cX5_add 46 = .ok (.iconst 1, 1) := by decide +kernel
theorem dX5_add_47 : decode cX5_add 47 = .ok (.iadd, 1) := by decide +kernel
theorem dX5_add_48 : decode cX5_add 48 = .ok (.putfield 9, 3) := by decide +kernel
theorem dX5_add_51 : decode cX5_add 51 = .ok (.iinc 4 (-1), 3) := by decide +kernel
theorem dX5_add_54 : decode cX5_add 54 = .ok (.goto (-49), 3) := by decide +kernel
theorem dX5_add_57 : decode cX5_add 57 = .ok (.return_, 1) := by decide +kernel
set_option maxRecDepth 20000 in
theorem ggX5_readFolk_X0_clear : GoodIn wsX5_readFolk wsX0_clear := goodIn_r _ [7, 8, 9, 10, 11, 130, 131, 132, 133, 134] rfl (by decide +kernel)
set_option maxRecDepth 20000 in
theorem gX5_readFolk_X0_clear : GoodIn wsX5_readFolk (wsV RX5 28 RX0 yX0_clear wsX0_clear) := goodIn_app (goodIn_of _ (by decide +kernel)) ggX5_readFolk_X0_clear
set_option maxRecDepth 20000 in
theorem ggX5_readFolk_X5_look : GoodIn wsX5_readFolk wsX5_look := goodIn_r _ [16, 1, 17, 18, 19, 20, 21, 15, 22, 127, 128, 129] rfl (by decide +kernel)
set_option maxRecDepth 20000 in
theorem gX5_readFolk_X5_look : GoodIn wsX5_readFolk (wsV RX5 35 RX5 yX5_look wsX5_look) := goodIn_app (goodIn_of _ (by decide +kernel)) ggX5_readFolk_X5_look
set_option maxRecDepth 20000 in
theorem ggX5_readFolk_J0_indexOf_0f7a4 : GoodIn wsX5_readFolk wsJ0_indexOf_0f7a4 := goodIn_r _ [27, 28, 29, 30, 26, 31, 32, 33, 34, 35, 36, 37, 38, 39, 40, 41, 42, 43, 44, 45, 46, 47, 48, 49, 50, 51, 52, 53, 54, 55, 56, 57, 58, 59, 60, 61, 62, 63, 64, 65, 66, 67, 68, 69, 70, 71, 72, 73, 74, 75, 76, 77, 78, 79, 80, 81, 82, 83, 84, 85, 86, 87, 88, 89, 90, 91, 92, 93, 94, 95, 96, 97, 98, 99, 100, 101, 102, 103, 104, 105, 106, 107, 108, 109, 110, 111] rfl (by decide +kernel)
set_option maxRecDepth 20000 in
theorem gX5_readFolk_J0_indexOf_0f7a4 : GoodIn wsX5_readFolk (wsV RX5 39 RJ0 yJ0_indexOf_0f7a4 wsJ0_indexOf_0f7a4) := goodIn_app (goodIn_of _ (by decide +kernel)) ggX5_readFolk_J0_indexOf_0f7a4
set_option maxRecDepth 20000 in
theorem ggX5_readFolk_X5_fault : GoodIn wsX5_readFolk wsX5_fault := goodIn_r _ [114] rfl (by decide +kernel)
set_option maxRecDepth 20000 in
theorem gX5_readFolk_X5_fault : GoodIn wsX5_readFolk (va_wsS RX5 45 yX5_fault wsX5_fault) := goodIn_app (goodIn_of _ (by decide +kernel)) ggX5_readFolk_X5_fault
set_option maxRecDepth 20000 in
theorem ggX5_readFolk_X5_skipBlanks : GoodIn wsX5_readFolk wsX5_skipBlanks := goodIn_r _ [22, 1, 17, 18, 127, 128, 129] rfl (by decide +kernel)
set_option maxRecDepth 20000 in
theorem gX5_readFolk_X5_skipBlanks : GoodIn wsX5_readFolk (wsV RX5 48 RX5 yX5_skipBlanks wsX5_skipBlanks) := goodIn_app (goodIn_of _ (by decide +kernel)) ggX5_readFolk_X5_skipBlanks
set_option maxRecDepth 20000 in
theorem ggX5_readFolk_X5_readNumber : GoodIn wsX5_readFolk wsX5_readNumber := goodIn_r _ [118, 1, 17, 18, 119, 52, 53, 54, 120, 56, 57, 127, 128, 129] rfl (by decide +kernel)
set_option maxRecDepth 20000 in
theorem gX5_readFolk_X5_readNumber : GoodIn wsX5_readFolk (wsV RX5 51 RX5 yX5_readNumber wsX5_readNumber) := goodIn_app (goodIn_of _ (by decide +kernel)) ggX5_readFolk_X5_readNumber
set_option maxRecDepth 20000 in
theorem ggX5_readFolk_X0_add : GoodIn wsX5_readFolk wsX0_add := goodIn_r _ [124, 8, 125, 126, 130, 131, 132, 133, 134] rfl (by decide +kernel)
set_option maxRecDepth 20000 in
theorem gX5_readFolk_X0_add : GoodIn wsX5_readFolk (wsV RX5 55 RX0 yX0_add wsX0_add) := goodIn_app (goodIn_of _ (by decide +kernel)) ggX5_readFolk_X0_add
theorem dX5_readFolk_0 : decode cX5_readFolk 0 = .ok (.aload_n 1, 1) := by decide +kernel
theorem dX5_readFolk_1 : decode cX5_readFolk 1 = .ok (.invokevirtual 28, 3) := by decide +kernel
theorem dX5_readFolk_4 : decode cX5_readFolk 4 = .ok (.aload_n 0, 1) := by decide +kernel
theorem dX5_readFolk_5 : decode cX5_readFolk 5 = .ok (.iconst 0, 1) := by decide +kernel
theorem dX5_readFolk_6 : decode cX5_readFolk 6 = .ok (.putfield 15, 3) := by decide +kernel
theorem dX5_readFolk_9 : decode cX5_readFolk 9 = .ok (.iconst 4, 1) := by decide +kernel
theorem dX5_readFolk_10 : decode cX5_readFolk 10 = .ok (.istore_n 2, 1) := by decide +kernel
theorem dX5_readFolk_11 : decode cX5_readFolk 11 = .ok (.iload_n 2, 1) := by decide +kernel
theorem dX5_readFolk_12 : decode cX5_readFolk 12 = .ok (.ifCond .lt 128, 3) := by decide +kernel
theorem dX5_readFolk_15 : decode cX5_readFolk 15 = .ok (.ldc 33, 2) := by decide +kernel
theorem dX5_readFolk_17 : decode cX5_readFolk 17 = .ok (.aload_n 0, 1) := by decide +kernel
theorem dX5_readFolk_18 : decode cX5_readFolk 18 = .ok (.invokevirtual 35, 3) := by decide +kernel
theorem dX5_readFolk_21 : decode cX5_readFolk 21 = .ok (.invokevirtual 39, 3) := by decide +kernel
theorem dX5_readFolk_24 : decode cX5_readFolk 24 = .ok (.istore_n 3, 1) := by decide +kernel
theorem dX5_readFolk_25 : decode cX5_readFolk 25 = .ok (.iload_n 3, 1) := by decide +kernel
theorem dX5_readFolk_26 : decode cX5_readFolk 26 = .ok (.ifCond .ge 11, 3) := by decide +kernel
theorem dX5_readFolk_29 : decode cX5_readFolk 29 = .ok (.aload_n 0, 1) := by decide +kernel
theorem dX5_readFolk_30 : decode cX5_readFolk 30 = .ok (.getfield 15, 3) := by decide +kernel
theorem dX5_readFolk_33 : decode cX5_readFolk 33 = .ok (.invokestatic 45, 3) := by decide +kernel
theorem dX5_readFolk_36 : decode cX5_readFolk 36 = .ok (.ireturn, 1) := by decide +kernel
theorem dX5_readFolk_37 : decode cX5_readFolk 37 = .ok (.aload_n 0, 1) := by decide +kernel
theorem dX5_readFolk_38 : decode cX5_readFolk 38 = .ok (.dup, 1) := by decide +kernel
theorem dX5_readFolk_39 : decode cX5_readFolk 39 = .ok (.getfield 15, 3) := by decide +kernel
theorem dX5_readFolk_42 : decode cX5_readFolk 42 = .ok (.iconst 1, 1) := by decide +kernel
theorem dX5_readFolk_43 : decode cX5_readFolk 43 = .ok (.iadd, 1) := by decide +kernel
theorem dX5_readFolk_44 : decode cX5_readFolk 44 = .ok (.putfield 15, 3) := by decide +kernel
theorem dX5_readFolk_47 : decode cX5_readFolk 47 = .ok (.aload_n 0, 1) := by decide +kernel
theorem dX5_readFolk_48 : decode cX5_readFolk 48 = .ok (.invokevirtual 48, 3) := by decide +kernel
theorem dX5_readFolk_51 : decode cX5_readFolk 51 = .ok (.aload_n 0, 1) := by decide +kernel
theorem dX5_readFolk_52 : decode cX5_readFolk 52 = .ok (.getfield 15, 3) := by decide +kernel
theorem dX5_readFolk_55 : decode cX5_readFolk 55 = .ok (.istore 4, 2) := by decide +kernel
theorem dX5_readFolk_57 : decode cX5_readFolk 57 = .ok (.aload_n 0, 1) := by decide +kernel
theorem dX5_readFolk_58 : decode cX5_readFolk 58 = .ok (.invokevirtual 51, 3) := by decide +kernel
theorem dX5_readFolk_61 : decode cX5_readFolk 61 = .ok (.istore 5, 2) := by decide +kernel
theorem dX5_readFolk_63 : decode cX5_readFolk 63 = .ok (.iload 5, 2) := by decide +kernel
theorem dX5_readFolk_65 : decode cX5_readFolk 65 = .ok (.ifCond .lt 11, 3) := by decide +kernel
theorem dX5_readFolk_68 : decode cX5_readFolk 68 = .ok (.iload 5, 2) := by decide +kernel
theorem dX5_readFolk_70 : decode cX5_readFolk 70 = .ok (.sipush 9999, 3) := by decide +kernel
theorem dX5_readFolk_73 : decode cX5_readFolk 73 = .ok (.if_icmp .le 9, 3) := by decide +kernel
theorem dX5_readFolk_76 : decode cX5_readFolk 76 = .ok (.iload 4, 2) := by decide +kernel
theorem dX5_readFolk_78 : decode cX5_readFolk 78 = .ok (.invokestatic 45, 3) := by decide +kernel
theorem dX5_readFolk_81 : decode cX5_readFolk 81 = .ok (.ireturn, 1) := by decide +kernel
theorem dX5_readFolk_82 : decode cX5_readFolk 82 = .ok (.aload_n 1, 1) := by decide +kernel
theorem dX5_readFolk_83 : decode cX5_readFolk 83 = .ok (.iload_n 3, 1) := by decide +kernel
theorem dX5_readFolk_84 : decode cX5_readFolk 84 = .ok (.iload 5, 2) := by decide +kernel
theorem dX5_readFolk_86 : decode cX5_readFolk 86 = .ok (.invokevirtual 55, 3) := by decide +kernel
theorem dX5_readFolk_89 : decode cX5_readFolk 89 = .ok (.aload_n 0, 1) := by decide +kernel
theorem dX5_readFolk_90 : decode cX5_readFolk 90 = .ok (.invokevirtual 35, 3) := by decide +kernel
theorem dX5_readFolk_93 : decode cX5_readFolk 93 = .ok (.istore 6, 2) := by decide +kernel
theorem dX5_readFolk_95 : decode cX5_readFolk 95 = .ok (.iload 6, 2) := by decide +kernel
theorem dX5_readFolk_97 : decode cX5_readFolk 97 = .ok (.ifCond .ne 8, 3) := by decide +kernel
theorem dX5_readFolk_100 : decode cX5_readFolk 100 = .ok (.aload_n 1, 1) := by decide +kernel
theorem dX5_readFolk_101 : decode cX5_readFolk 101 = .ok (.getfield 59, 3) := by decide +kernel
theorem dX5_readFolk_104 : decode cX5_readFolk 104 = .ok (.ireturn, 1) := by decide +kernel
theorem dX5_readFolk_105 : decode cX5_readFolk 105 = .ok (.iload 6, 2) := by decide +kernel
theorem dX5_readFolk_107 : decode cX5_readFolk 107 = .ok (.bipush 44, 2) := by decide +kernel
theorem dX5_readFolk_109 : decode cX5_readFolk 109 = .ok (.if_icmp .ne 7, 3) := by decide +kernel
theorem dX5_readFolk_112 : decode cX5_readFolk 112 = .ok (.iload_n 2, 1) := by decide +kernel
theorem dX5_readFolk_113 : decode cX5_readFolk 113 = .ok (.ifCond .ne 11, 3) := by decide +kernel
theorem dX5_readFolk_116 : decode cX5_readFolk 116 = .ok (.aload_n 0, 1) := by decide +kernel
theorem dX5_readFolk_117 : decode cX5_readFolk 117 = .ok (.getfield 15, 3) := by decide +kernel
theorem dX5_readFolk_120 : decode cX5_readFolk 120 = .ok (.invokestatic 45, 3) := by decide +kernel
theorem dX5_readFolk_123 : decode cX5_readFolk 123 = .ok (.ireturn, 1) := by decide +kernel
theorem dX5_readFolk_124 : decode cX5_readFolk 124 = .ok (.aload_n 0, 1) := by decide +kernel
theorem dX5_readFolk_125 : decode cX5_readFolk 125 = .ok (.dup, 1) := by decide +kernel
theorem dX5_readFolk_126 : decode cX5_readFolk 126 = .ok (.getfield 15, 3) := by decide +kernel
theorem dX5_readFolk_129 : decode cX5_readFolk 129 = .ok (.iconst 1, 1) := by decide +kernel
theorem dX5_readFolk_130 : decode cX5_readFolk 130 = .ok (.iadd, 1) := by decide +kernel
theorem dX5_readFolk_131 : decode cX5_readFolk 131 = .ok (.putfield 15, 3) := by decide +kernel
theorem dX5_readFolk_134 : decode cX5_readFolk 134 = .ok (.iinc 2 (-1), 3) := by decide +kernel
theorem dX5_readFolk_137 : decode cX5_readFolk 137 = .ok (.goto (-126), 3) := by decide +kernel
theorem dX5_readFolk_140 : decode cX5_readFolk 140 = .ok (.aload_n 0, 1) := by decide +kernel
theorem dX5_readFolk_141 : decode cX5_readFolk 141 = .ok (.getfield 15, 3) := by decide +kernel
theorem dX5_readFolk_144 : decode cX5_readFolk 144 = .ok (.invokestatic 45, 3) := by decide +kernel
theorem dX5_readFolk_147 : decode cX5_readFolk 147 = .ok (.ireturn, 1) := by decide +kernel
set_option maxRecDepth 20000 in
theorem ggX5_readPlan_X2_clear : GoodIn wsX5_readPlan wsX2_clear := goodIn_r _ [8, 9, 10, 38, 39, 40, 41] rfl (by decide +kernel)
set_option maxRecDepth 20000 in
theorem gX5_readPlan_X2_clear : GoodIn wsX5_readPlan (wsV RX5 60 RX2 yX2_clear wsX2_clear) := goodIn_app (goodIn_of _ (by decide +kernel)) ggX5_readPlan_X2_clear
set_option maxRecDepth 20000 in
theorem ggX5_readPlan_X5_readAsking : GoodIn wsX5_readPlan wsX5_readAsking := goodIn_r _ [15, 1, 16, 17, 18, 14, 19, 20, 21, 22, 23, 24, 25, 26, 27, 28, 7, 29, 9, 30, 31, 35, 36, 37, 38, 39, 40, 41] rfl (by decide +kernel)
set_option maxRecDepth 20000 in
theorem gX5_readPlan_X5_readAsking : GoodIn wsX5_readPlan (wsV RX5 63 RX5 yX5_readAsking wsX5_readAsking) := goodIn_app (goodIn_of _ (by decide +kernel)) ggX5_readPlan_X5_readAsking
set_option maxRecDepth 20000 in
theorem ggX5_readPlan_X5_fault : GoodIn wsX5_readPlan wsX5_fault := goodIn_r _ [34] rfl (by decide +kernel)
set_option maxRecDepth 20000 in
theorem gX5_readPlan_X5_fault : GoodIn wsX5_readPlan (va_wsS RX5 45 yX5_fault wsX5_fault) := goodIn_app (goodIn_of _ (by decide +kernel)) ggX5_readPlan_X5_fault
set_option maxRecDepth 20000 in
theorem ggX5_readPlan_X5_look : GoodIn wsX5_readPlan wsX5_look := goodIn_r _ [19, 1, 20, 21, 22, 23, 24, 14, 25, 35, 36, 37] rfl (by decide +kernel)
set_option maxRecDepth 20000 in
theorem gX5_readPlan_X5_look : GoodIn wsX5_readPlan (wsV RX5 35 RX5 yX5_look wsX5_look) := goodIn_app (goodIn_of _ (by decide +kernel)) ggX5_readPlan_X5_look
theorem dX5_readPlan_0 : decode cX5_readPlan 0 = .ok (.aload_n 1, 1) := by decide +kernel
theorem dX5_readPlan_1 : decode cX5_readPlan 1 = .ok (.invokevirtual 60, 3) := by decide +kernel
theorem dX5_readPlan_4 : decode cX5_readPlan 4 = .ok (.aload_n 0, 1) := by decide +kernel
theorem dX5_readPlan_5 : decode cX5_readPlan 5 = .ok (.iconst 0, 1) := by decide +kernel
theorem dX5_readPlan_6 : decode cX5_readPlan 6 = .ok (.putfield 15, 3) := by decide +kernel
theorem dX5_readPlan_9 : decode cX5_readPlan 9 = .ok (.bipush 7, 2) := by decide +kernel
theorem dX5_readPlan_11 : decode cX5_readPlan 11 = .ok (.istore_n 3, 1) := by decide +kernel
theorem dX5_readPlan_12 : decode cX5_readPlan 12 = .ok (.iload_n 3, 1) := by decide +kernel
theorem dX5_readPlan_13 : decode cX5_readPlan 13 = .ok (.ifCond .lt 121, 3) := by decide +kernel
theorem dX5_readPlan_16 : decode cX5_readPlan 16 = .ok (.aload_n 0, 1) := by decide +kernel
theorem dX5_readPlan_17 : decode cX5_readPlan 17 = .ok (.aload_n 1, 1) := by decide +kernel
theorem dX5_readPlan_18 : decode cX5_readPlan 18 = .ok (.iload_n 2, 1) := by decide +kernel
theorem dX5_readPlan_19 : decode cX5_readPlan 19 = .ok (.invokevirtual 63, 3) := by decide +kernel
theorem dX5_readPlan_22 : decode cX5_readPlan 22 = .ok (.ifCond .ne 11, 3) := by decide +kernel
theorem dX5_readPlan_25 : decode cX5_readPlan 25 = .ok (.aload_n 0, 1) := by decide +kernel
theorem dX5_readPlan_26 : decode cX5_readPlan 26 = .ok (.getfield 15, 3) := by decide +kernel
theorem dX5_readPlan_29 : decode cX5_readPlan 29 = .ok (.invokestatic 45, 3) := by decide +kernel
theorem dX5_readPlan_32 : decode cX5_readPlan 32 = .ok (.ireturn, 1) := by decide +kernel
theorem dX5_readPlan_33 : decode cX5_readPlan 33 = .ok (.aload_n 0, 1) := by decide +kernel
theorem dX5_readPlan_34 : decode cX5_readPlan 34 = .ok (.invokevirtual 35, 3) := by decide +kernel
theorem dX5_readPlan_37 : decode cX5_readPlan 37 = .ok (.istore 4, 2) := by decide +kernel
theorem dX5_readPlan_39 : decode cX5_readPlan 39 = .ok (.iload 4, 2) := by decide +kernel
theorem dX5_readPlan_41 : decode cX5_readPlan 41 = .ok (.bipush 59, 2) := by decide +kernel
theorem dX5_readPlan_43 : decode cX5_readPlan 43 = .ok (.if_icmp .ne 30, 3) := by decide +kernel
theorem dX5_readPlan_46 : decode cX5_readPlan 46 = .ok (.aload_n 1, 1) := by decide +kernel
theorem dX5_readPlan_47 : decode cX5_readPlan 47 = .ok (.dup, 1) := by decide +kernel
theorem dX5_readPlan_48 : decode cX5_readPlan 48 = .ok (.getfield 67, 3) := by decide +kernel
theorem dX5_readPlan_51 : decode cX5_readPlan 51 = .ok (.iconst 1, 1) := by decide +kernel
theorem dX5_readPlan_52 : decode cX5_readPlan 52 = .ok (.aload_n 1, 1) := by decide +kernel
theorem dX5_readPlan_53 : decode cX5_readPlan 53 = .ok (.getfield 70, 3) := by decide +kernel
theorem dX5_readPlan_56 : decode cX5_readPlan 56 = .ok (.iconst 1, 1) := by decide +kernel
theorem dX5_readPlan_57 : decode cX5_readPlan 57 = .ok (.isub, 1) := by decide +kernel
theorem dX5_readPlan_58 : decode cX5_readPlan 58 = .ok (.ishl, 1) := by decide +kernel
theorem dX5_readPlan_59 : decode cX5_readPlan 59 = .ok (.ior, 1) := by decide +kernel
theorem dX5_readPlan_60 : decode cX5_readPlan 60 = .ok (.putfield 67, 3) := by decide +kernel
theorem dX5_readPlan_63 : decode cX5_readPlan 63 = .ok (.aload_n 0, 1) := by decide +kernel
theorem dX5_readPlan_64 : decode cX5_readPlan 64 = .ok (.dup, 1) := by decide +kernel
theorem dX5_readPlan_65 : decode cX5_readPlan 65 = .ok (.getfield 15, 3) := by decide +kernel
theorem dX5_readPlan_68 : decode cX5_readPlan 68 = .ok (.iconst 1, 1) := by decide +kernel
theorem dX5_readPlan_69 : decode cX5_readPlan 69 = .ok (.iadd, 1) := by decide +kernel
theorem dX5_readPlan_70 : decode cX5_readPlan 70 = .ok (.putfield 15, 3) := by decide +kernel
theorem dX5_readPlan_73 : decode cX5_readPlan 73 = .ok (.aload_n 0, 1) := by decide +kernel
theorem dX5_readPlan_74 : decode cX5_readPlan 74 = .ok (.invokevirtual 35, 3) := by decide +kernel
theorem dX5_readPlan_77 : decode cX5_readPlan 77 = .ok (.ifCond .ne 8, 3) := by decide +kernel
theorem dX5_readPlan_80 : decode cX5_readPlan 80 = .ok (.aload_n 1, 1) := by decide +kernel
theorem dX5_readPlan_81 : decode cX5_readPlan 81 = .ok (.getfield 70, 3) := by decide +kernel
theorem dX5_readPlan_84 : decode cX5_readPlan 84 = .ok (.ireturn, 1) := by decide +kernel
theorem dX5_readPlan_85 : decode cX5_readPlan 85 = .ok (.iload_n 3, 1) := by decide +kernel
theorem dX5_readPlan_86 : decode cX5_readPlan 86 = .ok (.ifCond .eq 17, 3) := by decide +kernel
theorem dX5_readPlan_89 : decode cX5_readPlan 89 = .ok (.iload 4, 2) := by decide +kernel
theorem dX5_readPlan_91 : decode cX5_readPlan 91 = .ok (.bipush 44, 2) := by decide +kernel
theorem dX5_readPlan_93 : decode cX5_readPlan 93 = .ok (.if_icmp .eq 18, 3) := by decide +kernel
theorem dX5_readPlan_96 : decode cX5_readPlan 96 = .ok (.iload 4, 2) := by decide +kernel
theorem dX5_readPlan_98 : decode cX5_readPlan 98 = .ok (.bipush 59, 2) := by decide +kernel
theorem dX5_readPlan_100 : decode cX5_readPlan 100 = .ok (.if_icmp .eq 11, 3) := by decide +kernel
theorem dX5_readPlan_103 : decode cX5_readPlan 103 = .ok (.aload_n 0, 1) := by decide +kernel
theorem dX5_readPlan_104 : decode cX5_readPlan 104 = .ok (.getfield 15, 3) := by decide +kernel
theorem dX5_readPlan_107 : decode cX5_readPlan 107 = .ok (.invokestatic 45, 3) := by decide +kernel
theorem dX5_readPlan_110 : decode cX5_readPlan 110 = .ok (.ireturn, 1) := by decide +kernel
theorem dX5_readPlan_111 : decode cX5_readPlan 111 = .ok (.iload 4, 2) := by decide +kernel
theorem dX5_readPlan_113 : decode cX5_readPlan 113 = .ok (.bipush 44, 2) := by decide +kernel
theorem dX5_readPlan_115 : decode cX5_readPlan 115 = .ok (.if_icmp .ne 13, 3) := by decide +kernel
theorem dX5_readPlan_118 : decode cX5_readPlan 118 = .ok (.aload_n 0, 1) := by decide +kernel
theorem dX5_readPlan_119 : decode cX5_readPlan 119 = .ok (.dup, 1) := by decide +kernel
theorem dX5_readPlan_120 : decode cX5_readPlan 120 = .ok (.getfield 15, 3) := by decide +kernel
theorem dX5_readPlan_123 : decode cX5_readPlan 123 = .ok (.iconst 1, 1) := by decide +kernel
theorem dX5_readPlan_124 : decode cX5_readPlan 124 = .ok (.iadd, 1) := by decide +kernel
theorem dX5_readPlan_125 : decode cX5_readPlan 125 = .ok (.putfield 15, 3) := by decide +kernel
theorem dX5_readPlan_128 : decode cX5_readPlan 128 = .ok (.iinc 3 (-1), 3) := by decide +kernel
theorem dX5_readPlan_131 : decode cX5_readPlan 131 = .ok (.goto (-119), 3) := by decide +kernel
theorem dX5_readPlan_134 : decode cX5_readPlan 134 = .ok (.aload_n 0, 1) := by decide +kernel
theorem dX5_readPlan_135 : decode cX5_readPlan 135 = .ok (.getfield 15, 3) := by decide +kernel
theorem dX5_readPlan_138 : decode cX5_readPlan 138 = .ok (.invokestatic 45, 3) := by decide +kernel
theorem dX5_readPlan_141 : decode cX5_readPlan 141 = .ok (.ireturn, 1) := by decide +kernel
set_option maxRecDepth 20000 in
theorem ggX5_readAsking_X5_look : GoodIn wsX5_readAsking wsX5_look := goodIn_r _ [6, 1, 7, 8, 9, 10, 11, 5, 12, 21, 22, 23] rfl (by decide +kernel)
set_option maxRecDepth 20000 in
theorem gX5_readAsking_X5_look : GoodIn wsX5_readAsking (wsV RX5 35 RX5 yX5_look wsX5_look) := goodIn_app (goodIn_of _ (by decide +kernel)) ggX5_readAsking_X5_look
set_option maxRecDepth 20000 in
theorem ggX5_readAsking_X2_add : GoodIn wsX5_readAsking wsX2_add := goodIn_r _ [17, 18, 19, 20, 24, 25, 26, 27] rfl (by decide +kernel)
set_option maxRecDepth 20000 in
theorem gX5_readAsking_X2_add : GoodIn wsX5_readAsking (wsV RX5 71 RX2 yX2_add wsX2_add) := goodIn_app (goodIn_of _ (by decide +kernel)) ggX5_readAsking_X2_add
theorem dX5_readAsking_0 : decode cX5_readAsking 0 = .ok (.aload_n 0, 1) := by decide +kernel
theorem dX5_readAsking_1 : decode cX5_readAsking 1 = .ok (.invokevirtual 35, 3) := by decide +kernel
theorem dX5_readAsking_4 : decode cX5_readAsking 4 = .ok (.bipush 48, 2) := by decide +kernel
theorem dX5_readAsking_6 : decode cX5_readAsking 6 = .ok (.isub, 1) := by decide +kernel
theorem dX5_readAsking_7 : decode cX5_readAsking 7 = .ok (.istore_n 3, 1) := by decide +kernel
theorem dX5_readAsking_8 : decode cX5_readAsking 8 = .ok (.iload_n 3, 1) := by decide +kernel
theorem dX5_readAsking_9 : decode cX5_readAsking 9 = .ok (.ifCond .lt 8, 3) := by decide +kernel
theorem dX5_readAsking_12 : decode cX5_readAsking 12 = .ok (.iload_n 3, 1) := by decide +kernel
theorem dX5_readAsking_13 : decode cX5_readAsking 13 = .ok (.iload_n 2, 1) := by decide +kernel
theorem dX5_readAsking_14 : decode cX5_readAsking 14 = .ok (.if_icmp .lt 5, 3) := by decide +kernel
theorem dX5_readAsking_17 : decode cX5_readAsking 17 = .ok (.iconst 0, 1) := by decide +kernel
theorem dX5_readAsking_18 : decode cX5_readAsking 18 = .ok (.ireturn, 1) := by decide +kernel
theorem dX5_readAsking_19 : decode cX5_readAsking 19 = .ok (.aload_n 0, 1) := by decide +kernel
theorem dX5_readAsking_20 : decode cX5_readAsking 20 = .ok (.dup, 1) := by decide +kernel
theorem dX5_readAsking_21 : decode cX5_readAsking 21 = .ok (.getfield 15, 3) := by decide +kernel
theorem dX5_readAsking_24 : decode cX5_readAsking 24 = .ok (.iconst 1, 1) := by decide +kernel
theorem dX5_readAsking_25 : decode cX5_readAsking 25 = .ok (.iadd, 1) := by decide +kernel
theorem dX5_readAsking_26 : decode cX5_readAsking 26 = .ok (.putfield 15, 3) := by decide +kernel
theorem dX5_readAsking_29 : decode cX5_readAsking 29 = .ok (.aload_n 0, 1) := by decide +kernel
theorem dX5_readAsking_30 : decode cX5_readAsking 30 = .ok (.invokevirtual 35, 3) := by decide +kernel
theorem dX5_readAsking_33 : decode cX5_readAsking 33 = .ok (.bipush 62, 2) := by decide +kernel
theorem dX5_readAsking_35 : decode cX5_readAsking 35 = .ok (.if_icmp .eq 5, 3) := by decide +kernel
theorem dX5_readAsking_38 : decode cX5_readAsking 38 = .ok (.iconst 0, 1) := by decide +kernel
theorem dX5_readAsking_39 : decode cX5_readAsking 39 = .ok (.ireturn, 1) := by decide +kernel
theorem dX5_readAsking_40 : decode cX5_readAsking 40 = .ok (.aload_n 0, 1) := by decide +kernel
theorem dX5_readAsking_41 : decode cX5_readAsking 41 = .ok (.dup, 1) := by decide +kernel
theorem dX5_readAsking_42 : decode cX5_readAsking 42 = .ok (.getfield 15, 3) := by decide +kernel
theorem dX5_readAsking_45 : decode cX5_readAsking 45 = .ok (.iconst 1, 1) := by decide +kernel
theorem dX5_readAsking_46 : decode cX5_readAsking 46 = .ok (.iadd, 1) := by decide +kernel
theorem dX5_readAsking_47 : decode cX5_readAsking 47 = .ok (.putfield 15, 3) := by decide +kernel
theorem dX5_readAsking_50 : decode cX5_readAsking 50 = .ok (.aload_n 0, 1) := by decide +kernel
theorem dX5_readAsking_51 : decode cX5_readAsking 51 = .ok (.invokevirtual 35, 3) := by decide +kernel
theorem dX5_readAsking_54 : decode cX5_readAsking 54 = .ok (.bipush 48, 2) := by decide +kernel
theorem dX5_readAsking_56 : decode cX5_readAsking 56 = .ok (.isub, 1) := by decide +kernel
theorem dX5_readAsking_57 : decode cX5_readAsking 57 = .ok (.istore 4, 2) := by decide +kernel
theorem dX5_readAsking_59 : decode cX5_readAsking 59 = .ok (.iload 4, 2) := by decide +kernel
theorem dX5_readAsking_61 : decode cX5_readAsking 61 = .ok (.ifCond .lt 15, 3) := by decide +kernel
theorem dX5_readAsking_64 : decode cX5_readAsking 64 = .ok (.iload 4, 2) := by decide +kernel
theorem dX5_readAsking_66 : decode cX5_readAsking 66 = .ok (.iload_n 2, 1) := by decide +kernel
theorem dX5_readAsking_67 : decode cX5_readAsking 67 = .ok (.if_icmp .ge 9, 3) := by decide +kernel
theorem dX5_readAsking_70 : decode cX5_readAsking 70 = .ok (.iload 4, 2) := by decide +kernel
theorem dX5_readAsking_72 : decode cX5_readAsking 72 = .ok (.iload_n 3, 1) := by decide +kernel
theorem dX5_readAsking_73 : decode cX5_readAsking 73 = .ok (.if_icmp .ne 5, 3) := by decide +kernel
theorem dX5_readAsking_76 : decode cX5_readAsking 76 = .ok (.iconst 0, 1) := by decide +kernel
theorem dX5_readAsking_77 : decode cX5_readAsking 77 = .ok (.ireturn, 1) := by decide +kernel
theorem dX5_readAsking_78 : decode cX5_readAsking 78 = .ok (.aload_n 0, 1) := by decide +kernel
theorem dX5_readAsking_79 : decode cX5_readAsking 79 = .ok (.dup, 1) := by decide +kernel
theorem dX5_readAsking_80 : decode cX5_readAsking 80 = .ok (.getfield 15, 3) := by decide +kernel
theorem dX5_readAsking_83 : decode cX5_readAsking 83 = .ok (.iconst 1, 1) := by decide +kernel
theorem dX5_readAsking_84 : decode cX5_readAsking 84 = .ok (.iadd, 1) := by decide +kernel
theorem dX5_readAsking_85 : decode cX5_readAsking 85 = .ok (.putfield 15, 3) := by decide +kernel
theorem dX5_readAsking_88 : decode cX5_readAsking 88 = .ok (.aload_n 1, 1) := by decide +kernel
theorem dX5_readAsking_89 : decode cX5_readAsking 89 = .ok (.iload_n 3, 1) := by decide +kernel
theorem dX5_readAsking_90 : decode cX5_readAsking 90 = .ok (.iload 4, 2) := by decide +kernel
theorem dX5_readAsking_92 : decode cX5_readAsking 92 = .ok (.invokevirtual 71, 3) := by decide +kernel
theorem dX5_readAsking_95 : decode cX5_readAsking 95 = .ok (.iconst 1, 1) := by decide +kernel
theorem dX5_readAsking_96 : decode cX5_readAsking 96 = .ok (.ireturn, 1) := by decide +kernel
theorem dX5_readNumber_0 : decode cX5_readNumber 0 = .ok (.iconst (-1), 1) := by decide +kernel
theorem dX5_readNumber_1 : decode cX5_readNumber 1 = .ok (.istore_n 1, 1) := by decide +kernel
theorem dX5_readNumber_2 : decode cX5_readNumber 2 = .ok (.aload_n 0, 1) := by decide +kernel
theorem dX5_readNumber_3 : decode cX5_readNumber 3 = .ok (.getfield 15, 3) := by decide +kernel
theorem dX5_readNumber_6 : decode cX5_readNumber 6 = .ok (.aload_n 0, 1) := by decide +kernel
theorem dX5_readNumber_7 : decode cX5_readNumber 7 = .ok (.getfield 9, 3) := by decide +kernel
theorem dX5_readNumber_10 : decode cX5_readNumber 10 = .ok (.if_icmp .ge 72, 3) := by decide +kernel
theorem dX5_readNumber_13 : decode cX5_readNumber 13 = .ok (.aload_n 0, 1) := by decide +kernel
theorem dX5_readNumber_14 : decode cX5_readNumber 14 = .ok (.getfield 18, 3) := by decide +kernel
theorem dX5_readNumber_17 : decode cX5_readNumber 17 = .ok (.aload_n 0, 1) := by decide +kernel
theorem dX5_readNumber_18 : decode cX5_readNumber 18 = .ok (.getfield 15, 3) := by decide +kernel
theorem dX5_readNumber_21 : decode cX5_readNumber 21 = .ok (.caload, 1) := by decide +kernel
theorem dX5_readNumber_22 : decode cX5_readNumber 22 = .ok (.bipush 48, 2) := by decide +kernel
theorem dX5_readNumber_24 : decode cX5_readNumber 24 = .ok (.if_icmp .lt 58, 3) := by decide +kernel
theorem dX5_readNumber_27 : decode cX5_readNumber 27 = .ok (.aload_n 0, 1) := by decide +kernel
theorem dX5_readNumber_28 : decode cX5_readNumber 28 = .ok (.getfield 18, 3) := by decide +kernel
theorem dX5_readNumber_31 : decode cX5_readNumber 31 = .ok (.aload_n 0, 1) := by decide +kernel
theorem dX5_readNumber_32 : decode cX5_readNumber 32 = .ok (.getfield 15, 3) := by decide +kernel
theorem dX5_readNumber_35 : decode cX5_readNumber 35 = .ok (.caload, 1) := by decide +kernel
theorem dX5_readNumber_36 : decode cX5_readNumber 36 = .ok (.bipush 57, 2) := by decide +kernel
theorem dX5_readNumber_38 : decode cX5_readNumber 38 = .ok (.if_icmp .gt 44, 3) := by decide +kernel
theorem dX5_readNumber_41 : decode cX5_readNumber 41 = .ok (.iload_n 1, 1) := by decide +kernel
theorem dX5_readNumber_42 : decode cX5_readNumber 42 = .ok (.iconst 0, 1) := by decide +kernel
theorem dX5_readNumber_43 : decode cX5_readNumber 43 = .ok (.invokestatic 72, 3) := by decide +kernel
theorem dX5_readNumber_46 : decode cX5_readNumber 46 = .ok (.bipush 10, 2) := by decide +kernel
theorem dX5_readNumber_48 : decode cX5_readNumber 48 = .ok (.imul, 1) := by decide +kernel
theorem dX5_readNumber_49 : decode cX5_readNumber 49 = .ok (.aload_n 0, 1) := by decide +kernel
theorem dX5_readNumber_50 : decode cX5_readNumber 50 = .ok (.getfield 18, 3) := by decide +kernel
theorem dX5_readNumber_53 : decode cX5_readNumber 53 = .ok (.aload_n 0, 1) := by decide +kernel
theorem dX5_readNumber_54 : decode cX5_readNumber 54 = .ok (.getfield 15, 3) := by decide +kernel
theorem dX5_readNumber_57 : decode cX5_readNumber 57 = .ok (.caload, 1) := by decide +kernel
theorem dX5_readNumber_58 : decode cX5_readNumber 58 = .ok (.iadd, 1) := by decide +kernel
theorem dX5_readNumber_59 : decode cX5_readNumber 59 = .ok (.bipush 48, 2) := by decide +kernel
theorem dX5_readNumber_61 : decode cX5_readNumber 61 = .ok (.isub, 1) := by decide +kernel
theorem dX5_readNumber_62 : decode cX5_readNumber 62 = .ok (.sipush 10000, 3) := by decide +kernel
theorem dX5_readNumber_65 : decode cX5_readNumber 65 = .ok (.invokestatic 78, 3) := by decide +kernel
theorem dX5_readNumber_68 : decode cX5_readNumber 68 = .ok (.istore_n 1, 1) := by decide +kernel
theorem dX5_readNumber_69 : decode cX5_readNumber 69 = .ok (.aload_n 0, 1) := by decide +kernel
theorem dX5_readNumber_70 : decode cX5_readNumber 70 = .ok (.dup, 1) := by decide +kernel
theorem dX5_readNumber_71 : decode cX5_readNumber 71 = .ok (.getfield 15, 3) := by decide +kernel
theorem dX5_readNumber_74 : decode cX5_readNumber 74 = .ok (.iconst 1, 1) := by decide +kernel
theorem dX5_readNumber_75 : decode cX5_readNumber 75 = .ok (.iadd, 1) := by decide +kernel
theorem dX5_readNumber_76 : decode cX5_readNumber 76 = .ok (.putfield 15, 3) := by decide +kernel
theorem dX5_readNumber_79 : decode cX5_readNumber 79 = .ok (.goto (-77), 3) := by decide +kernel
theorem dX5_readNumber_82 : decode cX5_readNumber 82 = .ok (.iload_n 1, 1) := by decide +kernel
theorem dX5_readNumber_83 : decode cX5_readNumber 83 = .ok (.ireturn, 1) := by decide +kernel
set_option maxRecDepth 20000 in
theorem ggX5_look_X5_skipBlanks : GoodIn wsX5_look wsX5_skipBlanks := goodIn_r _ [8, 1, 2, 3, 9, 10, 11] rfl (by decide +kernel)
set_option maxRecDepth 20000 in
theorem gX5_look_X5_skipBlanks : GoodIn wsX5_look (wsV RX5 48 RX5 yX5_skipBlanks wsX5_skipBlanks) := goodIn_app (goodIn_of _ (by decide +kernel)) ggX5_look_X5_skipBlanks
theorem dX5_look_0 : decode cX5_look 0 = .ok (.aload_n 0, 1) := by decide +kernel
theorem dX5_look_1 : decode cX5_look 1 = .ok (.invokevirtual 48, 3) := by decide +kernel
theorem dX5_look_4 : decode cX5_look 4 = .ok (.aload_n 0, 1) := by decide +kernel
theorem dX5_look_5 : decode cX5_look 5 = .ok (.getfield 15, 3) := by decide +kernel
theorem dX5_look_8 : decode cX5_look 8 = .ok (.aload_n 0, 1) := by decide +kernel
theorem dX5_look_9 : decode cX5_look 9 = .ok (.getfield 9, 3) := by decide +kernel
theorem dX5_look_12 : decode cX5_look 12 = .ok (.if_icmp .ge 15, 3) := by decide +kernel
theorem dX5_look_15 : decode cX5_look 15 = .ok (.aload_n 0, 1) := by decide +kernel
theorem dX5_look_16 : decode cX5_look 16 = .ok (.getfield 18, 3) := by decide +kernel
theorem dX5_look_19 : decode cX5_look 19 = .ok (.aload_n 0, 1) := by decide +kernel
theorem dX5_look_20 : decode cX5_look 20 = .ok (.getfield 15, 3) := by decide +kernel
theorem dX5_look_23 : decode cX5_look 23 = .ok (.caload, 1) := by decide +kernel
theorem dX5_look_24 : decode cX5_look 24 = .ok (.goto 4, 3) := by decide +kernel
theorem dX5_look_27 : decode cX5_look 27 = .ok (.iconst 0, 1) := by decide +kernel
theorem dX5_look_28 : decode cX5_look 28 = .ok (.ireturn, 1) := by decide +kernel
theorem dX5_skipBlanks_0 : decode cX5_skipBlanks 0 = .ok (.aload_n 0, 1) := by decide +kernel
theorem dX5_skipBlanks_1 : decode cX5_skipBlanks 1 = .ok (.getfield 15, 3) := by decide +kernel
theorem dX5_skipBlanks_4 : decode cX5_skipBlanks 4 = .ok (.aload_n 0, 1) := by decide +kernel
theorem dX5_skipBlanks_5 : decode cX5_skipBlanks 5 = .ok (.getfield 9, 3) := by decide +kernel
theorem dX5_skipBlanks_8 : decode cX5_skipBlanks 8 = .ok (.if_icmp .ge 30, 3) := by decide +kernel
theorem dX5_skipBlanks_11 : decode cX5_skipBlanks 11 = .ok (.aload_n 0, 1) := by decide +kernel
theorem dX5_skipBlanks_12 : decode cX5_skipBlanks 12 = .ok (.getfield 18, 3) := by decide +kernel
theorem dX5_skipBlanks_15 : decode cX5_skipBlanks 15 = .ok (.aload_n 0, 1) := by decide +kernel
theorem dX5_skipBlanks_16 : decode cX5_skipBlanks 16 = .ok (.getfield 15, 3) := by decide +kernel
theorem dX5_skipBlanks_19 : decode cX5_skipBlanks 19 = .ok (.caload, 1) := by decide +kernel
theorem dX5_skipBlanks_20 : decode cX5_skipBlanks 20 = .ok (.bipush 32, 2) := by decide +kernel
theorem dX5_skipBlanks_22 : decode cX5_skipBlanks 22 = .ok (.if_icmp .ne 16, 3) := by decide +kernel
theorem dX5_skipBlanks_25 : decode cX5_skipBlanks 25 = .ok (.aload_n 0, 1) := by decide +kernel
theorem dX5_skipBlanks_26 : decode cX5_skipBlanks 26 = .ok (.dup, 1) := by decide +kernel
theorem dX5_skipBlanks_27 : decode cX5_skipBlanks 27 = .ok (.getfield 15, 3) := by decide +kernel
theorem dX5_skipBlanks_30 : decode cX5_skipBlanks 30 = .ok (.iconst 1, 1) := by decide +kernel
theorem dX5_skipBlanks_31 : decode cX5_skipBlanks 31 = .ok (.iadd, 1) := by decide +kernel
theorem dX5_skipBlanks_32 : decode cX5_skipBlanks 32 = .ok (.putfield 15, 3) := by decide +kernel
theorem dX5_skipBlanks_35 : decode cX5_skipBlanks 35 = .ok (.goto (-35), 3) := by decide +kernel
theorem dX5_skipBlanks_38 : decode cX5_skipBlanks 38 = .ok (.return_, 1) := by decide +kernel
theorem dX5_fault_0 : decode cX5_fault 0 = .ok (.bipush (-20), 2) := by decide +kernel
theorem dX5_fault_2 : decode cX5_fault 2 = .ok (.iload_n 0, 1) := by decide +kernel
theorem dX5_fault_3 : decode cX5_fault 3 = .ok (.isub, 1) := by decide +kernel
theorem dX5_fault_4 : decode cX5_fault 4 = .ok (.ireturn, 1) := by decide +kernel
set_option maxRecDepth 20000 in
theorem ggX6_init_X2_init : GoodIn wsX6_init wsX2_init := goodIn_r _ [13, 14, 2, 3, 15, 16, 17, 18, 19, 45, 46, 47, 48] rfl (by decide +kernel)
set_option maxRecDepth 20000 in
theorem gX6_init_X2_init_n23 : GoodIn wsX6_init (wsX2_init) := ggX6_init_X2_init
set_option maxRecDepth 20000 in
theorem ggX6_init_X0_newRow : GoodIn wsX6_init wsX0_newRow := goodIn_r _ [23, 24, 25, 26, 27, 28, 29, 22, 30, 31, 32, 33, 2, 3, 34, 35, 36, 37, 17, 38, 39, 49, 50, 51, 52, 53] rfl (by decide +kernel)
set_option maxRecDepth 20000 in
theorem gX6_init_X0_newRow : GoodIn wsX6_init (va_wsS RX6 28 yX0_newRow wsX0_newRow) := goodIn_app (goodIn_of _ (by decide +kernel)) ggX6_init_X0_newRow
theorem dX6_init_0 : decode cX6_init 0 = .ok (.aload_n 0, 1) := by decide +kernel
theorem dX6_init_1 : decode cX6_init 1 = .ok (.invokespecial 3, 3) := by decide +kernel
theorem dX6_init_4 : decode cX6_init 4 = .ok (.aload_n 0, 1) := by decide +kernel
theorem dX6_init_5 : decode cX6_init 5 = .ok (.iconst 0, 1) := by decide +kernel
theorem dX6_init_6 : decode cX6_init 6 = .ok (.putfield 9, 3) := by decide +kernel
theorem dX6_init_9 : decode cX6_init 9 = .ok (.aload_n 0, 1) := by decide +kernel
theorem dX6_init_10 : decode cX6_init 10 = .ok (.iconst 0, 1) := by decide +kernel
theorem dX6_init_11 : decode cX6_init 11 = .ok (.putfield 15, 3) := by decide +kernel
theorem dX6_init_14 : decode cX6_init 14 = .ok (.aload_n 0, 1) := by decide +kernel
theorem dX6_init_15 : decode cX6_init 15 = .ok (.iconst 0, 1) := by decide +kernel
theorem dX6_init_16 : decode cX6_init 16 = .ok (.putfield 18, 3) := by decide +kernel
theorem dX6_init_19 : decode cX6_init 19 = .ok (.aload_n 0, 1) := by decide +kernel
theorem dX6_init_20 : decode cX6_init 20 = .ok (.new 21, 3) := by decide +kernel
theorem dX6_init_23 : decode cX6_init 23 = .ok (.dup, 1) := by decide +kernel
theorem dX6_init_24 : decode cX6_init 24 = .ok (.invokespecial 23, 3) := by decide +kernel
theorem dX6_init_27 : decode cX6_init 27 = .ok (.putfield 24, 3) := by decide +kernel
theorem dX6_init_30 : decode cX6_init 30 = .ok (.aload_n 0, 1) := by decide +kernel
theorem dX6_init_31 : decode cX6_init 31 = .ok (.bipush 9, 2) := by decide +kernel
theorem dX6_init_33 : decode cX6_init 33 = .ok (.invokestatic 28, 3) := by decide +kernel
theorem dX6_init_36 : decode cX6_init 36 = .ok (.putfield 34, 3) := by decide +kernel
theorem dX6_init_39 : decode cX6_init 39 = .ok (.return_, 1) := by decide +kernel
set_option maxRecDepth 20000 in
theorem ggX6_search_X2_takeFrom : GoodIn wsX6_search wsX2_takeFrom := goodIn_r _ [11, 12, 13, 14, 15, 16, 17, 18, 19, 89, 90, 91, 92] rfl (by decide +kernel)
set_option maxRecDepth 20000 in
theorem gX6_search_X2_takeFrom : GoodIn wsX6_search (wsV RX6 38 RX2 yX2_takeFrom wsX2_takeFrom) := goodIn_app (goodIn_of _ (by decide +kernel)) ggX6_search_X2_takeFrom
set_option maxRecDepth 20000 in
theorem ggX6_search_X0_takeFrom : GoodIn wsX6_search wsX0_takeFrom := goodIn_r _ [24, 25, 26, 27, 28, 29, 16, 17, 18, 30, 84, 85, 86, 87, 88] rfl (by decide +kernel)
set_option maxRecDepth 20000 in
theorem gX6_search_X0_takeFrom : GoodIn wsX6_search (wsV RX6 42 RX0 yX0_takeFrom wsX0_takeFrom) := goodIn_app (goodIn_of _ (by decide +kernel)) ggX6_search_X0_takeFrom
set_option maxRecDepth 20000 in
theorem ggX6_search_X6_choose : GoodIn wsX6_search wsX6_choose := goodIn_r _ [35, 4, 36, 5, 37, 1, 38, 39, 40, 34, 41, 6, 42, 43, 44, 45, 23, 46, 26, 27, 30, 47, 48, 49, 50, 51, 52, 53, 28, 54, 55, 56, 57, 2, 3, 58, 59, 60, 61, 62, 63, 64, 65, 66, 10, 67, 13, 20, 21, 22, 24, 25, 29, 16, 17, 18, 68, 69, 70, 71, 14, 19, 72, 73, 74, 75, 76, 77, 78, 31, 32, 33, 79, 80, 81, 82, 83, 89, 90, 91, 92, 84, 85, 86, 87, 88] rfl (by decide +kernel)
set_option maxRecDepth 20000 in
theorem gX6_search_X6_choose : GoodIn wsX6_search (wsV RX6 48 RX6 yX6_choose wsX6_choose) := goodIn_app (goodIn_of _ (by decide +kernel)) ggX6_search_X6_choose
theorem dX6_search_0 : decode cX6_search 0 = .ok (.aload_n 0, 1) := by decide +kernel
theorem dX6_search_1 : decode cX6_search 1 = .ok (.iload_n 3, 1) := by decide +kernel
theorem dX6_search_2 : decode cX6_search 2 = .ok (.putfield 18, 3) := by decide +kernel
theorem dX6_search_5 : decode cX6_search 5 = .ok (.aload_n 0, 1) := by decide +kernel
theorem dX6_search_6 : decode cX6_search 6 = .ok (.iconst (-1), 1) := by decide +kernel
theorem dX6_search_7 : decode cX6_search 7 = .ok (.putfield 9, 3) := by decide +kernel
theorem dX6_search_10 : decode cX6_search 10 = .ok (.aload_n 0, 1) := by decide +kernel
theorem dX6_search_11 : decode cX6_search 11 = .ok (.iconst 0, 1) := by decide +kernel
theorem dX6_search_12 : decode cX6_search 12 = .ok (.putfield 15, 3) := by decide +kernel
theorem dX6_search_15 : decode cX6_search 15 = .ok (.aload_n 0, 1) := by decide +kernel
theorem dX6_search_16 : decode cX6_search 16 = .ok (.getfield 24, 3) := by decide +kernel
theorem dX6_search_19 : decode cX6_search 19 = .ok (.aload_n 2, 1) := by decide +kernel
theorem dX6_search_20 : decode cX6_search 20 = .ok (.invokevirtual 38, 3) := by decide +kernel
theorem dX6_search_23 : decode cX6_search 23 = .ok (.aload_n 0, 1) := by decide +kernel
theorem dX6_search_24 : decode cX6_search 24 = .ok (.getfield 34, 3) := by decide +kernel
theorem dX6_search_27 : decode cX6_search 27 = .ok (.iconst 0, 1) := by decide +kernel
theorem dX6_search_28 : decode cX6_search 28 = .ok (.aaload, 1) := by decide +kernel
theorem dX6_search_29 : decode cX6_search 29 = .ok (.aload_n 1, 1) := by decide +kernel
theorem dX6_search_30 : decode cX6_search 30 = .ok (.invokevirtual 42, 3) := by decide +kernel
theorem dX6_search_33 : decode cX6_search 33 = .ok (.aload_n 0, 1) := by decide +kernel
theorem dX6_search_34 : decode cX6_search 34 = .ok (.iconst 0, 1) := by decide +kernel
theorem dX6_search_35 : decode cX6_search 35 = .ok (.iconst 1, 1) := by decide +kernel
theorem dX6_search_36 : decode cX6_search 36 = .ok (.aload_n 1, 1) := by decide +kernel
theorem dX6_search_37 : decode cX6_search 37 = .ok (.getfield 45, 3) := by decide +kernel
theorem dX6_search_40 : decode cX6_search 40 = .ok (.ishl, 1) := by decide +kernel
theorem dX6_search_41 : decode cX6_search 41 = .ok (.iconst 1, 1) := by decide +kernel
theorem dX6_search_42 : decode cX6_search 42 = .ok (.isub, 1) := by decide +kernel
theorem dX6_search_43 : decode cX6_search 43 = .ok (.iconst 1, 1) := by decide +kernel
theorem dX6_search_44 : decode cX6_search 44 = .ok (.iload_n 3, 1) := by decide +kernel
theorem dX6_search_45 : decode cX6_search 45 = .ok (.ishl, 1) := by decide +kernel
theorem dX6_search_46 : decode cX6_search 46 = .ok (.iconst (-1), 1) := by decide +kernel
theorem dX6_search_47 : decode cX6_search 47 = .ok (.ixor, 1) := by decide +kernel
theorem dX6_search_48 : decode cX6_search 48 = .ok (.iand, 1) := by decide +kernel
theorem dX6_search_49 : decode cX6_search 49 = .ok (.iconst 0, 1) := by decide +kernel
theorem dX6_search_50 : decode cX6_search 50 = .ok (.invokevirtual 48, 3) := by decide +kernel
theorem dX6_search_53 : decode cX6_search 53 = .ok (.return_, 1) := by decide +kernel
theorem dX6_timeFor_0 : decode cX6_timeFor 0 = .ok (.aload_n 0, 1) := by decide +kernel
theorem dX6_timeFor_1 : decode cX6_timeFor 1 = .ok (.getfield 15, 3) := by decide +kernel
theorem dX6_timeFor_4 : decode cX6_timeFor 4 = .ok (.getstatic 52, 3) := by decide +kernel
theorem dX6_timeFor_7 : decode cX6_timeFor 7 = .ok (.iload_n 1, 1) := by decide +kernel
theorem dX6_timeFor_8 : decode cX6_timeFor 8 = .ok (.iaload, 1) := by decide +kernel
theorem dX6_timeFor_9 : decode cX6_timeFor 9 = .ok (.idiv, 1) := by decide +kernel
theorem dX6_timeFor_10 : decode cX6_timeFor 10 = .ok (.bipush 10, 2) := by decide +kernel
theorem dX6_timeFor_12 : decode cX6_timeFor 12 = .ok (.irem, 1) := by decide +kernel
theorem dX6_timeFor_13 : decode cX6_timeFor 13 = .ok (.ireturn, 1) := by decide +kernel
set_option maxRecDepth 20000 in
theorem ggX6_choose_X6_askAll : GoodIn wsX6_choose wsX6_askAll := goodIn_r _ [10, 11, 5, 12, 13, 14, 15, 16, 17, 18, 19, 20, 21, 22, 23, 24, 25, 26, 27, 28, 81, 82, 83, 84, 85, 72, 73, 74, 75, 76] rfl (by decide +kernel)
set_option maxRecDepth 20000 in
theorem gX6_choose_X6_askAll : GoodIn wsX6_choose (wsV RX6 57 RX6 yX6_askAll wsX6_askAll) := goodIn_app (goodIn_of _ (by decide +kernel)) ggX6_choose_X6_askAll
set_option maxRecDepth 20000 in
theorem ggX6_choose_X6_keepBetter : GoodIn wsX6_choose wsX6_keepBetter := goodIn_r _ [32, 33, 34, 72, 73, 74, 75, 76] rfl (by decide +kernel)
set_option maxRecDepth 20000 in
theorem gX6_choose_X6_keepBetter : GoodIn wsX6_choose (wsV RX6 64 RX6 yX6_keepBetter wsX6_keepBetter) := goodIn_app (goodIn_of _ (by decide +kernel)) ggX6_choose_X6_keepBetter
set_option maxRecDepth 20000 in
theorem ggX6_choose_X6_worthAsking : GoodIn wsX6_choose wsX6_worthAsking := goodIn_r _ [38, 1, 39, 5, 40, 41, 42, 43, 44, 45, 46, 72, 73, 74, 75, 76, 77, 78, 79, 80] rfl (by decide +kernel)
set_option maxRecDepth 20000 in
theorem gX6_choose_X6_worthAsking : GoodIn wsX6_choose (wsV RX6 68 RX6 yX6_worthAsking wsX6_worthAsking) := goodIn_app (goodIn_of _ (by decide +kernel)) ggX6_choose_X6_worthAsking
set_option maxRecDepth 20000 in
theorem ggX6_choose_X0_takeFrom : GoodIn wsX6_choose wsX0_takeFrom := goodIn_r _ [50, 51, 18, 19, 28, 52, 53, 54, 55, 20, 81, 82, 83, 84, 85] rfl (by decide +kernel)
set_option maxRecDepth 20000 in
theorem gX6_choose_X0_takeFrom : GoodIn wsX6_choose (wsV RX6 42 RX0 yX0_takeFrom wsX0_takeFrom) := goodIn_app (goodIn_of _ (by decide +kernel)) ggX6_choose_X0_takeFrom
set_option maxRecDepth 20000 in
theorem ggX6_choose_X2_goOn : GoodIn wsX6_choose wsX2_goOn := goodIn_r _ [59, 60, 61, 62, 14, 15, 16, 17, 18, 19, 20, 21, 22, 23, 24, 25, 26, 27, 28, 63, 64, 65, 44, 66, 67, 68, 42, 43, 45, 46, 77, 78, 79, 80, 81, 82, 83, 84, 85] rfl (by decide +kernel)
set_option maxRecDepth 20000 in
theorem gX6_choose_X2_goOn : GoodIn wsX6_choose (wsV RX6 72 RX2 yX2_goOn wsX2_goOn) := goodIn_app (goodIn_of _ (by decide +kernel)) ggX6_choose_X2_goOn
set_option maxRecDepth 20000 in
theorem ggX6_choose_X6_choose : GoodIn wsX6_choose wsX6_choose := goodIn_r _ [0, 1, 2, 3, 4, 5, 6, 7, 8, 9, 10, 11, 12, 13, 14, 15, 16, 17, 18, 19, 20, 21, 22, 23, 24, 25, 26, 27, 28, 29, 30, 31, 32, 33, 34, 35, 36, 37, 38, 39, 40, 41, 42, 43, 44, 45, 46, 47, 48, 49, 50, 51, 52, 53, 54, 55, 56, 57, 58, 59, 60, 61, 62, 63, 64, 65, 66, 67, 68, 69, 70, 71, 72, 73, 74, 75, 76, 77, 78, 79, 80, 81, 82, 83, 84, 85] rfl (by decide +kernel)
set_option maxRecDepth 20000 in
theorem gX6_choose_X6_choose : GoodIn wsX6_choose (wsV RX6 48 RX6 yX6_choose wsX6_choose) := goodIn_app (goodIn_of _ (by decide +kernel)) ggX6_choose_X6_choose
theorem dX6_choose_0 : decode cX6_choose 0 = .ok (.iload_n 1, 1) := by decide +kernel
theorem dX6_choose_1 : decode cX6_choose 1 = .ok (.aload_n 0, 1) := by decide +kernel
theorem dX6_choose_2 : decode cX6_choose 2 = .ok (.getfield 24, 3) := by decide +kernel
theorem dX6_choose_5 : decode cX6_choose 5 = .ok (.getfield 56, 3) := by decide +kernel
theorem dX6_choose_8 : decode cX6_choose 8 = .ok (.if_icmp .ge 14, 3) := by decide +kernel
theorem dX6_choose_11 : decode cX6_choose 11 = .ok (.iload_n 1, 1) := by decide +kernel
theorem dX6_choose_12 : decode cX6_choose 12 = .ok (.iconst 1, 1) := by decide +kernel
theorem dX6_choose_13 : decode cX6_choose 13 = .ok (.iadd, 1) := by decide +kernel
theorem dX6_choose_14 : decode cX6_choose 14 = .ok (.aload_n 0, 1) := by decide +kernel
theorem dX6_choose_15 : decode cX6_choose 15 = .ok (.getfield 34, 3) := by decide +kernel
theorem dX6_choose_18 : decode cX6_choose 18 = .ok (.arraylength, 1) := by decide +kernel
theorem dX6_choose_19 : decode cX6_choose 19 = .ok (.if_icmp .lt 40, 3) := by decide +kernel
theorem dX6_choose_22 : decode cX6_choose 22 = .ok (.iload_n 3, 1) := by decide +kernel
theorem dX6_choose_23 : decode cX6_choose 23 = .ok (.aload_n 0, 1) := by decide +kernel
theorem dX6_choose_24 : decode cX6_choose 24 = .ok (.aload_n 0, 1) := by decide +kernel
theorem dX6_choose_25 : decode cX6_choose 25 = .ok (.getfield 34, 3) := by decide +kernel
theorem dX6_choose_28 : decode cX6_choose 28 = .ok (.iload_n 1, 1) := by decide +kernel
theorem dX6_choose_29 : decode cX6_choose 29 = .ok (.aaload, 1) := by decide +kernel
theorem dX6_choose_30 : decode cX6_choose 30 = .ok (.iload_n 2, 1) := by decide +kernel
theorem dX6_choose_31 : decode cX6_choose 31 = .ok (.iload_n 1, 1) := by decide +kernel
theorem dX6_choose_32 : decode cX6_choose 32 = .ok (.invokevirtual 57, 3) := by decide +kernel
theorem dX6_choose_35 : decode cX6_choose 35 = .ok (.iadd, 1) := by decide +kernel
theorem dX6_choose_36 : decode cX6_choose 36 = .ok (.istore 4, 2) := by decide +kernel
theorem dX6_choose_38 : decode cX6_choose 38 = .ok (.aload_n 0, 1) := by decide +kernel
theorem dX6_choose_39 : decode cX6_choose 39 = .ok (.aload_n 0, 1) := by decide +kernel
theorem dX6_choose_40 : decode cX6_choose 40 = .ok (.getfield 34, 3) := by decide +kernel
theorem dX6_choose_43 : decode cX6_choose 43 = .ok (.iload_n 1, 1) := by decide +kernel
theorem dX6_choose_44 : decode cX6_choose 44 = .ok (.aaload, 1) := by decide +kernel
theorem dX6_choose_45 : decode cX6_choose 45 = .ok (.getfield 61, 3) := by decide +kernel
theorem dX6_choose_48 : decode cX6_choose 48 = .ok (.aload_n 0, 1) := by decide +kernel
theorem dX6_choose_49 : decode cX6_choose 49 = .ok (.getfield 18, 3) := by decide +kernel
theorem dX6_choose_52 : decode cX6_choose 52 = .ok (.iaload, 1) := by decide +kernel
theorem dX6_choose_53 : decode cX6_choose 53 = .ok (.iload 4, 2) := by decide +kernel
theorem dX6_choose_55 : decode cX6_choose 55 = .ok (.invokevirtual 64, 3) := by decide +kernel
theorem dX6_choose_58 : decode cX6_choose 58 = .ok (.return_, 1) := by decide +kernel
theorem dX6_choose_59 : decode cX6_choose 59 = .ok (.aload_n 0, 1) := by decide +kernel
theorem dX6_choose_60 : decode cX6_choose 60 = .ok (.getfield 34, 3) := by decide +kernel
theorem dX6_choose_63 : decode cX6_choose 63 = .ok (.iload_n 1, 1) := by decide +kernel
theorem dX6_choose_64 : decode cX6_choose 64 = .ok (.iconst 1, 1) := by decide +kernel
theorem dX6_choose_65 : decode cX6_choose 65 = .ok (.iadd, 1) := by decide +kernel
theorem dX6_choose_66 : decode cX6_choose 66 = .ok (.aaload, 1) := by decide +kernel
theorem dX6_choose_67 : decode cX6_choose 67 = .ok (.astore 4, 2) := by decide +kernel
theorem dX6_choose_69 : decode cX6_choose 69 = .ok (.iload_n 2, 1) := by decide +kernel
theorem dX6_choose_70 : decode cX6_choose 70 = .ok (.aload_n 0, 1) := by decide +kernel
theorem dX6_choose_71 : decode cX6_choose 71 = .ok (.iload_n 1, 1) := by decide +kernel
theorem dX6_choose_72 : decode cX6_choose 72 = .ok (.invokevirtual 68, 3) := by decide +kernel
theorem dX6_choose_75 : decode cX6_choose 75 = .ok (.iand, 1) := by decide +kernel
theorem dX6_choose_76 : decode cX6_choose 76 = .ok (.istore 5, 2) := by decide +kernel
theorem dX6_choose_78 : decode cX6_choose 78 = .ok (.iconst 0, 1) := by decide +kernel
theorem dX6_choose_79 : decode cX6_choose 79 = .ok (.istore 6, 2) := by decide +kernel
theorem dX6_choose_81 : decode cX6_choose 81 = .ok (.iload 6, 2) := by decide +kernel
theorem dX6_choose_83 : decode cX6_choose 83 = .ok (.iload 5, 2) := by decide +kernel
theorem dX6_choose_85 : decode cX6_choose 85 = .ok (.if_icmp .gt 68, 3) := by decide +kernel
theorem dX6_choose_88 : decode cX6_choose 88 = .ok (.iload 6, 2) := by decide +kernel
theorem dX6_choose_90 : decode cX6_choose 90 = .ok (.iload 5, 2) := by decide +kernel
theorem dX6_choose_92 : decode cX6_choose 92 = .ok (.iconst (-1), 1) := by decide +kernel
theorem dX6_choose_93 : decode cX6_choose 93 = .ok (.ixor, 1) := by decide +kernel
theorem dX6_choose_94 : decode cX6_choose 94 = .ok (.iand, 1) := by decide +kernel
theorem dX6_choose_95 : decode cX6_choose 95 = .ok (.ifCond .ne 52, 3) := by decide +kernel
theorem dX6_choose_98 : decode cX6_choose 98 = .ok (.aload 4, 2) := by decide +kernel
theorem dX6_choose_100 : decode cX6_choose 100 = .ok (.aload_n 0, 1) := by decide +kernel
theorem dX6_choose_101 : decode cX6_choose 101 = .ok (.getfield 34, 3) := by decide +kernel
theorem dX6_choose_104 : decode cX6_choose 104 = .ok (.iload_n 1, 1) := by decide +kernel
theorem dX6_choose_105 : decode cX6_choose 105 = .ok (.aaload, 1) := by decide +kernel
theorem dX6_choose_106 : decode cX6_choose 106 = .ok (.invokevirtual 42, 3) := by decide +kernel
theorem dX6_choose_109 : decode cX6_choose 109 = .ok (.aload_n 0, 1) := by decide +kernel
theorem dX6_choose_110 : decode cX6_choose 110 = .ok (.aload 4, 2) := by decide +kernel
theorem dX6_choose_112 : decode cX6_choose 112 = .ok (.iload 6, 2) := by decide +kernel
theorem dX6_choose_114 : decode cX6_choose 114 = .ok (.iload_n 1, 1) := by decide +kernel
theorem dX6_choose_115 : decode cX6_choose 115 = .ok (.invokevirtual 57, 3) := by decide +kernel
theorem dX6_choose_118 : decode cX6_choose 118 = .ok (.istore 7, 2) := by decide +kernel
theorem dX6_choose_120 : decode cX6_choose 120 = .ok (.aload_n 0, 1) := by decide +kernel
theorem dX6_choose_121 : decode cX6_choose 121 = .ok (.getfield 24, 3) := by decide +kernel
theorem dX6_choose_124 : decode cX6_choose 124 = .ok (.aload 4, 2) := by decide +kernel
theorem dX6_choose_126 : decode cX6_choose 126 = .ok (.iload_n 1, 1) := by decide +kernel
theorem dX6_choose_127 : decode cX6_choose 127 = .ok (.invokevirtual 72, 3) := by decide +kernel
theorem dX6_choose_130 : decode cX6_choose 130 = .ok (.aload_n 0, 1) := by decide +kernel
theorem dX6_choose_131 : decode cX6_choose 131 = .ok (.iload_n 1, 1) := by decide +kernel
theorem dX6_choose_132 : decode cX6_choose 132 = .ok (.iconst 1, 1) := by decide +kernel
theorem dX6_choose_133 : decode cX6_choose 133 = .ok (.iadd, 1) := by decide +kernel
theorem dX6_choose_134 : decode cX6_choose 134 = .ok (.iload_n 2, 1) := by decide +kernel
theorem dX6_choose_135 : decode cX6_choose 135 = .ok (.iload 6, 2) := by decide +kernel
theorem dX6_choose_137 : decode cX6_choose 137 = .ok (.iconst (-1), 1) := by decide +kernel
theorem dX6_choose_138 : decode cX6_choose 138 = .ok (.ixor, 1) := by decide +kernel
theorem dX6_choose_139 : decode cX6_choose 139 = .ok (.iand, 1) := by decide +kernel
theorem dX6_choose_140 : decode cX6_choose 140 = .ok (.iload_n 3, 1) := by decide +kernel
theorem dX6_choose_141 : decode cX6_choose 141 = .ok (.iload 7, 2) := by decide +kernel
theorem dX6_choose_143 : decode cX6_choose 143 = .ok (.iadd, 1) := by decide +kernel
theorem dX6_choose_144 : decode cX6_choose 144 = .ok (.invokevirtual 48, 3) := by decide +kernel
theorem dX6_choose_147 : decode cX6_choose 147 = .ok (.iinc 6 1, 3) := by decide +kernel
theorem dX6_choose_150 : decode cX6_choose 150 = .ok (.goto (-69), 3) := by decide +kernel
theorem dX6_choose_153 : decode cX6_choose 153 = .ok (.return_, 1) := by decide +kernel
set_option maxRecDepth 20000 in
theorem ggX6_worthAsking_X2_endsWeek : GoodIn wsX6_worthAsking wsX2_endsWeek := goodIn_r _ [9, 10, 16, 17, 18, 19] rfl (by decide +kernel)
set_option maxRecDepth 20000 in
theorem gX6_worthAsking_X2_endsWeek : GoodIn wsX6_worthAsking (wsV RX6 76 RX2 yX2_endsWeek wsX2_endsWeek) := goodIn_app (goodIn_of _ (by decide +kernel)) ggX6_worthAsking_X2_endsWeek
theorem dX6_worthAsking_0 : decode cX6_worthAsking 0 = .ok (.iload_n 1, 1) := by decide +kernel
theorem dX6_worthAsking_1 : decode cX6_worthAsking 1 = .ok (.iconst 1, 1) := by decide +kernel
theorem dX6_worthAsking_2 : decode cX6_worthAsking 2 = .ok (.isub, 1) := by decide +kernel
theorem dX6_worthAsking_3 : decode cX6_worthAsking 3 = .ok (.istore_n 2, 1) := by decide +kernel
theorem dX6_worthAsking_4 : decode cX6_worthAsking 4 = .ok (.iload_n 2, 1) := by decide +kernel
theorem dX6_worthAsking_5 : decode cX6_worthAsking 5 = .ok (.ifCond .lt 30, 3) := by decide +kernel
theorem dX6_worthAsking_8 : decode cX6_worthAsking 8 = .ok (.aload_n 0, 1) := by decide +kernel
theorem dX6_worthAsking_9 : decode cX6_worthAsking 9 = .ok (.getfield 24, 3) := by decide +kernel
theorem dX6_worthAsking_12 : decode cX6_worthAsking 12 = .ok (.iload_n 2, 1) := by decide +kernel
theorem dX6_worthAsking_13 : decode cX6_worthAsking 13 = .ok (.invokevirtual 76, 3) := by decide +kernel
theorem dX6_worthAsking_16 : decode cX6_worthAsking 16 = .ok (.ifCond .ne 19, 3) := by decide +kernel
theorem dX6_worthAsking_19 : decode cX6_worthAsking 19 = .ok (.aload_n 0, 1) := by decide +kernel
theorem dX6_worthAsking_20 : decode cX6_worthAsking 20 = .ok (.getfield 24, 3) := by decide +kernel
theorem dX6_worthAsking_23 : decode cX6_worthAsking 23 = .ok (.getfield 80, 3) := by decide +kernel
theorem dX6_worthAsking_26 : decode cX6_worthAsking 26 = .ok (.iload_n 2, 1) := by decide +kernel
theorem dX6_worthAsking_27 : decode cX6_worthAsking 27 = .ok (.iaload, 1) := by decide +kernel
theorem dX6_worthAsking_28 : decode cX6_worthAsking 28 = .ok (.aload_n 0, 1) := by decide +kernel
theorem dX6_worthAsking_29 : decode cX6_worthAsking 29 = .ok (.getfield 18, 3) := by decide +kernel
theorem dX6_worthAsking_32 : decode cX6_worthAsking 32 = .ok (.if_icmp .ne 6, 3) := by decide +kernel
theorem dX6_worthAsking_35 : decode cX6_worthAsking 35 = .ok (.bipush 31, 2) := by decide +kernel
theorem dX6_worthAsking_37 : decode cX6_worthAsking 37 = .ok (.ireturn, 1) := by decide +kernel
theorem dX6_worthAsking_38 : decode cX6_worthAsking 38 = .ok (.iconst 1, 1) := by decide +kernel
theorem dX6_worthAsking_39 : decode cX6_worthAsking 39 = .ok (.aload_n 0, 1) := by decide +kernel
theorem dX6_worthAsking_40 : decode cX6_worthAsking 40 = .ok (.getfield 24, 3) := by decide +kernel
theorem dX6_worthAsking_43 : decode cX6_worthAsking 43 = .ok (.getfield 83, 3) := by decide +kernel
theorem dX6_worthAsking_46 : decode cX6_worthAsking 46 = .ok (.iload_n 2, 1) := by decide +kernel
theorem dX6_worthAsking_47 : decode cX6_worthAsking 47 = .ok (.iaload, 1) := by decide +kernel
theorem dX6_worthAsking_48 : decode cX6_worthAsking 48 = .ok (.ishl, 1) := by decide +kernel
theorem dX6_worthAsking_49 : decode cX6_worthAsking 49 = .ok (.iconst 1, 1) := by decide +kernel
theorem dX6_worthAsking_50 : decode cX6_worthAsking 50 = .ok (.aload_n 0, 1) := by decide +kernel
theorem dX6_worthAsking_51 : decode cX6_worthAsking 51 = .ok (.getfield 24, 3) := by decide +kernel
theorem dX6_worthAsking_54 : decode cX6_worthAsking 54 = .ok (.getfield 80, 3) := by decide +kernel
theorem dX6_worthAsking_57 : decode cX6_worthAsking 57 = .ok (.iload_n 2, 1) := by decide +kernel
theorem dX6_worthAsking_58 : decode cX6_worthAsking 58 = .ok (.iaload, 1) := by decide +kernel
theorem dX6_worthAsking_59 : decode cX6_worthAsking 59 = .ok (.ishl, 1) := by decide +kernel
theorem dX6_worthAsking_60 : decode cX6_worthAsking 60 = .ok (.ior, 1) := by decide +kernel
theorem dX6_worthAsking_61 : decode cX6_worthAsking 61 = .ok (.ireturn, 1) := by decide +kernel
set_option maxRecDepth 20000 in
theorem ggX6_askAll_X0_tryAsking : GoodIn wsX6_askAll wsX0_tryAsking := goodIn_r _ [8, 9, 10, 11, 12, 13, 7, 14, 15, 16, 17, 18, 19, 20, 21, 22, 23, 24] rfl (by decide +kernel)
set_option maxRecDepth 20000 in
theorem gX6_askAll_X0_tryAsking : GoodIn wsX6_askAll (wsV RX6 86 RX0 yX0_tryAsking wsX0_tryAsking) := goodIn_app (goodIn_of _ (by decide +kernel)) ggX6_askAll_X0_tryAsking
theorem dX6_askAll_0 : decode cX6_askAll 0 = .ok (.iconst 0, 1) := by decide +kernel
theorem dX6_askAll_1 : decode cX6_askAll 1 = .ok (.istore 4, 2) := by decide +kernel
theorem dX6_askAll_3 : decode cX6_askAll 3 = .ok (.iconst 0, 1) := by decide +kernel
theorem dX6_askAll_4 : decode cX6_askAll 4 = .ok (.istore 5, 2) := by decide +kernel
theorem dX6_askAll_6 : decode cX6_askAll 6 = .ok (.iload 5, 2) := by decide +kernel
theorem dX6_askAll_8 : decode cX6_askAll 8 = .ok (.aload_n 1, 1) := by decide +kernel
theorem dX6_askAll_9 : decode cX6_askAll 9 = .ok (.getfield 45, 3) := by decide +kernel
theorem dX6_askAll_12 : decode cX6_askAll 12 = .ok (.if_icmp .ge 42, 3) := by decide +kernel
theorem dX6_askAll_15 : decode cX6_askAll 15 = .ok (.iload_n 2, 1) := by decide +kernel
theorem dX6_askAll_16 : decode cX6_askAll 16 = .ok (.iconst 1, 1) := by decide +kernel
theorem dX6_askAll_17 : decode cX6_askAll 17 = .ok (.iload 5, 2) := by decide +kernel
theorem dX6_askAll_19 : decode cX6_askAll 19 = .ok (.ishl, 1) := by decide +kernel
theorem dX6_askAll_20 : decode cX6_askAll 20 = .ok (.iand, 1) := by decide +kernel
theorem dX6_askAll_21 : decode cX6_askAll 21 = .ok (.ifCond .eq 27, 3) := by decide +kernel
theorem dX6_askAll_24 : decode cX6_askAll 24 = .ok (.aload_n 1, 1) := by decide +kernel
theorem dX6_askAll_25 : decode cX6_askAll 25 = .ok (.aload_n 0, 1) := by decide +kernel
theorem dX6_askAll_26 : decode cX6_askAll 26 = .ok (.getfield 18, 3) := by decide +kernel
theorem dX6_askAll_29 : decode cX6_askAll 29 = .ok (.iload 5, 2) := by decide +kernel
theorem dX6_askAll_31 : decode cX6_askAll 31 = .ok (.invokevirtual 86, 3) := by decide +kernel
theorem dX6_askAll_34 : decode cX6_askAll 34 = .ok (.pop, 1) := by decide +kernel
theorem dX6_askAll_35 : decode cX6_askAll 35 = .ok (.iload 4, 2) := by decide +kernel
theorem dX6_askAll_37 : decode cX6_askAll 37 = .ok (.iload_n 3, 1) := by decide +kernel
theorem dX6_askAll_38 : decode cX6_askAll 38 = .ok (.getstatic 52, 3) := by decide +kernel
theorem dX6_askAll_41 : decode cX6_askAll 41 = .ok (.iload 5, 2) := by decide +kernel
theorem dX6_askAll_43 : decode cX6_askAll 43 = .ok (.iaload, 1) := by decide +kernel
theorem dX6_askAll_44 : decode cX6_askAll 44 = .ok (.imul, 1) := by decide +kernel
theorem dX6_askAll_45 : decode cX6_askAll 45 = .ok (.iadd, 1) := by decide +kernel
theorem dX6_askAll_46 : decode cX6_askAll 46 = .ok (.istore 4, 2) := by decide +kernel
theorem dX6_askAll_48 : decode cX6_askAll 48 = .ok (.iinc 5 1, 3) := by decide +kernel
theorem dX6_askAll_51 : decode cX6_askAll 51 = .ok (.goto (-45), 3) := by decide +kernel
theorem dX6_askAll_54 : decode cX6_askAll 54 = .ok (.iload 4, 2) := by decide +kernel
theorem dX6_askAll_56 : decode cX6_askAll 56 = .ok (.ireturn, 1) := by decide +kernel
theorem dX6_keepBetter_0 : decode cX6_keepBetter 0 = .ok (.iload_n 1, 1) := by decide +kernel
theorem dX6_keepBetter_1 : decode cX6_keepBetter 1 = .ok (.aload_n 0, 1) := by decide +kernel
theorem dX6_keepBetter_2 : decode cX6_keepBetter 2 = .ok (.getfield 9, 3) := by decide +kernel
theorem dX6_keepBetter_5 : decode cX6_keepBetter 5 = .ok (.if_icmp .gt 19, 3) := by decide +kernel
theorem dX6_keepBetter_8 : decode cX6_keepBetter 8 = .ok (.iload_n 1, 1) := by decide +kernel
theorem dX6_keepBetter_9 : decode cX6_keepBetter 9 = .ok (.aload_n 0, 1) := by decide +kernel
theorem dX6_keepBetter_10 : decode cX6_keepBetter 10 = .ok (.getfield 9, 3) := by decide +kernel
theorem dX6_keepBetter_13 : decode cX6_keepBetter 13 = .ok (.if_icmp .ne 21, 3) := by decide +kernel
theorem dX6_keepBetter_16 : decode cX6_keepBetter 16 = .ok (.iload_n 2, 1) := by decide +kernel
theorem dX6_keepBetter_17 : decode cX6_keepBetter 17 = .ok (.aload_n 0, 1) := by decide +kernel
theorem dX6_keepBetter_18 : decode cX6_keepBetter 18 = .ok (.getfield 15, 3) := by decide +kernel
theorem dX6_keepBetter_21 : decode cX6_keepBetter 21 = .ok (.if_icmp .ge 13, 3) := by decide +kernel
theorem dX6_keepBetter_24 : decode cX6_keepBetter 24 = .ok (.aload_n 0, 1) := by decide +kernel
theorem dX6_keepBetter_25 : decode cX6_keepBetter 25 = .ok (.iload_n 1, 1) := by decide +kernel
theorem dX6_keepBetter_26 : decode cX6_keepBetter 26 = .ok (.putfield 9, 3) := by decide +kernel
theorem dX6_keepBetter_29 : decode cX6_keepBetter 29 = .ok (.aload_n 0, 1) := by decide +kernel
theorem dX6_keepBetter_30 : decode cX6_keepBetter 30 = .ok (.iload_n 2, 1) := by decide +kernel
theorem dX6_keepBetter_31 : decode cX6_keepBetter 31 = .ok (.putfield 15, 3) := by decide +kernel
theorem dX6_keepBetter_34 : decode cX6_keepBetter 34 = .ok (.return_, 1) := by decide +kernel
set_option maxRecDepth 20000 in
theorem ggX7_init_X0_newRow : GoodIn wsX7_init wsX0_newRow := goodIn_r _ [12, 13, 14, 15, 16, 17, 18, 11, 19, 20, 21, 22, 2, 3, 23, 24, 25, 26, 5, 27, 28, 32, 33, 34, 35, 36] rfl (by decide +kernel)
set_option maxRecDepth 20000 in
theorem gX7_init_X0_newRow : GoodIn wsX7_init (va_wsS RX7 19 yX0_newRow wsX0_newRow) := goodIn_app (goodIn_of _ (by decide +kernel)) ggX7_init_X0_newRow
theorem dX7_init_0 : decode cX7_init 0 = .ok (.aload_n 0, 1) := by decide +kernel
theorem dX7_init_1 : decode cX7_init 1 = .ok (.invokespecial 3, 3) := by decide +kernel
theorem dX7_init_4 : decode cX7_init 4 = .ok (.aload_n 0, 1) := by decide +kernel
theorem dX7_init_5 : decode cX7_init 5 = .ok (.bipush 6, 2) := by decide +kernel
theorem dX7_init_7 : decode cX7_init 7 = .ok (.iconst 5, 1) := by decide +kernel
theorem dX7_init_8 : decode cX7_init 8 = .ok (.multianewarray 9 2, 4) := by decide +kernel
theorem dX7_init_12 : decode cX7_init 12 = .ok (.putfield 11, 3) := by decide +kernel
theorem dX7_init_15 : decode cX7_init 15 = .ok (.aload_n 0, 1) := by decide +kernel
theorem dX7_init_16 : decode cX7_init 16 = .ok (.bipush 6, 2) := by decide +kernel
theorem dX7_init_18 : decode cX7_init 18 = .ok (.iconst 5, 1) := by decide +kernel
theorem dX7_init_19 : decode cX7_init 19 = .ok (.multianewarray 9 2, 4) := by decide +kernel
theorem dX7_init_23 : decode cX7_init 23 = .ok (.putfield 16, 3) := by decide +kernel
theorem dX7_init_26 : decode cX7_init 26 = .ok (.aload_n 0, 1) := by decide +kernel
theorem dX7_init_27 : decode cX7_init 27 = .ok (.bipush 6, 2) := by decide +kernel
theorem dX7_init_29 : decode cX7_init 29 = .ok (.invokestatic 19, 3) := by decide +kernel
theorem dX7_init_32 : decode cX7_init 32 = .ok (.putfield 25, 3) := by decide +kernel
theorem dX7_init_35 : decode cX7_init 35 = .ok (.return_, 1) := by decide +kernel
set_option maxRecDepth 20000 in
theorem ggX7_search_X0_takeFrom : GoodIn wsX7_search wsX0_takeFrom := goodIn_r _ [6, 7, 8, 9, 10, 11, 12, 13, 14, 15, 44, 45, 46, 47, 48] rfl (by decide +kernel)
set_option maxRecDepth 20000 in
theorem gX7_search_X0_takeFrom : GoodIn wsX7_search (wsV RX7 29 RX0 yX0_takeFrom wsX0_takeFrom) := goodIn_app (goodIn_of _ (by decide +kernel)) ggX7_search_X0_takeFrom
set_option maxRecDepth 20000 in
theorem ggX7_search_X7_settle : GoodIn wsX7_search wsX7_settle := goodIn_r _ [20, 1, 21, 22, 23, 24, 12, 13, 14, 2, 3, 4, 5, 6, 7, 8, 9, 10, 11, 15, 16, 17, 18, 19, 25, 26, 27, 28, 29, 30, 31, 32, 33, 34, 35, 36, 37, 38, 39, 40, 41, 42, 43, 44, 45, 46, 47, 48] rfl (by decide +kernel)
set_option maxRecDepth 20000 in
theorem gX7_search_X7_settle : GoodIn wsX7_search (wsV RX7 33 RX7 yX7_settle wsX7_settle) := goodIn_app (goodIn_of _ (by decide +kernel)) ggX7_search_X7_settle
theorem dX7_search_0 : decode cX7_search 0 = .ok (.aload_n 0, 1) := by decide +kernel
theorem dX7_search_1 : decode cX7_search 1 = .ok (.getfield 25, 3) := by decide +kernel
theorem dX7_search_4 : decode cX7_search 4 = .ok (.iconst 0, 1) := by decide +kernel
theorem dX7_search_5 : decode cX7_search 5 = .ok (.aaload, 1) := by decide +kernel
theorem dX7_search_6 : decode cX7_search 6 = .ok (.aload_n 1, 1) := by decide +kernel
theorem dX7_search_7 : decode cX7_search 7 = .ok (.invokevirtual 29, 3) := by decide +kernel
theorem dX7_search_10 : decode cX7_search 10 = .ok (.aload_n 0, 1) := by decide +kernel
theorem dX7_search_11 : decode cX7_search 11 = .ok (.iconst 0, 1) := by decide +kernel
theorem dX7_search_12 : decode cX7_search 12 = .ok (.invokevirtual 33, 3) := by decide +kernel
theorem dX7_search_15 : decode cX7_search 15 = .ok (.return_, 1) := by decide +kernel
set_option maxRecDepth 20000 in
theorem ggX7_settle_X0_takeFrom : GoodIn wsX7_settle wsX0_takeFrom := goodIn_r _ [13, 14, 15, 16, 17, 18, 6, 7, 8, 19, 43, 44, 45, 46, 47] rfl (by decide +kernel)
set_option maxRecDepth 20000 in
theorem gX7_settle_X0_takeFrom : GoodIn wsX7_settle (wsV RX7 29 RX0 yX0_takeFrom wsX0_takeFrom) := goodIn_app (goodIn_of _ (by decide +kernel)) ggX7_settle_X0_takeFrom
set_option maxRecDepth 20000 in
theorem ggX7_settle_X7_settle : GoodIn wsX7_settle wsX7_settle := goodIn_r _ [0, 1, 2, 3, 4, 5, 6, 7, 8, 9, 10, 11, 12, 13, 14, 15, 16, 17, 18, 19, 20, 21, 22, 23, 24, 25, 26, 27, 28, 29, 30, 31, 32, 33, 34, 35, 36, 37, 38, 39, 40, 41, 42, 43, 44, 45, 46, 47] rfl (by decide +kernel)
set_option maxRecDepth 20000 in
theorem gX7_settle_X7_settle : GoodIn wsX7_settle (wsV RX7 33 RX7 yX7_settle wsX7_settle) := goodIn_app (goodIn_of _ (by decide +kernel)) ggX7_settle_X7_settle
set_option maxRecDepth 20000 in
theorem ggX7_settle_X7_keep : GoodIn wsX7_settle wsX7_keep := goodIn_r _ [27, 28, 5, 6, 7, 8, 4, 40, 41, 42] rfl (by decide +kernel)
set_option maxRecDepth 20000 in
theorem gX7_settle_X7_keep : GoodIn wsX7_settle (wsV RX7 51 RX7 yX7_keep wsX7_keep) := goodIn_app (goodIn_of _ (by decide +kernel)) ggX7_settle_X7_keep
set_option maxRecDepth 20000 in
theorem ggX7_settle_X0_tryAsking : GoodIn wsX7_settle wsX0_tryAsking := goodIn_r _ [32, 15, 16, 19, 33, 34, 12, 35, 36, 37, 38, 39, 17, 43, 44, 45, 46, 47] rfl (by decide +kernel)
set_option maxRecDepth 20000 in
theorem gX7_settle_X0_tryAsking : GoodIn wsX7_settle (wsV RX7 55 RX0 yX0_tryAsking wsX0_tryAsking) := goodIn_app (goodIn_of _ (by decide +kernel)) ggX7_settle_X0_tryAsking
theorem dX7_settle_0 : decode cX7_settle 0 = .ok (.aload_n 0, 1) := by decide +kernel
theorem dX7_settle_1 : decode cX7_settle 1 = .ok (.getfield 25, 3) := by decide +kernel
theorem dX7_settle_4 : decode cX7_settle 4 = .ok (.iload_n 1, 1) := by decide +kernel
theorem dX7_settle_5 : decode cX7_settle 5 = .ok (.aaload, 1) := by decide +kernel
theorem dX7_settle_6 : decode cX7_settle 6 = .ok (.astore_n 2, 1) := by decide +kernel
theorem dX7_settle_7 : decode cX7_settle 7 = .ok (.iload_n 1, 1) := by decide +kernel
theorem dX7_settle_8 : decode cX7_settle 8 = .ok (.aload_n 2, 1) := by decide +kernel
theorem dX7_settle_9 : decode cX7_settle 9 = .ok (.getfield 37, 3) := by decide +kernel
theorem dX7_settle_12 : decode cX7_settle 12 = .ok (.if_icmp .ge 8, 3) := by decide +kernel
theorem dX7_settle_15 : decode cX7_settle 15 = .ok (.iload_n 1, 1) := by decide +kernel
theorem dX7_settle_16 : decode cX7_settle 16 = .ok (.iconst 5, 1) := by decide +kernel
theorem dX7_settle_17 : decode cX7_settle 17 = .ok (.if_icmp .lt 20, 3) := by decide +kernel
theorem dX7_settle_20 : decode cX7_settle 20 = .ok (.aload_n 2, 1) := by decide +kernel
theorem dX7_settle_21 : decode cX7_settle 21 = .ok (.getfield 41, 3) := by decide +kernel
theorem dX7_settle_24 : decode cX7_settle 24 = .ok (.iconst 0, 1) := by decide +kernel
theorem dX7_settle_25 : decode cX7_settle 25 = .ok (.aload_n 0, 1) := by decide +kernel
theorem dX7_settle_26 : decode cX7_settle 26 = .ok (.getfield 16, 3) := by decide +kernel
theorem dX7_settle_29 : decode cX7_settle 29 = .ok (.iload_n 1, 1) := by decide +kernel
theorem dX7_settle_30 : decode cX7_settle 30 = .ok (.aaload, 1) := by decide +kernel
theorem dX7_settle_31 : decode cX7_settle 31 = .ok (.iconst 0, 1) := by decide +kernel
theorem dX7_settle_32 : decode cX7_settle 32 = .ok (.iconst 5, 1) := by decide +kernel
theorem dX7_settle_33 : decode cX7_settle 33 = .ok (.invokestatic 45, 3) := by decide +kernel
theorem dX7_settle_36 : decode cX7_settle 36 = .ok (.return_, 1) := by decide +kernel
theorem dX7_settle_37 : decode cX7_settle 37 = .ok (.aload_n 0, 1) := by decide +kernel
theorem dX7_settle_38 : decode cX7_settle 38 = .ok (.getfield 25, 3) := by decide +kernel
theorem dX7_settle_41 : decode cX7_settle 41 = .ok (.iload_n 1, 1) := by decide +kernel
theorem dX7_settle_42 : decode cX7_settle 42 = .ok (.iconst 1, 1) := by decide +kernel
theorem dX7_settle_43 : decode cX7_settle 43 = .ok (.iadd, 1) := by decide +kernel
theorem dX7_settle_44 : decode cX7_settle 44 = .ok (.aaload, 1) := by decide +kernel
theorem dX7_settle_45 : decode cX7_settle 45 = .ok (.astore_n 3, 1) := by decide +kernel
theorem dX7_settle_46 : decode cX7_settle 46 = .ok (.aload_n 3, 1) := by decide +kernel
theorem dX7_settle_47 : decode cX7_settle 47 = .ok (.aload_n 2, 1) := by decide +kernel
theorem dX7_settle_48 : decode cX7_settle 48 = .ok (.invokevirtual 29, 3) := by decide +kernel
theorem dX7_settle_51 : decode cX7_settle 51 = .ok (.aload_n 0, 1) := by decide +kernel
theorem dX7_settle_52 : decode cX7_settle 52 = .ok (.iload_n 1, 1) := by decide +kernel
theorem dX7_settle_53 : decode cX7_settle 53 = .ok (.iconst 1, 1) := by decide +kernel
theorem dX7_settle_54 : decode cX7_settle 54 = .ok (.iadd, 1) := by decide +kernel
theorem dX7_settle_55 : decode cX7_settle 55 = .ok (.invokevirtual 33, 3) := by decide +kernel
theorem dX7_settle_58 : decode cX7_settle 58 = .ok (.aload_n 0, 1) := by decide +kernel
theorem dX7_settle_59 : decode cX7_settle 59 = .ok (.iload_n 1, 1) := by decide +kernel
theorem dX7_settle_60 : decode cX7_settle 60 = .ok (.bipush 9, 2) := by decide +kernel
theorem dX7_settle_62 : decode cX7_settle 62 = .ok (.invokevirtual 51, 3) := by decide +kernel
theorem dX7_settle_65 : decode cX7_settle 65 = .ok (.iconst 0, 1) := by decide +kernel
theorem dX7_settle_66 : decode cX7_settle 66 = .ok (.istore 4, 2) := by decide +kernel
theorem dX7_settle_68 : decode cX7_settle 68 = .ok (.iload 4, 2) := by decide +kernel
theorem dX7_settle_70 : decode cX7_settle 70 = .ok (.aload_n 2, 1) := by decide +kernel
theorem dX7_settle_71 : decode cX7_settle 71 = .ok (.getfield 37, 3) := by decide +kernel
theorem dX7_settle_74 : decode cX7_settle 74 = .ok (.if_icmp .ge 67, 3) := by decide +kernel
theorem dX7_settle_77 : decode cX7_settle 77 = .ok (.aload_n 3, 1) := by decide +kernel
theorem dX7_settle_78 : decode cX7_settle 78 = .ok (.aload_n 2, 1) := by decide +kernel
theorem dX7_settle_79 : decode cX7_settle 79 = .ok (.invokevirtual 29, 3) := by decide +kernel
theorem dX7_settle_82 : decode cX7_settle 82 = .ok (.iload 4, 2) := by decide +kernel
theorem dX7_settle_84 : decode cX7_settle 84 = .ok (.iload_n 1, 1) := by decide +kernel
theorem dX7_settle_85 : decode cX7_settle 85 = .ok (.if_icmp .eq 50, 3) := by decide +kernel
theorem dX7_settle_88 : decode cX7_settle 88 = .ok (.aload_n 3, 1) := by decide +kernel
theorem dX7_settle_89 : decode cX7_settle 89 = .ok (.iload_n 1, 1) := by decide +kernel
theorem dX7_settle_90 : decode cX7_settle 90 = .ok (.iload 4, 2) := by decide +kernel
theorem dX7_settle_92 : decode cX7_settle 92 = .ok (.invokevirtual 55, 3) := by decide +kernel
theorem dX7_settle_95 : decode cX7_settle 95 = .ok (.bipush (-2), 2) := by decide +kernel
theorem dX7_settle_97 : decode cX7_settle 97 = .ok (.if_icmp .eq 38, 3) := by decide +kernel
theorem dX7_settle_100 : decode cX7_settle 100 = .ok (.aload_n 0, 1) := by decide +kernel
theorem dX7_settle_101 : decode cX7_settle 101 = .ok (.iload_n 1, 1) := by decide +kernel
theorem dX7_settle_102 : decode cX7_settle 102 = .ok (.iconst 1, 1) := by decide +kernel
theorem dX7_settle_103 : decode cX7_settle 103 = .ok (.iadd, 1) := by decide +kernel
theorem dX7_settle_104 : decode cX7_settle 104 = .ok (.invokevirtual 33, 3) := by decide +kernel

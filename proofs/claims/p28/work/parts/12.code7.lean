theorem dX9_order_52 : decode cX9_order 52 = .ok (.istore_n 2, 1) := by decide +kernel
theorem dX9_order_53 : decode cX9_order 53 = .ok (.iconst 1, 1) := by decide +kernel
theorem dX9_order_54 : decode cX9_order 54 = .ok (.istore_n 3, 1) := by decide +kernel
theorem dX9_order_55 : decode cX9_order 55 = .ok (.iload_n 3, 1) := by decide +kernel
theorem dX9_order_56 : decode cX9_order 56 = .ok (.ifCond .eq 72, 3) := by decide +kernel
theorem dX9_order_59 : decode cX9_order 59 = .ok (.aload_n 0, 1) := by decide +kernel
theorem dX9_order_60 : decode cX9_order 60 = .ok (.invokevirtual 216, 3) := by decide +kernel
theorem dX9_order_63 : decode cX9_order 63 = .ok (.aload_n 0, 1) := by decide +kernel
theorem dX9_order_64 : decode cX9_order 64 = .ok (.invokevirtual 219, 3) := by decide +kernel
theorem dX9_order_67 : decode cX9_order 67 = .ok (.istore 4, 2) := by decide +kernel
theorem dX9_order_69 : decode cX9_order 69 = .ok (.iconst 0, 1) := by decide +kernel
theorem dX9_order_70 : decode cX9_order 70 = .ok (.istore 5, 2) := by decide +kernel
theorem dX9_order_72 : decode cX9_order 72 = .ok (.iload 5, 2) := by decide +kernel
theorem dX9_order_74 : decode cX9_order 74 = .ok (.aload_n 0, 1) := by decide +kernel
theorem dX9_order_75 : decode cX9_order 75 = .ok (.getfield 139, 3) := by decide +kernel
theorem dX9_order_78 : decode cX9_order 78 = .ok (.if_icmp .ge 29, 3) := by decide +kernel
theorem dX9_order_81 : decode cX9_order 81 = .ok (.iload 4, 2) := by decide +kernel
theorem dX9_order_83 : decode cX9_order 83 = .ok (.iload_n 2, 1) := by decide +kernel
theorem dX9_order_84 : decode cX9_order 84 = .ok (.if_icmp .ge 23, 3) := by decide +kernel
theorem dX9_order_87 : decode cX9_order 87 = .ok (.aload_n 0, 1) := by decide +kernel
theorem dX9_order_88 : decode cX9_order 88 = .ok (.getfield 58, 3) := by decide +kernel
theorem dX9_order_91 : decode cX9_order 91 = .ok (.iload 5, 2) := by decide +kernel
theorem dX9_order_93 : decode cX9_order 93 = .ok (.aload_n 0, 1) := by decide +kernel
theorem dX9_order_94 : decode cX9_order 94 = .ok (.getfield 55, 3) := by decide +kernel
theorem dX9_order_97 : decode cX9_order 97 = .ok (.iload 5, 2) := by decide +kernel
theorem dX9_order_99 : decode cX9_order 99 = .ok (.iaload, 1) := by decide +kernel
theorem dX9_order_100 : decode cX9_order 100 = .ok (.iastore, 1) := by decide +kernel
theorem dX9_order_101 : decode cX9_order 101 = .ok (.iinc 5 1, 3) := by decide +kernel
theorem dX9_order_104 : decode cX9_order 104 = .ok (.goto (-32), 3) := by decide +kernel
theorem dX9_order_107 : decode cX9_order 107 = .ok (.iload 4, 2) := by decide +kernel
theorem dX9_order_109 : decode cX9_order 109 = .ok (.iload_n 2, 1) := by decide +kernel
theorem dX9_order_110 : decode cX9_order 110 = .ok (.if_icmp .ge 8, 3) := by decide +kernel
theorem dX9_order_113 : decode cX9_order 113 = .ok (.iload 4, 2) := by decide +kernel
theorem dX9_order_115 : decode cX9_order 115 = .ok (.goto 4, 3) := by decide +kernel
theorem dX9_order_118 : decode cX9_order 118 = .ok (.iload_n 2, 1) := by decide +kernel
theorem dX9_order_119 : decode cX9_order 119 = .ok (.istore_n 2, 1) := by decide +kernel
theorem dX9_order_120 : decode cX9_order 120 = .ok (.aload_n 0, 1) := by decide +kernel
theorem dX9_order_121 : decode cX9_order 121 = .ok (.invokevirtual 222, 3) := by decide +kernel
theorem dX9_order_124 : decode cX9_order 124 = .ok (.istore_n 3, 1) := by decide +kernel
theorem dX9_order_125 : decode cX9_order 125 = .ok (.goto (-70), 3) := by decide +kernel
theorem dX9_order_128 : decode cX9_order 128 = .ok (.iload_n 1, 1) := by decide +kernel
theorem dX9_order_129 : decode cX9_order 129 = .ok (.ifCond .ge 7, 3) := by decide +kernel
theorem dX9_order_132 : decode cX9_order 132 = .ok (.iload_n 2, 1) := by decide +kernel
theorem dX9_order_133 : decode cX9_order 133 = .ok (.goto 9, 3) := by decide +kernel
theorem dX9_order_136 : decode cX9_order 136 = .ok (.aload_n 0, 1) := by decide +kernel
theorem dX9_order_137 : decode cX9_order 137 = .ok (.getfield 58, 3) := by decide +kernel
theorem dX9_order_140 : decode cX9_order 140 = .ok (.iload_n 1, 1) := by decide +kernel
theorem dX9_order_141 : decode cX9_order 141 = .ok (.iaload, 1) := by decide +kernel
theorem dX9_order_142 : decode cX9_order 142 = .ok (.ireturn, 1) := by decide +kernel
set_option maxRecDepth 20000 in
theorem ggX9_so_X9_in : GoodIn wsX9_so wsX9_in := goodIn_r _ [8] rfl (by decide +kernel)
set_option maxRecDepth 20000 in
theorem gX9_so_X9_in : GoodIn wsX9_so (va_wsS RX9 90 yX9_in wsX9_in) := goodIn_app (goodIn_of _ (by decide +kernel)) ggX9_so_X9_in
set_option maxRecDepth 20000 in
theorem ggX9_so_X9_firstOrder : GoodIn wsX9_so wsX9_firstOrder := goodIn_r _ [12, 13, 43, 44, 45, 46, 47, 48, 49, 50, 51, 52, 53, 54, 55, 56, 57, 58, 59, 60, 61, 62, 63, 64, 65, 66, 67, 68, 69, 70, 71, 72, 73] rfl (by decide +kernel)
set_option maxRecDepth 20000 in
theorem gX9_so_X9_firstOrder : GoodIn wsX9_so (wsV RX9 212 RX9 yX9_firstOrder wsX9_firstOrder) := goodIn_app (goodIn_of _ (by decide +kernel)) ggX9_so_X9_firstOrder
set_option maxRecDepth 20000 in
theorem ggX9_so_X9_goOrder : GoodIn wsX9_so wsX9_goOrder := goodIn_r _ [17, 3, 18, 13, 19, 20, 21, 7, 22, 4, 23, 24, 25, 26, 27, 28, 29, 30, 31, 32, 33, 34, 35, 36, 37, 38, 43, 44, 45, 46, 47, 48, 49, 50, 51, 52, 53, 54, 55, 56, 57, 58, 59, 60, 61, 62, 63, 64, 65, 66, 67, 68, 69, 70, 71, 72, 73] rfl (by decide +kernel)
set_option maxRecDepth 20000 in
theorem gX9_so_X9_goOrder : GoodIn wsX9_so (wsV RX9 216 RX9 yX9_goOrder wsX9_goOrder) := goodIn_app (goodIn_of _ (by decide +kernel)) ggX9_so_X9_goOrder
set_option maxRecDepth 20000 in
theorem ggX9_so_X9_has : GoodIn wsX9_so wsX9_has := goodIn_r _ [33] rfl (by decide +kernel)
set_option maxRecDepth 20000 in
theorem gX9_so_X9_has : GoodIn wsX9_so (va_wsS RX9 116 yX9_has wsX9_has) := goodIn_app (goodIn_of _ (by decide +kernel)) ggX9_so_X9_has
set_option maxRecDepth 20000 in
theorem ggX9_so_X9_nextOrder : GoodIn wsX9_so wsX9_nextOrder := goodIn_r _ [42, 3, 13, 43, 44, 45, 46, 47, 48, 49, 50, 51, 52, 53, 54, 55, 56, 57, 58, 59, 60, 61, 62, 63, 64, 65, 66, 67, 68, 69, 70, 71, 72, 73] rfl (by decide +kernel)
set_option maxRecDepth 20000 in
theorem gX9_so_X9_nextOrder : GoodIn wsX9_so (wsV RX9 222 RX9 yX9_nextOrder wsX9_nextOrder) := goodIn_app (goodIn_of _ (by decide +kernel)) ggX9_so_X9_nextOrder
theorem dX9_so_0 : decode cX9_so 0 = .ok (.iload_n 1, 1) := by decide +kernel
theorem dX9_so_1 : decode cX9_so 1 = .ok (.i2l, 1) := by decide +kernel
theorem dX9_so_2 : decode cX9_so 2 = .ok (.lconst 1, 1) := by decide +kernel
theorem dX9_so_3 : decode cX9_so 3 = .ok (.iconst 1, 1) := by decide +kernel
theorem dX9_so_4 : decode cX9_so 4 = .ok (.aload_n 0, 1) := by decide +kernel
theorem dX9_so_5 : decode cX9_so 5 = .ok (.getfield 86, 3) := by decide +kernel
theorem dX9_so_8 : decode cX9_so 8 = .ok (.ishl, 1) := by decide +kernel
theorem dX9_so_9 : decode cX9_so 9 = .ok (.iconst 1, 1) := by decide +kernel
theorem dX9_so_10 : decode cX9_so 10 = .ok (.isub, 1) := by decide +kernel
theorem dX9_so_11 : decode cX9_so 11 = .ok (.i2l, 1) := by decide +kernel
theorem dX9_so_12 : decode cX9_so 12 = .ok (.invokestatic 90, 3) := by decide +kernel
theorem dX9_so_15 : decode cX9_so 15 = .ok (.ifCond .eq 15, 3) := by decide +kernel
theorem dX9_so_18 : decode cX9_so 18 = .ok (.iload_n 2, 1) := by decide +kernel
theorem dX9_so_19 : decode cX9_so 19 = .ok (.i2l, 1) := by decide +kernel
theorem dX9_so_20 : decode cX9_so 20 = .ok (.lconst 0, 1) := by decide +kernel
theorem dX9_so_21 : decode cX9_so 21 = .ok (.ldc2_w 225, 3) := by decide +kernel
theorem dX9_so_24 : decode cX9_so 24 = .ok (.invokestatic 90, 3) := by decide +kernel
theorem dX9_so_27 : decode cX9_so 27 = .ok (.ifCond .ne 5, 3) := by decide +kernel
theorem dX9_so_30 : decode cX9_so 30 = .ok (.iconst (-1), 1) := by decide +kernel
theorem dX9_so_31 : decode cX9_so 31 = .ok (.ireturn, 1) := by decide +kernel
theorem dX9_so_32 : decode cX9_so 32 = .ok (.aload_n 0, 1) := by decide +kernel
theorem dX9_so_33 : decode cX9_so 33 = .ok (.getfield 139, 3) := by decide +kernel
theorem dX9_so_36 : decode cX9_so 36 = .ok (.bipush 6, 2) := by decide +kernel
theorem dX9_so_38 : decode cX9_so 38 = .ok (.if_icmp .le 6, 3) := by decide +kernel
theorem dX9_so_41 : decode cX9_so 41 = .ok (.bipush (-3), 2) := by decide +kernel
theorem dX9_so_43 : decode cX9_so 43 = .ok (.ireturn, 1) := by decide +kernel
theorem dX9_so_44 : decode cX9_so 44 = .ok (.aload_n 0, 1) := by decide +kernel
theorem dX9_so_45 : decode cX9_so 45 = .ok (.invokevirtual 212, 3) := by decide +kernel
theorem dX9_so_48 : decode cX9_so 48 = .ok (.iconst 0, 1) := by decide +kernel
theorem dX9_so_49 : decode cX9_so 49 = .ok (.istore_n 3, 1) := by decide +kernel
theorem dX9_so_50 : decode cX9_so 50 = .ok (.iconst 1, 1) := by decide +kernel
theorem dX9_so_51 : decode cX9_so 51 = .ok (.istore 4, 2) := by decide +kernel
theorem dX9_so_53 : decode cX9_so 53 = .ok (.iload 4, 2) := by decide +kernel
theorem dX9_so_55 : decode cX9_so 55 = .ok (.ifCond .eq 82, 3) := by decide +kernel
theorem dX9_so_58 : decode cX9_so 58 = .ok (.aload_n 0, 1) := by decide +kernel
theorem dX9_so_59 : decode cX9_so 59 = .ok (.invokevirtual 216, 3) := by decide +kernel
theorem dX9_so_62 : decode cX9_so 62 = .ok (.iconst 1, 1) := by decide +kernel
theorem dX9_so_63 : decode cX9_so 63 = .ok (.istore 5, 2) := by decide +kernel
theorem dX9_so_65 : decode cX9_so 65 = .ok (.iconst 0, 1) := by decide +kernel
theorem dX9_so_66 : decode cX9_so 66 = .ok (.istore 6, 2) := by decide +kernel
theorem dX9_so_68 : decode cX9_so 68 = .ok (.iload 6, 2) := by decide +kernel
theorem dX9_so_70 : decode cX9_so 70 = .ok (.aload_n 0, 1) := by decide +kernel
theorem dX9_so_71 : decode cX9_so 71 = .ok (.getfield 86, 3) := by decide +kernel
theorem dX9_so_74 : decode cX9_so 74 = .ok (.if_icmp .ge 41, 3) := by decide +kernel
theorem dX9_so_77 : decode cX9_so 77 = .ok (.iload 5, 2) := by decide +kernel
theorem dX9_so_79 : decode cX9_so 79 = .ok (.ifCond .eq 27, 3) := by decide +kernel
theorem dX9_so_82 : decode cX9_so 82 = .ok (.iload_n 1, 1) := by decide +kernel
theorem dX9_so_83 : decode cX9_so 83 = .ok (.iload 6, 2) := by decide +kernel
theorem dX9_so_85 : decode cX9_so 85 = .ok (.invokestatic 116, 3) := by decide +kernel
theorem dX9_so_88 : decode cX9_so 88 = .ok (.ifCond .eq 14, 3) := by decide +kernel
theorem dX9_so_91 : decode cX9_so 91 = .ok (.aload_n 0, 1) := by decide +kernel
theorem dX9_so_92 : decode cX9_so 92 = .ok (.getfield 25, 3) := by decide +kernel
theorem dX9_so_95 : decode cX9_so 95 = .ok (.iload 6, 2) := by decide +kernel
theorem dX9_so_97 : decode cX9_so 97 = .ok (.iaload, 1) := by decide +kernel
theorem dX9_so_98 : decode cX9_so 98 = .ok (.iload_n 2, 1) := by decide +kernel
theorem dX9_so_99 : decode cX9_so 99 = .ok (.if_icmp .ne 7, 3) := by decide +kernel
theorem dX9_so_102 : decode cX9_so 102 = .ok (.iconst 1, 1) := by decide +kernel
theorem dX9_so_103 : decode cX9_so 103 = .ok (.goto 4, 3) := by decide +kernel
theorem dX9_so_106 : decode cX9_so 106 = .ok (.iconst 0, 1) := by decide +kernel
theorem dX9_so_107 : decode cX9_so 107 = .ok (.istore 5, 2) := by decide +kernel
theorem dX9_so_109 : decode cX9_so 109 = .ok (.iinc 6 1, 3) := by decide +kernel
theorem dX9_so_112 : decode cX9_so 112 = .ok (.goto (-44), 3) := by decide +kernel
theorem dX9_so_115 : decode cX9_so 115 = .ok (.iload_n 3, 1) := by decide +kernel
theorem dX9_so_116 : decode cX9_so 116 = .ok (.iload 5, 2) := by decide +kernel
theorem dX9_so_118 : decode cX9_so 118 = .ok (.ifCond .eq 7, 3) := by decide +kernel
theorem dX9_so_121 : decode cX9_so 121 = .ok (.iconst 1, 1) := by decide +kernel
theorem dX9_so_122 : decode cX9_so 122 = .ok (.goto 4, 3) := by decide +kernel
theorem dX9_so_125 : decode cX9_so 125 = .ok (.iconst 0, 1) := by decide +kernel
theorem dX9_so_126 : decode cX9_so 126 = .ok (.iadd, 1) := by decide +kernel
theorem dX9_so_127 : decode cX9_so 127 = .ok (.istore_n 3, 1) := by decide +kernel
theorem dX9_so_128 : decode cX9_so 128 = .ok (.aload_n 0, 1) := by decide +kernel
theorem dX9_so_129 : decode cX9_so 129 = .ok (.invokevirtual 222, 3) := by decide +kernel
theorem dX9_so_132 : decode cX9_so 132 = .ok (.istore 4, 2) := by decide +kernel
theorem dX9_so_134 : decode cX9_so 134 = .ok (.goto (-81), 3) := by decide +kernel
theorem dX9_so_137 : decode cX9_so 137 = .ok (.iload_n 3, 1) := by decide +kernel
theorem dX9_so_138 : decode cX9_so 138 = .ok (.ireturn, 1) := by decide +kernel
set_option maxRecDepth 20000 in
theorem ggX9_exact_X9_isOne : GoodIn wsX9_exact wsX9_isOne := goodIn_r _ [14, 3, 15, 16, 13, 17, 21, 22, 23, 24, 25, 26, 27, 28, 29, 30, 31, 32, 33, 34, 35, 36, 37, 38, 39, 40, 41, 42, 43, 44, 45, 46, 47, 48, 49, 50, 51] rfl (by decide +kernel)
set_option maxRecDepth 20000 in
theorem gX9_exact_X9_isOne : GoodIn wsX9_exact (wsV RX9 94 RX9 yX9_isOne wsX9_isOne) := goodIn_app (goodIn_of _ (by decide +kernel)) ggX9_exact_X9_isOne
set_option maxRecDepth 20000 in
theorem ggX9_exact_X9_in : GoodIn wsX9_exact wsX9_in := goodIn_r _ [17] rfl (by decide +kernel)
set_option maxRecDepth 20000 in
theorem gX9_exact_X9_in : GoodIn wsX9_exact (va_wsS RX9 90 yX9_in wsX9_in) := goodIn_app (goodIn_of _ (by decide +kernel)) ggX9_exact_X9_in
set_option maxRecDepth 20000 in
theorem ggX9_exact_X9_has : GoodIn wsX9_exact wsX9_has := goodIn_r _ [20] rfl (by decide +kernel)
set_option maxRecDepth 20000 in
theorem gX9_exact_X9_has : GoodIn wsX9_exact (va_wsS RX9 116 yX9_has wsX9_has) := goodIn_app (goodIn_of _ (by decide +kernel)) ggX9_exact_X9_has
theorem dX9_exact_0 : decode cX9_exact 0 = .ok (.aload_n 0, 1) := by decide +kernel
theorem dX9_exact_1 : decode cX9_exact 1 = .ok (.iload_n 1, 1) := by decide +kernel
theorem dX9_exact_2 : decode cX9_exact 2 = .ok (.invokevirtual 94, 3) := by decide +kernel
theorem dX9_exact_5 : decode cX9_exact 5 = .ok (.ifCond .eq 25, 3) := by decide +kernel
theorem dX9_exact_8 : decode cX9_exact 8 = .ok (.iload_n 2, 1) := by decide +kernel
theorem dX9_exact_9 : decode cX9_exact 9 = .ok (.i2l, 1) := by decide +kernel
theorem dX9_exact_10 : decode cX9_exact 10 = .ok (.lconst 1, 1) := by decide +kernel
theorem dX9_exact_11 : decode cX9_exact 11 = .ok (.ldc2_w 98, 3) := by decide +kernel
theorem dX9_exact_14 : decode cX9_exact 14 = .ok (.invokestatic 90, 3) := by decide +kernel
theorem dX9_exact_17 : decode cX9_exact 17 = .ok (.ifCond .eq 13, 3) := by decide +kernel
theorem dX9_exact_20 : decode cX9_exact 20 = .ok (.iload_n 3, 1) := by decide +kernel
theorem dX9_exact_21 : decode cX9_exact 21 = .ok (.i2l, 1) := by decide +kernel
theorem dX9_exact_22 : decode cX9_exact 22 = .ok (.lconst 0, 1) := by decide +kernel
theorem dX9_exact_23 : decode cX9_exact 23 = .ok (.lconst 1, 1) := by decide +kernel
theorem dX9_exact_24 : decode cX9_exact 24 = .ok (.invokestatic 90, 3) := by decide +kernel
theorem dX9_exact_27 : decode cX9_exact 27 = .ok (.ifCond .ne 7, 3) := by decide +kernel
theorem dX9_exact_30 : decode cX9_exact 30 = .ok (.ldc2_w 208, 3) := by decide +kernel
theorem dX9_exact_33 : decode cX9_exact 33 = .ok (.lreturn, 1) := by decide +kernel
theorem dX9_exact_34 : decode cX9_exact 34 = .ok (.iconst 0, 1) := by decide +kernel
theorem dX9_exact_35 : decode cX9_exact 35 = .ok (.istore 4, 2) := by decide +kernel
theorem dX9_exact_37 : decode cX9_exact 37 = .ok (.iload 4, 2) := by decide +kernel
theorem dX9_exact_39 : decode cX9_exact 39 = .ok (.aload_n 0, 1) := by decide +kernel
theorem dX9_exact_40 : decode cX9_exact 40 = .ok (.getfield 86, 3) := by decide +kernel
theorem dX9_exact_43 : decode cX9_exact 43 = .ok (.if_icmp .ge 24, 3) := by decide +kernel
theorem dX9_exact_46 : decode cX9_exact 46 = .ok (.aload_n 0, 1) := by decide +kernel
theorem dX9_exact_47 : decode cX9_exact 47 = .ok (.getfield 61, 3) := by decide +kernel
theorem dX9_exact_50 : decode cX9_exact 50 = .ok (.iload 4, 2) := by decide +kernel
theorem dX9_exact_52 : decode cX9_exact 52 = .ok (.aload_n 0, 1) := by decide +kernel
theorem dX9_exact_53 : decode cX9_exact 53 = .ok (.getfield 13, 3) := by decide +kernel
theorem dX9_exact_56 : decode cX9_exact 56 = .ok (.iload 4, 2) := by decide +kernel
theorem dX9_exact_58 : decode cX9_exact 58 = .ok (.iaload, 1) := by decide +kernel
theorem dX9_exact_59 : decode cX9_exact 59 = .ok (.i2l, 1) := by decide +kernel
theorem dX9_exact_60 : decode cX9_exact 60 = .ok (.lastore, 1) := by decide +kernel
theorem dX9_exact_61 : decode cX9_exact 61 = .ok (.iinc 4 1, 3) := by decide +kernel
theorem dX9_exact_64 : decode cX9_exact 64 = .ok (.goto (-27), 3) := by decide +kernel
theorem dX9_exact_67 : decode cX9_exact 67 = .ok (.lconst 1, 1) := by decide +kernel
theorem dX9_exact_68 : decode cX9_exact 68 = .ok (.lstore 4, 2) := by decide +kernel
theorem dX9_exact_70 : decode cX9_exact 70 = .ok (.iconst 0, 1) := by decide +kernel
theorem dX9_exact_71 : decode cX9_exact 71 = .ok (.istore 6, 2) := by decide +kernel
theorem dX9_exact_73 : decode cX9_exact 73 = .ok (.iload 6, 2) := by decide +kernel
theorem dX9_exact_75 : decode cX9_exact 75 = .ok (.iload_n 2, 1) := by decide +kernel
theorem dX9_exact_76 : decode cX9_exact 76 = .ok (.aload_n 0, 1) := by decide +kernel
theorem dX9_exact_77 : decode cX9_exact 77 = .ok (.getfield 139, 3) := by decide +kernel
theorem dX9_exact_80 : decode cX9_exact 80 = .ok (.imul, 1) := by decide +kernel
theorem dX9_exact_81 : decode cX9_exact 81 = .ok (.if_icmp .ge 134, 3) := by decide +kernel
theorem dX9_exact_84 : decode cX9_exact 84 = .ok (.aload_n 0, 1) := by decide +kernel
theorem dX9_exact_85 : decode cX9_exact 85 = .ok (.getfield 22, 3) := by decide +kernel
theorem dX9_exact_88 : decode cX9_exact 88 = .ok (.iconst 3, 1) := by decide +kernel
theorem dX9_exact_89 : decode cX9_exact 89 = .ok (.iload 6, 2) := by decide +kernel
theorem dX9_exact_91 : decode cX9_exact 91 = .ok (.aload_n 0, 1) := by decide +kernel
theorem dX9_exact_92 : decode cX9_exact 92 = .ok (.getfield 139, 3) := by decide +kernel
theorem dX9_exact_95 : decode cX9_exact 95 = .ok (.irem, 1) := by decide +kernel
theorem dX9_exact_96 : decode cX9_exact 96 = .ok (.imul, 1) := by decide +kernel
theorem dX9_exact_97 : decode cX9_exact 97 = .ok (.iaload, 1) := by decide +kernel
theorem dX9_exact_98 : decode cX9_exact 98 = .ok (.istore 7, 2) := by decide +kernel
theorem dX9_exact_100 : decode cX9_exact 100 = .ok (.aload_n 0, 1) := by decide +kernel
theorem dX9_exact_101 : decode cX9_exact 101 = .ok (.getfield 22, 3) := by decide +kernel
theorem dX9_exact_104 : decode cX9_exact 104 = .ok (.iconst 3, 1) := by decide +kernel
theorem dX9_exact_105 : decode cX9_exact 105 = .ok (.iload 6, 2) := by decide +kernel
theorem dX9_exact_107 : decode cX9_exact 107 = .ok (.aload_n 0, 1) := by decide +kernel
theorem dX9_exact_108 : decode cX9_exact 108 = .ok (.getfield 139, 3) := by decide +kernel
theorem dX9_exact_111 : decode cX9_exact 111 = .ok (.irem, 1) := by decide +kernel
theorem dX9_exact_112 : decode cX9_exact 112 = .ok (.imul, 1) := by decide +kernel
theorem dX9_exact_113 : decode cX9_exact 113 = .ok (.iconst 1, 1) := by decide +kernel
theorem dX9_exact_114 : decode cX9_exact 114 = .ok (.iadd, 1) := by decide +kernel
theorem dX9_exact_115 : decode cX9_exact 115 = .ok (.iaload, 1) := by decide +kernel
theorem dX9_exact_116 : decode cX9_exact 116 = .ok (.istore 8, 2) := by decide +kernel
theorem dX9_exact_118 : decode cX9_exact 118 = .ok (.aload_n 0, 1) := by decide +kernel
theorem dX9_exact_119 : decode cX9_exact 119 = .ok (.getfield 16, 3) := by decide +kernel
theorem dX9_exact_122 : decode cX9_exact 122 = .ok (.iload 7, 2) := by decide +kernel
theorem dX9_exact_124 : decode cX9_exact 124 = .ok (.iaload, 1) := by decide +kernel
theorem dX9_exact_125 : decode cX9_exact 125 = .ok (.iload 8, 2) := by decide +kernel
theorem dX9_exact_127 : decode cX9_exact 127 = .ok (.invokestatic 116, 3) := by decide +kernel
theorem dX9_exact_130 : decode cX9_exact 130 = .ok (.ifCond .eq 79, 3) := by decide +kernel
theorem dX9_exact_133 : decode cX9_exact 133 = .ok (.lload 4, 2) := by decide +kernel
theorem dX9_exact_135 : decode cX9_exact 135 = .ok (.ldc2_w 227, 3) := by decide +kernel
theorem dX9_exact_138 : decode cX9_exact 138 = .ok (.lmul, 1) := by decide +kernel
theorem dX9_exact_139 : decode cX9_exact 139 = .ok (.lstore 4, 2) := by decide +kernel
theorem dX9_exact_141 : decode cX9_exact 141 = .ok (.iconst 0, 1) := by decide +kernel
theorem dX9_exact_142 : decode cX9_exact 142 = .ok (.istore 9, 2) := by decide +kernel
theorem dX9_exact_144 : decode cX9_exact 144 = .ok (.iload 9, 2) := by decide +kernel
theorem dX9_exact_146 : decode cX9_exact 146 = .ok (.aload_n 0, 1) := by decide +kernel
theorem dX9_exact_147 : decode cX9_exact 147 = .ok (.getfield 86, 3) := by decide +kernel
theorem dX9_exact_150 : decode cX9_exact 150 = .ok (.if_icmp .ge 22, 3) := by decide +kernel
theorem dX9_exact_153 : decode cX9_exact 153 = .ok (.aload_n 0, 1) := by decide +kernel
theorem dX9_exact_154 : decode cX9_exact 154 = .ok (.getfield 61, 3) := by decide +kernel
theorem dX9_exact_157 : decode cX9_exact 157 = .ok (.iload 9, 2) := by decide +kernel
theorem dX9_exact_159 : decode cX9_exact 159 = .ok (.dup2, 1) := by decide +kernel
theorem dX9_exact_160 : decode cX9_exact 160 = .ok (.laload, 1) := by decide +kernel
theorem dX9_exact_161 : decode cX9_exact 161 = .ok (.ldc2_w 227, 3) := by decide +kernel
theorem dX9_exact_164 : decode cX9_exact 164 = .ok (.lmul, 1) := by decide +kernel
theorem dX9_exact_165 : decode cX9_exact 165 = .ok (.lastore, 1) := by decide +kernel
theorem dX9_exact_166 : decode cX9_exact 166 = .ok (.iinc 9 1, 3) := by decide +kernel
theorem dX9_exact_169 : decode cX9_exact 169 = .ok (.goto (-25), 3) := by decide +kernel
theorem dX9_exact_172 : decode cX9_exact 172 = .ok (.aload_n 0, 1) := by decide +kernel
theorem dX9_exact_173 : decode cX9_exact 173 = .ok (.getfield 61, 3) := by decide +kernel
theorem dX9_exact_176 : decode cX9_exact 176 = .ok (.iload 8, 2) := by decide +kernel
theorem dX9_exact_178 : decode cX9_exact 178 = .ok (.laload, 1) := by decide +kernel
theorem dX9_exact_179 : decode cX9_exact 179 = .ok (.ldc2_w 227, 3) := by decide +kernel
theorem dX9_exact_182 : decode cX9_exact 182 = .ok (.ldiv, 1) := by decide +kernel
theorem dX9_exact_183 : decode cX9_exact 183 = .ok (.lstore 9, 2) := by decide +kernel
theorem dX9_exact_185 : decode cX9_exact 185 = .ok (.aload_n 0, 1) := by decide +kernel
theorem dX9_exact_186 : decode cX9_exact 186 = .ok (.getfield 61, 3) := by decide +kernel
theorem dX9_exact_189 : decode cX9_exact 189 = .ok (.iload 8, 2) := by decide +kernel
theorem dX9_exact_191 : decode cX9_exact 191 = .ok (.dup2, 1) := by decide +kernel
theorem dX9_exact_192 : decode cX9_exact 192 = .ok (.laload, 1) := by decide +kernel
theorem dX9_exact_193 : decode cX9_exact 193 = .ok (.lload 9, 2) := by decide +kernel
theorem dX9_exact_195 : decode cX9_exact 195 = .ok (.lsub, 1) := by decide +kernel
theorem dX9_exact_196 : decode cX9_exact 196 = .ok (.lastore, 1) := by decide +kernel
theorem dX9_exact_197 : decode cX9_exact 197 = .ok (.aload_n 0, 1) := by decide +kernel
theorem dX9_exact_198 : decode cX9_exact 198 = .ok (.getfield 61, 3) := by decide +kernel
theorem dX9_exact_201 : decode cX9_exact 201 = .ok (.iload 7, 2) := by decide +kernel
theorem dX9_exact_203 : decode cX9_exact 203 = .ok (.dup2, 1) := by decide +kernel
theorem dX9_exact_204 : decode cX9_exact 204 = .ok (.laload, 1) := by decide +kernel
theorem dX9_exact_205 : decode cX9_exact 205 = .ok (.lload 9, 2) := by decide +kernel
theorem dX9_exact_207 : decode cX9_exact 207 = .ok (.ladd, 1) := by decide +kernel
theorem dX9_exact_208 : decode cX9_exact 208 = .ok (.lastore, 1) := by decide +kernel
theorem dX9_exact_209 : decode cX9_exact 209 = .ok (.iinc 6 1, 3) := by decide +kernel
theorem dX9_exact_212 : decode cX9_exact 212 = .ok (.goto (-139), 3) := by decide +kernel
theorem dX9_exact_215 : decode cX9_exact 215 = .ok (.aload_n 0, 1) := by decide +kernel
theorem dX9_exact_216 : decode cX9_exact 216 = .ok (.getfield 61, 3) := by decide +kernel
theorem dX9_exact_219 : decode cX9_exact 219 = .ok (.iload_n 1, 1) := by decide +kernel
theorem dX9_exact_220 : decode cX9_exact 220 = .ok (.laload, 1) := by decide +kernel
theorem dX9_exact_221 : decode cX9_exact 221 = .ok (.lstore 6, 2) := by decide +kernel
theorem dX9_exact_223 : decode cX9_exact 223 = .ok (.lload 4, 2) := by decide +kernel
theorem dX9_exact_225 : decode cX9_exact 225 = .ok (.lconst 1, 1) := by decide +kernel
theorem dX9_exact_226 : decode cX9_exact 226 = .ok (.lcmp, 1) := by decide +kernel
theorem dX9_exact_227 : decode cX9_exact 227 = .ok (.ifCond .le 33, 3) := by decide +kernel
theorem dX9_exact_230 : decode cX9_exact 230 = .ok (.lload 6, 2) := by decide +kernel
theorem dX9_exact_232 : decode cX9_exact 232 = .ok (.ldc2_w 227, 3) := by decide +kernel
theorem dX9_exact_235 : decode cX9_exact 235 = .ok (.lrem, 1) := by decide +kernel
theorem dX9_exact_236 : decode cX9_exact 236 = .ok (.lconst 0, 1) := by decide +kernel
theorem dX9_exact_237 : decode cX9_exact 237 = .ok (.lcmp, 1) := by decide +kernel
theorem dX9_exact_238 : decode cX9_exact 238 = .ok (.ifCond .ne 22, 3) := by decide +kernel
theorem dX9_exact_241 : decode cX9_exact 241 = .ok (.lload 6, 2) := by decide +kernel
theorem dX9_exact_243 : decode cX9_exact 243 = .ok (.ldc2_w 227, 3) := by decide +kernel
theorem dX9_exact_246 : decode cX9_exact 246 = .ok (.ldiv, 1) := by decide +kernel
theorem dX9_exact_247 : decode cX9_exact 247 = .ok (.lstore 6, 2) := by decide +kernel
theorem dX9_exact_249 : decode cX9_exact 249 = .ok (.lload 4, 2) := by decide +kernel
theorem dX9_exact_251 : decode cX9_exact 251 = .ok (.ldc2_w 227, 3) := by decide +kernel
theorem dX9_exact_254 : decode cX9_exact 254 = .ok (.ldiv, 1) := by decide +kernel
theorem dX9_exact_255 : decode cX9_exact 255 = .ok (.lstore 4, 2) := by decide +kernel
theorem dX9_exact_257 : decode cX9_exact 257 = .ok (.goto (-34), 3) := by decide +kernel
theorem dX9_exact_260 : decode cX9_exact 260 = .ok (.iload_n 3, 1) := by decide +kernel
theorem dX9_exact_261 : decode cX9_exact 261 = .ok (.ifCond .ne 8, 3) := by decide +kernel
theorem dX9_exact_264 : decode cX9_exact 264 = .ok (.lload 6, 2) := by decide +kernel
theorem dX9_exact_266 : decode cX9_exact 266 = .ok (.goto 5, 3) := by decide +kernel
theorem dX9_exact_269 : decode cX9_exact 269 = .ok (.lload 4, 2) := by decide +kernel
theorem dX9_exact_271 : decode cX9_exact 271 = .ok (.lreturn, 1) := by decide +kernel
set_option maxRecDepth 20000 in
theorem ggX9_goWithout_X9_begin : GoodIn wsX9_goWithout wsX9_begin := goodIn_r _ [8, 3, 9, 10, 11, 29, 30, 31, 32, 33, 34, 35, 36, 37, 38, 39, 40, 41, 42, 43, 44, 45, 46, 47, 48, 49, 50, 51, 52, 53, 54, 55, 56, 57, 58, 59] rfl (by decide +kernel)
set_option maxRecDepth 20000 in
theorem gX9_goWithout_X9_begin : GoodIn wsX9_goWithout (wsV RX9 119 RX9 yX9_begin wsX9_begin) := goodIn_app (goodIn_of _ (by decide +kernel)) ggX9_goWithout_X9_begin
set_option maxRecDepth 20000 in
theorem ggX9_goWithout_X9_tryAsk : GoodIn wsX9_goWithout wsX9_tryAsk := goodIn_r _ [15, 16, 3, 10, 17, 18, 7, 19, 20, 21, 22, 23, 24, 29, 30, 31, 32, 33, 34, 35, 36, 37, 38, 39, 40, 41, 42, 43, 44, 45, 46, 47, 48, 49, 50, 51, 52, 53, 54, 55, 56, 57, 58, 59] rfl (by decide +kernel)
set_option maxRecDepth 20000 in
theorem gX9_goWithout_X9_tryAsk : GoodIn wsX9_goWithout (wsV RX9 122 RX9 yX9_tryAsk wsX9_tryAsk) := goodIn_app (goodIn_of _ (by decide +kernel)) ggX9_goWithout_X9_tryAsk
set_option maxRecDepth 20000 in
theorem ggX9_goWithout_X9_newWeek : GoodIn wsX9_goWithout wsX9_newWeek := goodIn_r _ [28, 10, 29, 30, 31, 32, 33, 34, 35, 36, 37, 38, 39, 40, 41, 42, 43, 44, 45, 46, 47, 48, 49, 50, 51, 52, 53, 54, 55, 56, 57, 58, 59] rfl (by decide +kernel)
set_option maxRecDepth 20000 in
theorem gX9_goWithout_X9_newWeek : GoodIn wsX9_goWithout (wsV RX9 136 RX9 yX9_newWeek wsX9_newWeek) := goodIn_app (goodIn_of _ (by decide +kernel)) ggX9_goWithout_X9_newWeek
theorem dX9_goWithout_0 : decode cX9_goWithout 0 = .ok (.aload_n 0, 1) := by decide +kernel
theorem dX9_goWithout_1 : decode cX9_goWithout 1 = .ok (.invokevirtual 119, 3) := by decide +kernel
theorem dX9_goWithout_4 : decode cX9_goWithout 4 = .ok (.iconst 0, 1) := by decide +kernel
theorem dX9_goWithout_5 : decode cX9_goWithout 5 = .ok (.istore_n 3, 1) := by decide +kernel
theorem dX9_goWithout_6 : decode cX9_goWithout 6 = .ok (.iload_n 3, 1) := by decide +kernel
theorem dX9_goWithout_7 : decode cX9_goWithout 7 = .ok (.aload_n 0, 1) := by decide +kernel
theorem dX9_goWithout_8 : decode cX9_goWithout 8 = .ok (.getfield 139, 3) := by decide +kernel
theorem dX9_goWithout_11 : decode cX9_goWithout 11 = .ok (.if_icmp .ge 76, 3) := by decide +kernel
theorem dX9_goWithout_14 : decode cX9_goWithout 14 = .ok (.aload_n 0, 1) := by decide +kernel
theorem dX9_goWithout_15 : decode cX9_goWithout 15 = .ok (.getfield 22, 3) := by decide +kernel
theorem dX9_goWithout_18 : decode cX9_goWithout 18 = .ok (.iconst 3, 1) := by decide +kernel
theorem dX9_goWithout_19 : decode cX9_goWithout 19 = .ok (.iload_n 3, 1) := by decide +kernel
theorem dX9_goWithout_20 : decode cX9_goWithout 20 = .ok (.imul, 1) := by decide +kernel
theorem dX9_goWithout_21 : decode cX9_goWithout 21 = .ok (.iaload, 1) := by decide +kernel
theorem dX9_goWithout_22 : decode cX9_goWithout 22 = .ok (.iload_n 2, 1) := by decide +kernel
theorem dX9_goWithout_23 : decode cX9_goWithout 23 = .ok (.if_icmp .ne 17, 3) := by decide +kernel
theorem dX9_goWithout_26 : decode cX9_goWithout 26 = .ok (.aload_n 0, 1) := by decide +kernel
theorem dX9_goWithout_27 : decode cX9_goWithout 27 = .ok (.getfield 22, 3) := by decide +kernel
theorem dX9_goWithout_30 : decode cX9_goWithout 30 = .ok (.iconst 3, 1) := by decide +kernel
theorem dX9_goWithout_31 : decode cX9_goWithout 31 = .ok (.iload_n 3, 1) := by decide +kernel
theorem dX9_goWithout_32 : decode cX9_goWithout 32 = .ok (.imul, 1) := by decide +kernel
theorem dX9_goWithout_33 : decode cX9_goWithout 33 = .ok (.iconst 1, 1) := by decide +kernel
theorem dX9_goWithout_34 : decode cX9_goWithout 34 = .ok (.iadd, 1) := by decide +kernel
theorem dX9_goWithout_35 : decode cX9_goWithout 35 = .ok (.iaload, 1) := by decide +kernel
theorem dX9_goWithout_36 : decode cX9_goWithout 36 = .ok (.iload_n 1, 1) := by decide +kernel
theorem dX9_goWithout_37 : decode cX9_goWithout 37 = .ok (.if_icmp .eq 26, 3) := by decide +kernel
theorem dX9_goWithout_40 : decode cX9_goWithout 40 = .ok (.aload_n 0, 1) := by decide +kernel
theorem dX9_goWithout_41 : decode cX9_goWithout 41 = .ok (.aload_n 0, 1) := by decide +kernel
theorem dX9_goWithout_42 : decode cX9_goWithout 42 = .ok (.getfield 22, 3) := by decide +kernel
theorem dX9_goWithout_45 : decode cX9_goWithout 45 = .ok (.iconst 3, 1) := by decide +kernel
theorem dX9_goWithout_46 : decode cX9_goWithout 46 = .ok (.iload_n 3, 1) := by decide +kernel
theorem dX9_goWithout_47 : decode cX9_goWithout 47 = .ok (.imul, 1) := by decide +kernel
theorem dX9_goWithout_48 : decode cX9_goWithout 48 = .ok (.iaload, 1) := by decide +kernel
theorem dX9_goWithout_49 : decode cX9_goWithout 49 = .ok (.aload_n 0, 1) := by decide +kernel
theorem dX9_goWithout_50 : decode cX9_goWithout 50 = .ok (.getfield 22, 3) := by decide +kernel
theorem dX9_goWithout_53 : decode cX9_goWithout 53 = .ok (.iconst 3, 1) := by decide +kernel
theorem dX9_goWithout_54 : decode cX9_goWithout 54 = .ok (.iload_n 3, 1) := by decide +kernel
theorem dX9_goWithout_55 : decode cX9_goWithout 55 = .ok (.imul, 1) := by decide +kernel
theorem dX9_goWithout_56 : decode cX9_goWithout 56 = .ok (.iconst 1, 1) := by decide +kernel
theorem dX9_goWithout_57 : decode cX9_goWithout 57 = .ok (.iadd, 1) := by decide +kernel
theorem dX9_goWithout_58 : decode cX9_goWithout 58 = .ok (.iaload, 1) := by decide +kernel
theorem dX9_goWithout_59 : decode cX9_goWithout 59 = .ok (.invokevirtual 122, 3) := by decide +kernel
theorem dX9_goWithout_62 : decode cX9_goWithout 62 = .ok (.pop, 1) := by decide +kernel
theorem dX9_goWithout_63 : decode cX9_goWithout 63 = .ok (.aload_n 0, 1) := by decide +kernel
theorem dX9_goWithout_64 : decode cX9_goWithout 64 = .ok (.getfield 22, 3) := by decide +kernel
theorem dX9_goWithout_67 : decode cX9_goWithout 67 = .ok (.iconst 3, 1) := by decide +kernel
theorem dX9_goWithout_68 : decode cX9_goWithout 68 = .ok (.iload_n 3, 1) := by decide +kernel
theorem dX9_goWithout_69 : decode cX9_goWithout 69 = .ok (.imul, 1) := by decide +kernel
theorem dX9_goWithout_70 : decode cX9_goWithout 70 = .ok (.iconst 2, 1) := by decide +kernel
theorem dX9_goWithout_71 : decode cX9_goWithout 71 = .ok (.iadd, 1) := by decide +kernel
theorem dX9_goWithout_72 : decode cX9_goWithout 72 = .ok (.iaload, 1) := by decide +kernel
theorem dX9_goWithout_73 : decode cX9_goWithout 73 = .ok (.iconst 1, 1) := by decide +kernel
theorem dX9_goWithout_74 : decode cX9_goWithout 74 = .ok (.if_icmp .ne 7, 3) := by decide +kernel
theorem dX9_goWithout_77 : decode cX9_goWithout 77 = .ok (.aload_n 0, 1) := by decide +kernel
theorem dX9_goWithout_78 : decode cX9_goWithout 78 = .ok (.invokevirtual 136, 3) := by decide +kernel
theorem dX9_goWithout_81 : decode cX9_goWithout 81 = .ok (.iinc 3 1, 3) := by decide +kernel
theorem dX9_goWithout_84 : decode cX9_goWithout 84 = .ok (.goto (-78), 3) := by decide +kernel
theorem dX9_goWithout_87 : decode cX9_goWithout 87 = .ok (.aload_n 0, 1) := by decide +kernel
theorem dX9_goWithout_88 : decode cX9_goWithout 88 = .ok (.getfield 25, 3) := by decide +kernel
theorem dX9_goWithout_91 : decode cX9_goWithout 91 = .ok (.iload_n 1, 1) := by decide +kernel
theorem dX9_goWithout_92 : decode cX9_goWithout 92 = .ok (.iaload, 1) := by decide +kernel
theorem dX9_goWithout_93 : decode cX9_goWithout 93 = .ok (.ireturn, 1) := by decide +kernel
set_option maxRecDepth 20000 in
theorem ggX9_shun_X9_isOne : GoodIn wsX9_shun wsX9_isOne := goodIn_r _ [6, 1, 7, 8, 5, 9, 41, 42, 43, 44, 45, 46, 47, 48, 49, 50, 51, 52, 53, 54, 55, 56, 57, 58, 59, 60, 61, 62, 63, 64, 65, 66, 67, 68, 69, 70, 71] rfl (by decide +kernel)
set_option maxRecDepth 20000 in
theorem gX9_shun_X9_isOne : GoodIn wsX9_shun (wsV RX9 94 RX9 yX9_isOne wsX9_isOne) := goodIn_app (goodIn_of _ (by decide +kernel)) ggX9_shun_X9_isOne
set_option maxRecDepth 20000 in
theorem ggX9_shun_X9_goWithout : GoodIn wsX9_shun wsX9_goWithout := goodIn_r _ [13, 14, 15, 16, 17, 18, 19, 5, 20, 21, 22, 23, 24, 25, 26, 27, 28, 29, 30, 31, 32, 33, 34, 35, 36, 37, 38, 39, 40, 41, 42, 43, 44, 45, 46, 47, 48, 49, 50, 51, 52, 53, 54, 55, 56, 57, 58, 59, 60, 61, 62, 63, 64, 65, 66, 67, 68, 69, 70, 71] rfl (by decide +kernel)
set_option maxRecDepth 20000 in
theorem gX9_shun_X9_goWithout : GoodIn wsX9_shun (wsV RX9 229 RX9 yX9_goWithout wsX9_goWithout) := goodIn_app (goodIn_of _ (by decide +kernel)) ggX9_shun_X9_goWithout
theorem dX9_shun_0 : decode cX9_shun 0 = .ok (.aload_n 0, 1) := by decide +kernel
theorem dX9_shun_1 : decode cX9_shun 1 = .ok (.iload_n 1, 1) := by decide +kernel
theorem dX9_shun_2 : decode cX9_shun 2 = .ok (.invokevirtual 94, 3) := by decide +kernel
theorem dX9_shun_5 : decode cX9_shun 5 = .ok (.ifCond .ne 5, 3) := by decide +kernel
theorem dX9_shun_8 : decode cX9_shun 8 = .ok (.iconst (-1), 1) := by decide +kernel
theorem dX9_shun_9 : decode cX9_shun 9 = .ok (.ireturn, 1) := by decide +kernel
theorem dX9_shun_10 : decode cX9_shun 10 = .ok (.aload_n 0, 1) := by decide +kernel
theorem dX9_shun_11 : decode cX9_shun 11 = .ok (.iload_n 1, 1) := by decide +kernel
theorem dX9_shun_12 : decode cX9_shun 12 = .ok (.bipush 9, 2) := by decide +kernel
theorem dX9_shun_14 : decode cX9_shun 14 = .ok (.invokevirtual 229, 3) := by decide +kernel
theorem dX9_shun_17 : decode cX9_shun 17 = .ok (.istore_n 2, 1) := by decide +kernel
theorem dX9_shun_18 : decode cX9_shun 18 = .ok (.bipush 9, 2) := by decide +kernel
theorem dX9_shun_20 : decode cX9_shun 20 = .ok (.istore_n 3, 1) := by decide +kernel
theorem dX9_shun_21 : decode cX9_shun 21 = .ok (.iconst 0, 1) := by decide +kernel
theorem dX9_shun_22 : decode cX9_shun 22 = .ok (.istore 4, 2) := by decide +kernel
theorem dX9_shun_24 : decode cX9_shun 24 = .ok (.iload 4, 2) := by decide +kernel
theorem dX9_shun_26 : decode cX9_shun 26 = .ok (.aload_n 0, 1) := by decide +kernel
theorem dX9_shun_27 : decode cX9_shun 27 = .ok (.getfield 86, 3) := by decide +kernel
theorem dX9_shun_30 : decode cX9_shun 30 = .ok (.if_icmp .ge 54, 3) := by decide +kernel
theorem dX9_shun_33 : decode cX9_shun 33 = .ok (.iload 4, 2) := by decide +kernel
theorem dX9_shun_35 : decode cX9_shun 35 = .ok (.iload_n 1, 1) := by decide +kernel
theorem dX9_shun_36 : decode cX9_shun 36 = .ok (.if_icmp .ne 7, 3) := by decide +kernel
theorem dX9_shun_39 : decode cX9_shun 39 = .ok (.iconst (-1), 1) := by decide +kernel
theorem dX9_shun_40 : decode cX9_shun 40 = .ok (.goto 10, 3) := by decide +kernel
theorem dX9_shun_43 : decode cX9_shun 43 = .ok (.aload_n 0, 1) := by decide +kernel
theorem dX9_shun_44 : decode cX9_shun 44 = .ok (.iload_n 1, 1) := by decide +kernel
theorem dX9_shun_45 : decode cX9_shun 45 = .ok (.iload 4, 2) := by decide +kernel
theorem dX9_shun_47 : decode cX9_shun 47 = .ok (.invokevirtual 229, 3) := by decide +kernel
theorem dX9_shun_50 : decode cX9_shun 50 = .ok (.istore 5, 2) := by decide +kernel
theorem dX9_shun_52 : decode cX9_shun 52 = .ok (.iload 5, 2) := by decide +kernel
theorem dX9_shun_54 : decode cX9_shun 54 = .ok (.iload_n 2, 1) := by decide +kernel
theorem dX9_shun_55 : decode cX9_shun 55 = .ok (.if_icmp .le 8, 3) := by decide +kernel
theorem dX9_shun_58 : decode cX9_shun 58 = .ok (.iload 4, 2) := by decide +kernel
theorem dX9_shun_60 : decode cX9_shun 60 = .ok (.goto 4, 3) := by decide +kernel
theorem dX9_shun_63 : decode cX9_shun 63 = .ok (.iload_n 3, 1) := by decide +kernel
theorem dX9_shun_64 : decode cX9_shun 64 = .ok (.istore_n 3, 1) := by decide +kernel
theorem dX9_shun_65 : decode cX9_shun 65 = .ok (.iload 5, 2) := by decide +kernel
theorem dX9_shun_67 : decode cX9_shun 67 = .ok (.iload_n 2, 1) := by decide +kernel
theorem dX9_shun_68 : decode cX9_shun 68 = .ok (.if_icmp .le 8, 3) := by decide +kernel
theorem dX9_shun_71 : decode cX9_shun 71 = .ok (.iload 5, 2) := by decide +kernel
theorem dX9_shun_73 : decode cX9_shun 73 = .ok (.goto 4, 3) := by decide +kernel
theorem dX9_shun_76 : decode cX9_shun 76 = .ok (.iload_n 2, 1) := by decide +kernel
theorem dX9_shun_77 : decode cX9_shun 77 = .ok (.istore_n 2, 1) := by decide +kernel
theorem dX9_shun_78 : decode cX9_shun 78 = .ok (.iinc 4 1, 3) := by decide +kernel
theorem dX9_shun_81 : decode cX9_shun 81 = .ok (.goto (-57), 3) := by decide +kernel
theorem dX9_shun_84 : decode cX9_shun 84 = .ok (.iload_n 3, 1) := by decide +kernel
theorem dX9_shun_85 : decode cX9_shun 85 = .ok (.ireturn, 1) := by decide +kernel
theorem dX9_carried_0 : decode cX9_carried 0 = .ok (.iload_n 1, 1) := by decide +kernel
theorem dX9_carried_1 : decode cX9_carried 1 = .ok (.bipush 20, 2) := by decide +kernel
theorem dX9_carried_3 : decode cX9_carried 3 = .ok (.if_icmp .ge 179, 3) := by decide +kernel
theorem dX9_carried_6 : decode cX9_carried 6 = .ok (.iload_n 1, 1) := by decide +kernel
theorem dX9_carried_7 : decode cX9_carried 7 = .ok (.iconst 5, 1) := by decide +kernel
theorem dX9_carried_8 : decode cX9_carried 8 = .ok (.irem, 1) := by decide +kernel
theorem dX9_carried_9 : decode cX9_carried 9 = .ok (.istore 4, 2) := by decide +kernel
theorem dX9_carried_11 : decode cX9_carried 11 = .ok (.iload_n 1, 1) := by decide +kernel
theorem dX9_carried_12 : decode cX9_carried 12 = .ok (.iconst 5, 1) := by decide +kernel
theorem dX9_carried_13 : decode cX9_carried 13 = .ok (.idiv, 1) := by decide +kernel
theorem dX9_carried_14 : decode cX9_carried 14 = .ok (.istore 5, 2) := by decide +kernel
theorem dX9_carried_16 : decode cX9_carried 16 = .ok (.aload_n 0, 1) := by decide +kernel
theorem dX9_carried_17 : decode cX9_carried 17 = .ok (.getfield 7, 3) := by decide +kernel
theorem dX9_carried_20 : decode cX9_carried 20 = .ok (.iload 4, 2) := by decide +kernel
theorem dX9_carried_22 : decode cX9_carried 22 = .ok (.iload_n 3, 1) := by decide +kernel
theorem dX9_carried_23 : decode cX9_carried 23 = .ok (.ifCond .eq 12, 3) := by decide +kernel
theorem dX9_carried_26 : decode cX9_carried 26 = .ok (.iload 5, 2) := by decide +kernel
theorem dX9_carried_28 : decode cX9_carried 28 = .ok (.ifCond .ne 7, 3) := by decide +kernel
theorem dX9_carried_31 : decode cX9_carried 31 = .ok (.iload_n 2, 1) := by decide +kernel
theorem dX9_carried_32 : decode cX9_carried 32 = .ok (.goto 10, 3) := by decide +kernel
theorem dX9_carried_35 : decode cX9_carried 35 = .ok (.aload_n 0, 1) := by decide +kernel
theorem dX9_carried_36 : decode cX9_carried 36 = .ok (.getfield 7, 3) := by decide +kernel
theorem dX9_carried_39 : decode cX9_carried 39 = .ok (.iload 4, 2) := by decide +kernel
theorem dX9_carried_41 : decode cX9_carried 41 = .ok (.iaload, 1) := by decide +kernel
theorem dX9_carried_42 : decode cX9_carried 42 = .ok (.iastore, 1) := by decide +kernel
theorem dX9_carried_43 : decode cX9_carried 43 = .ok (.aload_n 0, 1) := by decide +kernel
theorem dX9_carried_44 : decode cX9_carried 44 = .ok (.getfield 13, 3) := by decide +kernel
theorem dX9_carried_47 : decode cX9_carried 47 = .ok (.iload 4, 2) := by decide +kernel
theorem dX9_carried_49 : decode cX9_carried 49 = .ok (.iload_n 3, 1) := by decide +kernel
theorem dX9_carried_50 : decode cX9_carried 50 = .ok (.ifCond .eq 13, 3) := by decide +kernel
theorem dX9_carried_53 : decode cX9_carried 53 = .ok (.iload 5, 2) := by decide +kernel
theorem dX9_carried_55 : decode cX9_carried 55 = .ok (.iconst 1, 1) := by decide +kernel
theorem dX9_carried_56 : decode cX9_carried 56 = .ok (.if_icmp .ne 7, 3) := by decide +kernel
theorem dX9_carried_59 : decode cX9_carried 59 = .ok (.iload_n 2, 1) := by decide +kernel
theorem dX9_carried_60 : decode cX9_carried 60 = .ok (.goto 10, 3) := by decide +kernel
theorem dX9_carried_63 : decode cX9_carried 63 = .ok (.aload_n 0, 1) := by decide +kernel
theorem dX9_carried_64 : decode cX9_carried 64 = .ok (.getfield 13, 3) := by decide +kernel
theorem dX9_carried_67 : decode cX9_carried 67 = .ok (.iload 4, 2) := by decide +kernel
theorem dX9_carried_69 : decode cX9_carried 69 = .ok (.iaload, 1) := by decide +kernel
theorem dX9_carried_70 : decode cX9_carried 70 = .ok (.iastore, 1) := by decide +kernel
theorem dX9_carried_71 : decode cX9_carried 71 = .ok (.aload_n 0, 1) := by decide +kernel
theorem dX9_carried_72 : decode cX9_carried 72 = .ok (.getfield 16, 3) := by decide +kernel
theorem dX9_carried_75 : decode cX9_carried 75 = .ok (.iload 4, 2) := by decide +kernel
theorem dX9_carried_77 : decode cX9_carried 77 = .ok (.iload_n 3, 1) := by decide +kernel
theorem dX9_carried_78 : decode cX9_carried 78 = .ok (.ifCond .eq 13, 3) := by decide +kernel
theorem dX9_carried_81 : decode cX9_carried 81 = .ok (.iload 5, 2) := by decide +kernel
theorem dX9_carried_83 : decode cX9_carried 83 = .ok (.iconst 2, 1) := by decide +kernel
theorem dX9_carried_84 : decode cX9_carried 84 = .ok (.if_icmp .ne 7, 3) := by decide +kernel
theorem dX9_carried_87 : decode cX9_carried 87 = .ok (.iload_n 2, 1) := by decide +kernel
theorem dX9_carried_88 : decode cX9_carried 88 = .ok (.goto 10, 3) := by decide +kernel
theorem dX9_carried_91 : decode cX9_carried 91 = .ok (.aload_n 0, 1) := by decide +kernel
theorem dX9_carried_92 : decode cX9_carried 92 = .ok (.getfield 16, 3) := by decide +kernel
theorem dX9_carried_95 : decode cX9_carried 95 = .ok (.iload 4, 2) := by decide +kernel
theorem dX9_carried_97 : decode cX9_carried 97 = .ok (.iaload, 1) := by decide +kernel
theorem dX9_carried_98 : decode cX9_carried 98 = .ok (.iastore, 1) := by decide +kernel
theorem dX9_carried_99 : decode cX9_carried 99 = .ok (.aload_n 0, 1) := by decide +kernel
theorem dX9_carried_100 : decode cX9_carried 100 = .ok (.getfield 19, 3) := by decide +kernel
theorem dX9_carried_103 : decode cX9_carried 103 = .ok (.iload 4, 2) := by decide +kernel
theorem dX9_carried_105 : decode cX9_carried 105 = .ok (.iload_n 3, 1) := by decide +kernel
theorem dX9_carried_106 : decode cX9_carried 106 = .ok (.ifCond .eq 13, 3) := by decide +kernel
theorem dX9_carried_109 : decode cX9_carried 109 = .ok (.iload 5, 2) := by decide +kernel
theorem dX9_carried_111 : decode cX9_carried 111 = .ok (.iconst 3, 1) := by decide +kernel
theorem dX9_carried_112 : decode cX9_carried 112 = .ok (.if_icmp .ne 7, 3) := by decide +kernel
theorem dX9_carried_115 : decode cX9_carried 115 = .ok (.iload_n 2, 1) := by decide +kernel
theorem dX9_carried_116 : decode cX9_carried 116 = .ok (.goto 10, 3) := by decide +kernel
theorem dX9_carried_119 : decode cX9_carried 119 = .ok (.aload_n 0, 1) := by decide +kernel
theorem dX9_carried_120 : decode cX9_carried 120 = .ok (.getfield 19, 3) := by decide +kernel
theorem dX9_carried_123 : decode cX9_carried 123 = .ok (.iload 4, 2) := by decide +kernel
theorem dX9_carried_125 : decode cX9_carried 125 = .ok (.iaload, 1) := by decide +kernel
theorem dX9_carried_126 : decode cX9_carried 126 = .ok (.iastore, 1) := by decide +kernel
theorem dX9_carried_127 : decode cX9_carried 127 = .ok (.iload 5, 2) := by decide +kernel
theorem dX9_carried_129 : decode cX9_carried 129 = .ok (.ifCond .ne 13, 3) := by decide +kernel
theorem dX9_carried_132 : decode cX9_carried 132 = .ok (.aload_n 0, 1) := by decide +kernel
theorem dX9_carried_133 : decode cX9_carried 133 = .ok (.getfield 7, 3) := by decide +kernel
theorem dX9_carried_136 : decode cX9_carried 136 = .ok (.iload 4, 2) := by decide +kernel
theorem dX9_carried_138 : decode cX9_carried 138 = .ok (.iaload, 1) := by decide +kernel
theorem dX9_carried_139 : decode cX9_carried 139 = .ok (.goto 42, 3) := by decide +kernel
theorem dX9_carried_142 : decode cX9_carried 142 = .ok (.iload 5, 2) := by decide +kernel
theorem dX9_carried_144 : decode cX9_carried 144 = .ok (.iconst 1, 1) := by decide +kernel
theorem dX9_carried_145 : decode cX9_carried 145 = .ok (.if_icmp .ne 13, 3) := by decide +kernel
theorem dX9_carried_148 : decode cX9_carried 148 = .ok (.aload_n 0, 1) := by decide +kernel
theorem dX9_carried_149 : decode cX9_carried 149 = .ok (.getfield 13, 3) := by decide +kernel
theorem dX9_carried_152 : decode cX9_carried 152 = .ok (.iload 4, 2) := by decide +kernel
theorem dX9_carried_154 : decode cX9_carried 154 = .ok (.iaload, 1) := by decide +kernel
theorem dX9_carried_155 : decode cX9_carried 155 = .ok (.goto 26, 3) := by decide +kernel
theorem dX9_carried_158 : decode cX9_carried 158 = .ok (.iload 5, 2) := by decide +kernel
theorem dX9_carried_160 : decode cX9_carried 160 = .ok (.iconst 2, 1) := by decide +kernel
theorem dX9_carried_161 : decode cX9_carried 161 = .ok (.if_icmp .ne 13, 3) := by decide +kernel
theorem dX9_carried_164 : decode cX9_carried 164 = .ok (.aload_n 0, 1) := by decide +kernel
theorem dX9_carried_165 : decode cX9_carried 165 = .ok (.getfield 16, 3) := by decide +kernel
theorem dX9_carried_168 : decode cX9_carried 168 = .ok (.iload 4, 2) := by decide +kernel
theorem dX9_carried_170 : decode cX9_carried 170 = .ok (.iaload, 1) := by decide +kernel
theorem dX9_carried_171 : decode cX9_carried 171 = .ok (.goto 10, 3) := by decide +kernel
theorem dX9_carried_174 : decode cX9_carried 174 = .ok (.aload_n 0, 1) := by decide +kernel
theorem dX9_carried_175 : decode cX9_carried 175 = .ok (.getfield 19, 3) := by decide +kernel
theorem dX9_carried_178 : decode cX9_carried 178 = .ok (.iload 4, 2) := by decide +kernel
theorem dX9_carried_180 : decode cX9_carried 180 = .ok (.iaload, 1) := by decide +kernel
theorem dX9_carried_181 : decode cX9_carried 181 = .ok (.ireturn, 1) := by decide +kernel
theorem dX9_carried_182 : decode cX9_carried 182 = .ok (.iload_n 1, 1) := by decide +kernel
theorem dX9_carried_183 : decode cX9_carried 183 = .ok (.bipush 44, 2) := by decide +kernel
theorem dX9_carried_185 : decode cX9_carried 185 = .ok (.if_icmp .ge 39, 3) := by decide +kernel
theorem dX9_carried_188 : decode cX9_carried 188 = .ok (.aload_n 0, 1) := by decide +kernel
theorem dX9_carried_189 : decode cX9_carried 189 = .ok (.getfield 22, 3) := by decide +kernel
theorem dX9_carried_192 : decode cX9_carried 192 = .ok (.iload_n 1, 1) := by decide +kernel
theorem dX9_carried_193 : decode cX9_carried 193 = .ok (.bipush 20, 2) := by decide +kernel
theorem dX9_carried_195 : decode cX9_carried 195 = .ok (.isub, 1) := by decide +kernel
theorem dX9_carried_196 : decode cX9_carried 196 = .ok (.iload_n 3, 1) := by decide +kernel
theorem dX9_carried_197 : decode cX9_carried 197 = .ok (.ifCond .eq 7, 3) := by decide +kernel
theorem dX9_carried_200 : decode cX9_carried 200 = .ok (.iload_n 2, 1) := by decide +kernel
theorem dX9_carried_201 : decode cX9_carried 201 = .ok (.goto 12, 3) := by decide +kernel
theorem dX9_carried_204 : decode cX9_carried 204 = .ok (.aload_n 0, 1) := by decide +kernel
theorem dX9_carried_205 : decode cX9_carried 205 = .ok (.getfield 22, 3) := by decide +kernel
theorem dX9_carried_208 : decode cX9_carried 208 = .ok (.iload_n 1, 1) := by decide +kernel
theorem dX9_carried_209 : decode cX9_carried 209 = .ok (.bipush 20, 2) := by decide +kernel
theorem dX9_carried_211 : decode cX9_carried 211 = .ok (.isub, 1) := by decide +kernel
theorem dX9_carried_212 : decode cX9_carried 212 = .ok (.iaload, 1) := by decide +kernel
theorem dX9_carried_213 : decode cX9_carried 213 = .ok (.iastore, 1) := by decide +kernel
theorem dX9_carried_214 : decode cX9_carried 214 = .ok (.aload_n 0, 1) := by decide +kernel
theorem dX9_carried_215 : decode cX9_carried 215 = .ok (.getfield 22, 3) := by decide +kernel
theorem dX9_carried_218 : decode cX9_carried 218 = .ok (.iload_n 1, 1) := by decide +kernel
theorem dX9_carried_219 : decode cX9_carried 219 = .ok (.bipush 20, 2) := by decide +kernel
theorem dX9_carried_221 : decode cX9_carried 221 = .ok (.isub, 1) := by decide +kernel
theorem dX9_carried_222 : decode cX9_carried 222 = .ok (.iaload, 1) := by decide +kernel
theorem dX9_carried_223 : decode cX9_carried 223 = .ok (.ireturn, 1) := by decide +kernel
theorem dX9_carried_224 : decode cX9_carried 224 = .ok (.aload_n 0, 1) := by decide +kernel
theorem dX9_carried_225 : decode cX9_carried 225 = .ok (.iload_n 3, 1) := by decide +kernel
theorem dX9_carried_226 : decode cX9_carried 226 = .ok (.ifCond .eq 13, 3) := by decide +kernel
theorem dX9_carried_229 : decode cX9_carried 229 = .ok (.iload_n 1, 1) := by decide +kernel
theorem dX9_carried_230 : decode cX9_carried 230 = .ok (.bipush 44, 2) := by decide +kernel
theorem dX9_carried_232 : decode cX9_carried 232 = .ok (.if_icmp .ne 7, 3) := by decide +kernel
theorem dX9_carried_235 : decode cX9_carried 235 = .ok (.iload_n 2, 1) := by decide +kernel
theorem dX9_carried_236 : decode cX9_carried 236 = .ok (.goto 7, 3) := by decide +kernel
theorem dX9_carried_239 : decode cX9_carried 239 = .ok (.aload_n 0, 1) := by decide +kernel
theorem dX9_carried_240 : decode cX9_carried 240 = .ok (.getfield 86, 3) := by decide +kernel
theorem dX9_carried_243 : decode cX9_carried 243 = .ok (.putfield 86, 3) := by decide +kernel
theorem dX9_carried_246 : decode cX9_carried 246 = .ok (.aload_n 0, 1) := by decide +kernel
theorem dX9_carried_247 : decode cX9_carried 247 = .ok (.iload_n 3, 1) := by decide +kernel
theorem dX9_carried_248 : decode cX9_carried 248 = .ok (.ifCond .eq 13, 3) := by decide +kernel
theorem dX9_carried_251 : decode cX9_carried 251 = .ok (.iload_n 1, 1) := by decide +kernel
theorem dX9_carried_252 : decode cX9_carried 252 = .ok (.bipush 45, 2) := by decide +kernel
theorem dX9_carried_254 : decode cX9_carried 254 = .ok (.if_icmp .ne 7, 3) := by decide +kernel
theorem dX9_carried_257 : decode cX9_carried 257 = .ok (.iload_n 2, 1) := by decide +kernel
theorem dX9_carried_258 : decode cX9_carried 258 = .ok (.goto 7, 3) := by decide +kernel
theorem dX9_carried_261 : decode cX9_carried 261 = .ok (.aload_n 0, 1) := by decide +kernel
theorem dX9_carried_262 : decode cX9_carried 262 = .ok (.getfield 139, 3) := by decide +kernel
theorem dX9_carried_265 : decode cX9_carried 265 = .ok (.putfield 139, 3) := by decide +kernel
theorem dX9_carried_268 : decode cX9_carried 268 = .ok (.iload_n 1, 1) := by decide +kernel
theorem dX9_carried_269 : decode cX9_carried 269 = .ok (.bipush 44, 2) := by decide +kernel
theorem dX9_carried_271 : decode cX9_carried 271 = .ok (.if_icmp .ne 10, 3) := by decide +kernel
theorem dX9_carried_274 : decode cX9_carried 274 = .ok (.aload_n 0, 1) := by decide +kernel
theorem dX9_carried_275 : decode cX9_carried 275 = .ok (.getfield 86, 3) := by decide +kernel
theorem dX9_carried_278 : decode cX9_carried 278 = .ok (.goto 7, 3) := by decide +kernel
theorem dX9_carried_281 : decode cX9_carried 281 = .ok (.aload_n 0, 1) := by decide +kernel
theorem dX9_carried_282 : decode cX9_carried 282 = .ok (.getfield 139, 3) := by decide +kernel
theorem dX9_carried_285 : decode cX9_carried 285 = .ok (.ireturn, 1) := by decide +kernel
set_option maxRecDepth 20000 in
theorem ggX9_image_X9_carried : GoodIn wsX9_image wsX9_carried := goodIn_r _ [7, 8, 9, 10, 11, 12, 13, 14, 15, 16, 17, 18, 19, 20, 21, 22, 23, 24, 25, 26, 27, 28, 29, 30, 31, 32, 33, 34, 35, 36, 37, 38, 39, 40, 41, 42, 43, 44, 45] rfl (by decide +kernel)
set_option maxRecDepth 20000 in
theorem gX9_image_X9_carried : GoodIn wsX9_image (wsV RX9 232 RX9 yX9_carried wsX9_carried) := goodIn_app (goodIn_of _ (by decide +kernel)) ggX9_image_X9_carried
theorem dX9_image_0 : decode cX9_image 0 = .ok (.iconst 0, 1) := by decide +kernel
theorem dX9_image_1 : decode cX9_image 1 = .ok (.istore_n 1, 1) := by decide +kernel
theorem dX9_image_2 : decode cX9_image 2 = .ok (.iload_n 1, 1) := by decide +kernel
theorem dX9_image_3 : decode cX9_image 3 = .ok (.bipush 46, 2) := by decide +kernel
theorem dX9_image_5 : decode cX9_image 5 = .ok (.if_icmp .ge 22, 3) := by decide +kernel
theorem dX9_image_8 : decode cX9_image 8 = .ok (.aload_n 0, 1) := by decide +kernel
theorem dX9_image_9 : decode cX9_image 9 = .ok (.getfield 65, 3) := by decide +kernel
theorem dX9_image_12 : decode cX9_image 12 = .ok (.iload_n 1, 1) := by decide +kernel
theorem dX9_image_13 : decode cX9_image 13 = .ok (.aload_n 0, 1) := by decide +kernel
theorem dX9_image_14 : decode cX9_image 14 = .ok (.iload_n 1, 1) := by decide +kernel
theorem dX9_image_15 : decode cX9_image 15 = .ok (.iconst 0, 1) := by decide +kernel
theorem dX9_image_16 : decode cX9_image 16 = .ok (.iconst 0, 1) := by decide +kernel
theorem dX9_image_17 : decode cX9_image 17 = .ok (.invokevirtual 232, 3) := by decide +kernel
theorem dX9_image_20 : decode cX9_image 20 = .ok (.iastore, 1) := by decide +kernel
theorem dX9_image_21 : decode cX9_image 21 = .ok (.iinc 1 1, 3) := by decide +kernel
theorem dX9_image_24 : decode cX9_image 24 = .ok (.goto (-22), 3) := by decide +kernel
theorem dX9_image_27 : decode cX9_image 27 = .ok (.aload_n 0, 1) := by decide +kernel
theorem dX9_image_28 : decode cX9_image 28 = .ok (.iconst 1, 1) := by decide +kernel
theorem dX9_image_29 : decode cX9_image 29 = .ok (.putfield 236, 3) := by decide +kernel
theorem dX9_image_32 : decode cX9_image 32 = .ok (.iconst 1, 1) := by decide +kernel
theorem dX9_image_33 : decode cX9_image 33 = .ok (.ireturn, 1) := by decide +kernel
set_option maxRecDepth 20000 in
theorem ggX9_restore_X9_carried : GoodIn wsX9_restore wsX9_carried := goodIn_r _ [7, 8, 9, 10, 11, 12, 13, 14, 15, 16, 17, 18, 19, 20, 21, 22, 23, 24, 25, 26, 27, 28, 29, 30, 31, 32, 33, 34, 35, 36, 37, 38, 39, 40, 41, 42, 43, 44, 45] rfl (by decide +kernel)
set_option maxRecDepth 20000 in
theorem gX9_restore_X9_carried : GoodIn wsX9_restore (wsV RX9 232 RX9 yX9_carried wsX9_carried) := goodIn_app (goodIn_of _ (by decide +kernel)) ggX9_restore_X9_carried
theorem dX9_restore_0 : decode cX9_restore 0 = .ok (.aload_n 0, 1) := by decide +kernel
theorem dX9_restore_1 : decode cX9_restore 1 = .ok (.getfield 236, 3) := by decide +kernel
theorem dX9_restore_4 : decode cX9_restore 4 = .ok (.ifCond .ne 6, 3) := by decide +kernel
theorem dX9_restore_7 : decode cX9_restore 7 = .ok (.bipush (-4), 2) := by decide +kernel
theorem dX9_restore_9 : decode cX9_restore 9 = .ok (.ireturn, 1) := by decide +kernel
theorem dX9_restore_10 : decode cX9_restore 10 = .ok (.iconst 0, 1) := by decide +kernel
theorem dX9_restore_11 : decode cX9_restore 11 = .ok (.istore_n 1, 1) := by decide +kernel
theorem dX9_restore_12 : decode cX9_restore 12 = .ok (.iload_n 1, 1) := by decide +kernel
theorem dX9_restore_13 : decode cX9_restore 13 = .ok (.bipush 46, 2) := by decide +kernel
theorem dX9_restore_15 : decode cX9_restore 15 = .ok (.if_icmp .ge 22, 3) := by decide +kernel
theorem dX9_restore_18 : decode cX9_restore 18 = .ok (.aload_n 0, 1) := by decide +kernel
theorem dX9_restore_19 : decode cX9_restore 19 = .ok (.iload_n 1, 1) := by decide +kernel
theorem dX9_restore_20 : decode cX9_restore 20 = .ok (.aload_n 0, 1) := by decide +kernel
theorem dX9_restore_21 : decode cX9_restore 21 = .ok (.getfield 65, 3) := by decide +kernel
theorem dX9_restore_24 : decode cX9_restore 24 = .ok (.iload_n 1, 1) := by decide +kernel
theorem dX9_restore_25 : decode cX9_restore 25 = .ok (.iaload, 1) := by decide +kernel
theorem dX9_restore_26 : decode cX9_restore 26 = .ok (.iconst 1, 1) := by decide +kernel
theorem dX9_restore_27 : decode cX9_restore 27 = .ok (.invokevirtual 232, 3) := by decide +kernel
theorem dX9_restore_30 : decode cX9_restore 30 = .ok (.pop, 1) := by decide +kernel
theorem dX9_restore_31 : decode cX9_restore 31 = .ok (.iinc 1 1, 3) := by decide +kernel
theorem dX9_restore_34 : decode cX9_restore 34 = .ok (.goto (-22), 3) := by decide +kernel
theorem dX9_restore_37 : decode cX9_restore 37 = .ok (.iconst 1, 1) := by decide +kernel
theorem dX9_restore_38 : decode cX9_restore 38 = .ok (.ireturn, 1) := by decide +kernel
set_option maxRecDepth 20000 in
theorem ggX9_isSheet_X9_in : GoodIn wsX9_isSheet wsX9_in := goodIn_r _ [6] rfl (by decide +kernel)
set_option maxRecDepth 20000 in
theorem gX9_isSheet_X9_in : GoodIn wsX9_isSheet (va_wsS RX9 90 yX9_in wsX9_in) := goodIn_app (goodIn_of _ (by decide +kernel)) ggX9_isSheet_X9_in
theorem dX9_isSheet_0 : decode cX9_isSheet 0 = .ok (.iload_n 0, 1) := by decide +kernel
theorem dX9_isSheet_1 : decode cX9_isSheet 1 = .ok (.i2l, 1) := by decide +kernel
theorem dX9_isSheet_2 : decode cX9_isSheet 2 = .ok (.lconst 0, 1) := by decide +kernel
theorem dX9_isSheet_3 : decode cX9_isSheet 3 = .ok (.ldc2_w 98, 3) := by decide +kernel
theorem dX9_isSheet_6 : decode cX9_isSheet 6 = .ok (.invokestatic 90, 3) := by decide +kernel
theorem dX9_isSheet_9 : decode cX9_isSheet 9 = .ok (.ifCond .eq 19, 3) := by decide +kernel
theorem dX9_isSheet_12 : decode cX9_isSheet 12 = .ok (.iload_n 1, 1) := by decide +kernel
theorem dX9_isSheet_13 : decode cX9_isSheet 13 = .ok (.i2l, 1) := by decide +kernel
theorem dX9_isSheet_14 : decode cX9_isSheet 14 = .ok (.lconst 0, 1) := by decide +kernel
theorem dX9_isSheet_15 : decode cX9_isSheet 15 = .ok (.ldc2_w 227, 3) := by decide +kernel
theorem dX9_isSheet_18 : decode cX9_isSheet 18 = .ok (.invokestatic 90, 3) := by decide +kernel
theorem dX9_isSheet_21 : decode cX9_isSheet 21 = .ok (.ifCond .eq 7, 3) := by decide +kernel
theorem dX9_isSheet_24 : decode cX9_isSheet 24 = .ok (.iconst 1, 1) := by decide +kernel
theorem dX9_isSheet_25 : decode cX9_isSheet 25 = .ok (.goto 4, 3) := by decide +kernel
theorem dX9_isSheet_28 : decode cX9_isSheet 28 = .ok (.iconst 0, 1) := by decide +kernel
theorem dX9_isSheet_29 : decode cX9_isSheet 29 = .ok (.ireturn, 1) := by decide +kernel
theorem dX9_asLane_0 : decode cX9_asLane 0 = .ok (.iload_n 0, 1) := by decide +kernel
theorem dX9_asLane_1 : decode cX9_asLane 1 = .ok (.ifCond .ne 13, 3) := by decide +kernel
theorem dX9_asLane_4 : decode cX9_asLane 4 = .ok (.lload_n 1, 1) := by decide +kernel
theorem dX9_asLane_5 : decode cX9_asLane 5 = .ok (.bipush 56, 2) := by decide +kernel
theorem dX9_asLane_7 : decode cX9_asLane 7 = .ok (.lshl, 1) := by decide +kernel
theorem dX9_asLane_8 : decode cX9_asLane 8 = .ok (.bipush 56, 2) := by decide +kernel
theorem dX9_asLane_10 : decode cX9_asLane 10 = .ok (.lshr, 1) := by decide +kernel
theorem dX9_asLane_11 : decode cX9_asLane 11 = .ok (.goto 19, 3) := by decide +kernel
theorem dX9_asLane_14 : decode cX9_asLane 14 = .ok (.iload_n 0, 1) := by decide +kernel
theorem dX9_asLane_15 : decode cX9_asLane 15 = .ok (.iconst 1, 1) := by decide +kernel
theorem dX9_asLane_16 : decode cX9_asLane 16 = .ok (.if_icmp .ne 13, 3) := by decide +kernel
theorem dX9_asLane_19 : decode cX9_asLane 19 = .ok (.lload_n 1, 1) := by decide +kernel
theorem dX9_asLane_20 : decode cX9_asLane 20 = .ok (.bipush 32, 2) := by decide +kernel
theorem dX9_asLane_22 : decode cX9_asLane 22 = .ok (.lshl, 1) := by decide +kernel
theorem dX9_asLane_23 : decode cX9_asLane 23 = .ok (.bipush 32, 2) := by decide +kernel
theorem dX9_asLane_25 : decode cX9_asLane 25 = .ok (.lshr, 1) := by decide +kernel
theorem dX9_asLane_26 : decode cX9_asLane 26 = .ok (.goto 4, 3) := by decide +kernel
theorem dX9_asLane_29 : decode cX9_asLane 29 = .ok (.lload_n 1, 1) := by decide +kernel
theorem dX9_asLane_30 : decode cX9_asLane 30 = .ok (.lreturn, 1) := by decide +kernel
set_option maxRecDepth 20000 in
theorem ggX9_sheet_X9_isSheet : GoodIn wsX9_sheet wsX9_isSheet := goodIn_r _ [7, 8, 9, 10, 11, 6, 12] rfl (by decide +kernel)
set_option maxRecDepth 20000 in
theorem gX9_sheet_X9_isSheet : GoodIn wsX9_sheet (va_wsS RX9 240 yX9_isSheet wsX9_isSheet) := goodIn_app (goodIn_of _ (by decide +kernel)) ggX9_sheet_X9_isSheet
theorem dX9_sheet_0 : decode cX9_sheet 0 = .ok (.iload_n 1, 1) := by decide +kernel
theorem dX9_sheet_1 : decode cX9_sheet 1 = .ok (.iload_n 2, 1) := by decide +kernel
theorem dX9_sheet_2 : decode cX9_sheet 2 = .ok (.invokestatic 240, 3) := by decide +kernel
theorem dX9_sheet_5 : decode cX9_sheet 5 = .ok (.ifCond .eq 9, 3) := by decide +kernel
theorem dX9_sheet_8 : decode cX9_sheet 8 = .ok (.iload_n 3, 1) := by decide +kernel
theorem dX9_sheet_9 : decode cX9_sheet 9 = .ok (.bipush 24, 2) := by decide +kernel
theorem dX9_sheet_11 : decode cX9_sheet 11 = .ok (.if_icmp .le 5, 3) := by decide +kernel
theorem dX9_sheet_14 : decode cX9_sheet 14 = .ok (.iconst (-1), 1) := by decide +kernel
theorem dX9_sheet_15 : decode cX9_sheet 15 = .ok (.ireturn, 1) := by decide +kernel
theorem dX9_sheet_16 : decode cX9_sheet 16 = .ok (.iload_n 3, 1) := by decide +kernel
theorem dX9_sheet_17 : decode cX9_sheet 17 = .ok (.ifCond .ge 6, 3) := by decide +kernel
theorem dX9_sheet_20 : decode cX9_sheet 20 = .ok (.bipush (-14), 2) := by decide +kernel
theorem dX9_sheet_22 : decode cX9_sheet 22 = .ok (.ireturn, 1) := by decide +kernel
theorem dX9_sheet_23 : decode cX9_sheet 23 = .ok (.aload_n 0, 1) := by decide +kernel
theorem dX9_sheet_24 : decode cX9_sheet 24 = .ok (.getfield 68, 3) := by decide +kernel
theorem dX9_sheet_27 : decode cX9_sheet 27 = .ok (.iload_n 1, 1) := by decide +kernel
theorem dX9_sheet_28 : decode cX9_sheet 28 = .ok (.iload_n 2, 1) := by decide +kernel
theorem dX9_sheet_29 : decode cX9_sheet 29 = .ok (.iastore, 1) := by decide +kernel
theorem dX9_sheet_30 : decode cX9_sheet 30 = .ok (.aload_n 0, 1) := by decide +kernel
theorem dX9_sheet_31 : decode cX9_sheet 31 = .ok (.getfield 71, 3) := by decide +kernel
theorem dX9_sheet_34 : decode cX9_sheet 34 = .ok (.iload_n 1, 1) := by decide +kernel
theorem dX9_sheet_35 : decode cX9_sheet 35 = .ok (.iload_n 3, 1) := by decide +kernel
theorem dX9_sheet_36 : decode cX9_sheet 36 = .ok (.iastore, 1) := by decide +kernel
theorem dX9_sheet_37 : decode cX9_sheet 37 = .ok (.iconst 0, 1) := by decide +kernel
theorem dX9_sheet_38 : decode cX9_sheet 38 = .ok (.istore 4, 2) := by decide +kernel
theorem dX9_sheet_40 : decode cX9_sheet 40 = .ok (.iload 4, 2) := by decide +kernel
theorem dX9_sheet_42 : decode cX9_sheet 42 = .ok (.bipush 24, 2) := by decide +kernel
theorem dX9_sheet_44 : decode cX9_sheet 44 = .ok (.if_icmp .ge 22, 3) := by decide +kernel
theorem dX9_sheet_47 : decode cX9_sheet 47 = .ok (.aload_n 0, 1) := by decide +kernel
theorem dX9_sheet_48 : decode cX9_sheet 48 = .ok (.getfield 74, 3) := by decide +kernel
theorem dX9_sheet_51 : decode cX9_sheet 51 = .ok (.bipush 24, 2) := by decide +kernel
theorem dX9_sheet_53 : decode cX9_sheet 53 = .ok (.iload_n 1, 1) := by decide +kernel
theorem dX9_sheet_54 : decode cX9_sheet 54 = .ok (.imul, 1) := by decide +kernel
theorem dX9_sheet_55 : decode cX9_sheet 55 = .ok (.iload 4, 2) := by decide +kernel
theorem dX9_sheet_57 : decode cX9_sheet 57 = .ok (.iadd, 1) := by decide +kernel
theorem dX9_sheet_58 : decode cX9_sheet 58 = .ok (.lconst 0, 1) := by decide +kernel
theorem dX9_sheet_59 : decode cX9_sheet 59 = .ok (.lastore, 1) := by decide +kernel
theorem dX9_sheet_60 : decode cX9_sheet 60 = .ok (.iinc 4 1, 3) := by decide +kernel
theorem dX9_sheet_63 : decode cX9_sheet 63 = .ok (.goto (-23), 3) := by decide +kernel
theorem dX9_sheet_66 : decode cX9_sheet 66 = .ok (.iload_n 3, 1) := by decide +kernel
theorem dX9_sheet_67 : decode cX9_sheet 67 = .ok (.ireturn, 1) := by decide +kernel
set_option maxRecDepth 20000 in
theorem ggX9_drop_X9_in : GoodIn wsX9_drop wsX9_in := goodIn_r _ [7] rfl (by decide +kernel)
set_option maxRecDepth 20000 in
theorem gX9_drop_X9_in : GoodIn wsX9_drop (va_wsS RX9 90 yX9_in wsX9_in) := goodIn_app (goodIn_of _ (by decide +kernel)) ggX9_drop_X9_in
theorem dX9_drop_0 : decode cX9_drop 0 = .ok (.iload_n 1, 1) := by decide +kernel
theorem dX9_drop_1 : decode cX9_drop 1 = .ok (.i2l, 1) := by decide +kernel
theorem dX9_drop_2 : decode cX9_drop 2 = .ok (.lconst 0, 1) := by decide +kernel
theorem dX9_drop_3 : decode cX9_drop 3 = .ok (.ldc2_w 98, 3) := by decide +kernel
theorem dX9_drop_6 : decode cX9_drop 6 = .ok (.invokestatic 90, 3) := by decide +kernel
theorem dX9_drop_9 : decode cX9_drop 9 = .ok (.ifCond .ne 5, 3) := by decide +kernel
theorem dX9_drop_12 : decode cX9_drop 12 = .ok (.iconst (-1), 1) := by decide +kernel
theorem dX9_drop_13 : decode cX9_drop 13 = .ok (.ireturn, 1) := by decide +kernel
theorem dX9_drop_14 : decode cX9_drop 14 = .ok (.aload_n 0, 1) := by decide +kernel
theorem dX9_drop_15 : decode cX9_drop 15 = .ok (.getfield 68, 3) := by decide +kernel
theorem dX9_drop_18 : decode cX9_drop 18 = .ok (.iload_n 1, 1) := by decide +kernel
theorem dX9_drop_19 : decode cX9_drop 19 = .ok (.iaload, 1) := by decide +kernel
theorem dX9_drop_20 : decode cX9_drop 20 = .ok (.ifCond .ge 6, 3) := by decide +kernel
theorem dX9_drop_23 : decode cX9_drop 23 = .ok (.bipush (-11), 2) := by decide +kernel
theorem dX9_drop_25 : decode cX9_drop 25 = .ok (.ireturn, 1) := by decide +kernel
theorem dX9_drop_26 : decode cX9_drop 26 = .ok (.aload_n 0, 1) := by decide +kernel
theorem dX9_drop_27 : decode cX9_drop 27 = .ok (.getfield 68, 3) := by decide +kernel
theorem dX9_drop_30 : decode cX9_drop 30 = .ok (.iload_n 1, 1) := by decide +kernel
theorem dX9_drop_31 : decode cX9_drop 31 = .ok (.iconst (-1), 1) := by decide +kernel
theorem dX9_drop_32 : decode cX9_drop 32 = .ok (.iastore, 1) := by decide +kernel
theorem dX9_drop_33 : decode cX9_drop 33 = .ok (.aload_n 0, 1) := by decide +kernel
theorem dX9_drop_34 : decode cX9_drop 34 = .ok (.getfield 71, 3) := by decide +kernel
theorem dX9_drop_37 : decode cX9_drop 37 = .ok (.iload_n 1, 1) := by decide +kernel
theorem dX9_drop_38 : decode cX9_drop 38 = .ok (.iaload, 1) := by decide +kernel
theorem dX9_drop_39 : decode cX9_drop 39 = .ok (.ireturn, 1) := by decide +kernel
set_option maxRecDepth 20000 in
theorem ggX9_lacksRow_X9_in : GoodIn wsX9_lacksRow wsX9_in := goodIn_r _ [6] rfl (by decide +kernel)
set_option maxRecDepth 20000 in
theorem gX9_lacksRow_X9_in : GoodIn wsX9_lacksRow (va_wsS RX9 90 yX9_in wsX9_in) := goodIn_app (goodIn_of _ (by decide +kernel)) ggX9_lacksRow_X9_in
theorem dX9_lacksRow_0 : decode cX9_lacksRow 0 = .ok (.aload_n 0, 1) := by decide +kernel
theorem dX9_lacksRow_1 : decode cX9_lacksRow 1 = .ok (.getfield 68, 3) := by decide +kernel
theorem dX9_lacksRow_4 : decode cX9_lacksRow 4 = .ok (.iload_n 1, 1) := by decide +kernel
theorem dX9_lacksRow_5 : decode cX9_lacksRow 5 = .ok (.iaload, 1) := by decide +kernel
theorem dX9_lacksRow_6 : decode cX9_lacksRow 6 = .ok (.iload_n 2, 1) := by decide +kernel
theorem dX9_lacksRow_7 : decode cX9_lacksRow 7 = .ok (.if_icmp .eq 20, 3) := by decide +kernel
theorem dX9_lacksRow_10 : decode cX9_lacksRow 10 = .ok (.aload_n 0, 1) := by decide +kernel
theorem dX9_lacksRow_11 : decode cX9_lacksRow 11 = .ok (.getfield 68, 3) := by decide +kernel
theorem dX9_lacksRow_14 : decode cX9_lacksRow 14 = .ok (.iload_n 1, 1) := by decide +kernel
theorem dX9_lacksRow_15 : decode cX9_lacksRow 15 = .ok (.iaload, 1) := by decide +kernel
theorem dX9_lacksRow_16 : decode cX9_lacksRow 16 = .ok (.ifCond .ge 8, 3) := by decide +kernel
theorem dX9_lacksRow_19 : decode cX9_lacksRow 19 = .ok (.bipush (-11), 2) := by decide +kernel
theorem dX9_lacksRow_21 : decode cX9_lacksRow 21 = .ok (.goto 5, 3) := by decide +kernel
theorem dX9_lacksRow_24 : decode cX9_lacksRow 24 = .ok (.bipush (-12), 2) := by decide +kernel
theorem dX9_lacksRow_26 : decode cX9_lacksRow 26 = .ok (.ireturn, 1) := by decide +kernel
theorem dX9_lacksRow_27 : decode cX9_lacksRow 27 = .ok (.iload_n 3, 1) := by decide +kernel
theorem dX9_lacksRow_28 : decode cX9_lacksRow 28 = .ok (.i2l, 1) := by decide +kernel
theorem dX9_lacksRow_29 : decode cX9_lacksRow 29 = .ok (.lconst 0, 1) := by decide +kernel
theorem dX9_lacksRow_30 : decode cX9_lacksRow 30 = .ok (.aload_n 0, 1) := by decide +kernel
theorem dX9_lacksRow_31 : decode cX9_lacksRow 31 = .ok (.getfield 71, 3) := by decide +kernel
theorem dX9_lacksRow_34 : decode cX9_lacksRow 34 = .ok (.iload_n 1, 1) := by decide +kernel
theorem dX9_lacksRow_35 : decode cX9_lacksRow 35 = .ok (.iaload, 1) := by decide +kernel
theorem dX9_lacksRow_36 : decode cX9_lacksRow 36 = .ok (.iload 4, 2) := by decide +kernel
theorem dX9_lacksRow_38 : decode cX9_lacksRow 38 = .ok (.isub, 1) := by decide +kernel
theorem dX9_lacksRow_39 : decode cX9_lacksRow 39 = .ok (.i2l, 1) := by decide +kernel
theorem dX9_lacksRow_40 : decode cX9_lacksRow 40 = .ok (.invokestatic 90, 3) := by decide +kernel
theorem dX9_lacksRow_43 : decode cX9_lacksRow 43 = .ok (.ifCond .eq 7, 3) := by decide +kernel
theorem dX9_lacksRow_46 : decode cX9_lacksRow 46 = .ok (.iconst 0, 1) := by decide +kernel
theorem dX9_lacksRow_47 : decode cX9_lacksRow 47 = .ok (.goto 5, 3) := by decide +kernel
theorem dX9_lacksRow_50 : decode cX9_lacksRow 50 = .ok (.bipush (-13), 2) := by decide +kernel
theorem dX9_lacksRow_52 : decode cX9_lacksRow 52 = .ok (.ireturn, 1) := by decide +kernel
set_option maxRecDepth 20000 in
theorem ggX9_item_X9_isSheet : GoodIn wsX9_item wsX9_isSheet := goodIn_r _ [5, 6, 7, 8, 9, 4, 10] rfl (by decide +kernel)
set_option maxRecDepth 20000 in
theorem gX9_item_X9_isSheet : GoodIn wsX9_item (va_wsS RX9 240 yX9_isSheet wsX9_isSheet) := goodIn_app (goodIn_of _ (by decide +kernel)) ggX9_item_X9_isSheet
set_option maxRecDepth 20000 in
theorem ggX9_item_X9_lacksRow : GoodIn wsX9_item wsX9_lacksRow := goodIn_r _ [14, 15, 16, 8, 9, 4, 10, 20, 21, 22, 23, 24, 25, 26, 27, 28, 29, 30, 31, 32, 33, 34, 35, 36, 37, 38, 39, 40, 41, 42, 43, 44, 45, 46, 47, 48, 49, 50] rfl (by decide +kernel)
set_option maxRecDepth 20000 in
theorem gX9_item_X9_lacksRow : GoodIn wsX9_item (wsV RX9 243 RX9 yX9_lacksRow wsX9_lacksRow) := goodIn_app (goodIn_of _ (by decide +kernel)) ggX9_item_X9_lacksRow
set_option maxRecDepth 20000 in
theorem ggX9_item_X9_asLane : GoodIn wsX9_item wsX9_asLane := goodIn_r _ [19] rfl (by decide +kernel)
set_option maxRecDepth 20000 in
theorem gX9_item_X9_asLane : GoodIn wsX9_item (va_wsS RX9 247 yX9_asLane wsX9_asLane) := goodIn_app (goodIn_of _ (by decide +kernel)) ggX9_item_X9_asLane
theorem dX9_item_0 : decode cX9_item 0 = .ok (.iload_n 1, 1) := by decide +kernel
theorem dX9_item_1 : decode cX9_item 1 = .ok (.iload_n 2, 1) := by decide +kernel
theorem dX9_item_2 : decode cX9_item 2 = .ok (.invokestatic 240, 3) := by decide +kernel
theorem dX9_item_5 : decode cX9_item 5 = .ok (.ifCond .ne 5, 3) := by decide +kernel
theorem dX9_item_8 : decode cX9_item 8 = .ok (.iconst (-1), 1) := by decide +kernel
theorem dX9_item_9 : decode cX9_item 9 = .ok (.ireturn, 1) := by decide +kernel
theorem dX9_item_10 : decode cX9_item 10 = .ok (.aload_n 0, 1) := by decide +kernel
theorem dX9_item_11 : decode cX9_item 11 = .ok (.iload_n 1, 1) := by decide +kernel
theorem dX9_item_12 : decode cX9_item 12 = .ok (.iload_n 2, 1) := by decide +kernel
theorem dX9_item_13 : decode cX9_item 13 = .ok (.iload_n 3, 1) := by decide +kernel
theorem dX9_item_14 : decode cX9_item 14 = .ok (.iconst 1, 1) := by decide +kernel
theorem dX9_item_15 : decode cX9_item 15 = .ok (.invokevirtual 243, 3) := by decide +kernel
theorem dX9_item_18 : decode cX9_item 18 = .ok (.istore 6, 2) := by decide +kernel
theorem dX9_item_20 : decode cX9_item 20 = .ok (.iload 6, 2) := by decide +kernel
theorem dX9_item_22 : decode cX9_item 22 = .ok (.ifCond .ge 6, 3) := by decide +kernel
theorem dX9_item_25 : decode cX9_item 25 = .ok (.iload 6, 2) := by decide +kernel
theorem dX9_item_27 : decode cX9_item 27 = .ok (.ireturn, 1) := by decide +kernel
theorem dX9_item_28 : decode cX9_item 28 = .ok (.aload_n 0, 1) := by decide +kernel
theorem dX9_item_29 : decode cX9_item 29 = .ok (.getfield 74, 3) := by decide +kernel
theorem dX9_item_32 : decode cX9_item 32 = .ok (.bipush 24, 2) := by decide +kernel
theorem dX9_item_34 : decode cX9_item 34 = .ok (.iload_n 1, 1) := by decide +kernel
theorem dX9_item_35 : decode cX9_item 35 = .ok (.imul, 1) := by decide +kernel
theorem dX9_item_36 : decode cX9_item 36 = .ok (.iload_n 3, 1) := by decide +kernel
theorem dX9_item_37 : decode cX9_item 37 = .ok (.iadd, 1) := by decide +kernel
theorem dX9_item_38 : decode cX9_item 38 = .ok (.iload_n 2, 1) := by decide +kernel
theorem dX9_item_39 : decode cX9_item 39 = .ok (.lload 4, 2) := by decide +kernel
theorem dX9_item_41 : decode cX9_item 41 = .ok (.invokestatic 247, 3) := by decide +kernel
theorem dX9_item_44 : decode cX9_item 44 = .ok (.lastore, 1) := by decide +kernel
theorem dX9_item_45 : decode cX9_item 45 = .ok (.iconst 1, 1) := by decide +kernel
theorem dX9_item_46 : decode cX9_item 46 = .ok (.ireturn, 1) := by decide +kernel
set_option maxRecDepth 20000 in
theorem ggX9_film_X9_isSheet : GoodIn wsX9_film wsX9_isSheet := goodIn_r _ [7, 8, 9, 10, 11, 6, 12] rfl (by decide +kernel)
set_option maxRecDepth 20000 in
theorem gX9_film_X9_isSheet : GoodIn wsX9_film (va_wsS RX9 240 yX9_isSheet wsX9_isSheet) := goodIn_app (goodIn_of _ (by decide +kernel)) ggX9_film_X9_isSheet
set_option maxRecDepth 20000 in
theorem ggX9_film_X9_lacksRow : GoodIn wsX9_film wsX9_lacksRow := goodIn_r _ [16, 17, 18, 10, 11, 6, 12, 22, 23, 24, 25, 26, 27, 28, 29, 30, 31, 32, 33, 34, 35, 36, 37, 38, 39, 40, 41, 42, 43, 44, 45, 46, 47, 48, 49, 50, 51, 52] rfl (by decide +kernel)
set_option maxRecDepth 20000 in
theorem gX9_film_X9_lacksRow : GoodIn wsX9_film (wsV RX9 243 RX9 yX9_lacksRow wsX9_lacksRow) := goodIn_app (goodIn_of _ (by decide +kernel)) ggX9_film_X9_lacksRow
set_option maxRecDepth 20000 in
theorem ggX9_film_X9_asLane : GoodIn wsX9_film wsX9_asLane := goodIn_r _ [21] rfl (by decide +kernel)
set_option maxRecDepth 20000 in
theorem gX9_film_X9_asLane : GoodIn wsX9_film (va_wsS RX9 247 yX9_asLane wsX9_asLane) := goodIn_app (goodIn_of _ (by decide +kernel)) ggX9_film_X9_asLane
theorem dX9_film_0 : decode cX9_film 0 = .ok (.iload_n 1, 1) := by decide +kernel
theorem dX9_film_1 : decode cX9_film 1 = .ok (.iload_n 2, 1) := by decide +kernel
theorem dX9_film_2 : decode cX9_film 2 = .ok (.invokestatic 240, 3) := by decide +kernel
theorem dX9_film_5 : decode cX9_film 5 = .ok (.ifCond .ne 5, 3) := by decide +kernel
theorem dX9_film_8 : decode cX9_film 8 = .ok (.iconst (-1), 1) := by decide +kernel
theorem dX9_film_9 : decode cX9_film 9 = .ok (.ireturn, 1) := by decide +kernel
theorem dX9_film_10 : decode cX9_film 10 = .ok (.aload_n 0, 1) := by decide +kernel
theorem dX9_film_11 : decode cX9_film 11 = .ok (.iload_n 1, 1) := by decide +kernel
theorem dX9_film_12 : decode cX9_film 12 = .ok (.iload_n 2, 1) := by decide +kernel
theorem dX9_film_13 : decode cX9_film 13 = .ok (.iload_n 3, 1) := by decide +kernel
theorem dX9_film_14 : decode cX9_film 14 = .ok (.aload_n 0, 1) := by decide +kernel
theorem dX9_film_15 : decode cX9_film 15 = .ok (.getfield 86, 3) := by decide +kernel
theorem dX9_film_18 : decode cX9_film 18 = .ok (.invokevirtual 243, 3) := by decide +kernel
theorem dX9_film_21 : decode cX9_film 21 = .ok (.istore 4, 2) := by decide +kernel
theorem dX9_film_23 : decode cX9_film 23 = .ok (.iload 4, 2) := by decide +kernel
theorem dX9_film_25 : decode cX9_film 25 = .ok (.ifCond .ge 6, 3) := by decide +kernel
theorem dX9_film_28 : decode cX9_film 28 = .ok (.iload 4, 2) := by decide +kernel
theorem dX9_film_30 : decode cX9_film 30 = .ok (.ireturn, 1) := by decide +kernel
theorem dX9_film_31 : decode cX9_film 31 = .ok (.iconst 0, 1) := by decide +kernel
theorem dX9_film_32 : decode cX9_film 32 = .ok (.istore 5, 2) := by decide +kernel
theorem dX9_film_34 : decode cX9_film 34 = .ok (.iload 5, 2) := by decide +kernel
theorem dX9_film_36 : decode cX9_film 36 = .ok (.aload_n 0, 1) := by decide +kernel
theorem dX9_film_37 : decode cX9_film 37 = .ok (.getfield 86, 3) := by decide +kernel
theorem dX9_film_40 : decode cX9_film 40 = .ok (.if_icmp .ge 35, 3) := by decide +kernel
theorem dX9_film_43 : decode cX9_film 43 = .ok (.aload_n 0, 1) := by decide +kernel
theorem dX9_film_44 : decode cX9_film 44 = .ok (.getfield 74, 3) := by decide +kernel
theorem dX9_film_47 : decode cX9_film 47 = .ok (.bipush 24, 2) := by decide +kernel
theorem dX9_film_49 : decode cX9_film 49 = .ok (.iload_n 1, 1) := by decide +kernel
theorem dX9_film_50 : decode cX9_film 50 = .ok (.imul, 1) := by decide +kernel
theorem dX9_film_51 : decode cX9_film 51 = .ok (.iload_n 3, 1) := by decide +kernel
theorem dX9_film_52 : decode cX9_film 52 = .ok (.iadd, 1) := by decide +kernel
theorem dX9_film_53 : decode cX9_film 53 = .ok (.iload 5, 2) := by decide +kernel
theorem dX9_film_55 : decode cX9_film 55 = .ok (.iadd, 1) := by decide +kernel
theorem dX9_film_56 : decode cX9_film 56 = .ok (.iload_n 2, 1) := by decide +kernel
theorem dX9_film_57 : decode cX9_film 57 = .ok (.aload_n 0, 1) := by decide +kernel
theorem dX9_film_58 : decode cX9_film 58 = .ok (.getfield 13, 3) := by decide +kernel
theorem dX9_film_61 : decode cX9_film 61 = .ok (.iload 5, 2) := by decide +kernel
theorem dX9_film_63 : decode cX9_film 63 = .ok (.iaload, 1) := by decide +kernel
theorem dX9_film_64 : decode cX9_film 64 = .ok (.i2l, 1) := by decide +kernel
theorem dX9_film_65 : decode cX9_film 65 = .ok (.invokestatic 247, 3) := by decide +kernel
theorem dX9_film_68 : decode cX9_film 68 = .ok (.lastore, 1) := by decide +kernel
theorem dX9_film_69 : decode cX9_film 69 = .ok (.iinc 5 1, 3) := by decide +kernel
theorem dX9_film_72 : decode cX9_film 72 = .ok (.goto (-38), 3) := by decide +kernel
theorem dX9_film_75 : decode cX9_film 75 = .ok (.aload_n 0, 1) := by decide +kernel
theorem dX9_film_76 : decode cX9_film 76 = .ok (.getfield 86, 3) := by decide +kernel
theorem dX9_film_79 : decode cX9_film 79 = .ok (.ireturn, 1) := by decide +kernel
set_option maxRecDepth 20000 in
theorem ggX9_copy_X9_in : GoodIn wsX9_copy wsX9_in := goodIn_r _ [9] rfl (by decide +kernel)
set_option maxRecDepth 20000 in
theorem gX9_copy_X9_in : GoodIn wsX9_copy (va_wsS RX9 90 yX9_in wsX9_in) := goodIn_app (goodIn_of _ (by decide +kernel)) ggX9_copy_X9_in
theorem dX9_copy_0 : decode cX9_copy 0 = .ok (.iload_n 1, 1) := by decide +kernel
theorem dX9_copy_1 : decode cX9_copy 1 = .ok (.i2l, 1) := by decide +kernel
theorem dX9_copy_2 : decode cX9_copy 2 = .ok (.lconst 0, 1) := by decide +kernel
theorem dX9_copy_3 : decode cX9_copy 3 = .ok (.ldc2_w 98, 3) := by decide +kernel
theorem dX9_copy_6 : decode cX9_copy 6 = .ok (.invokestatic 90, 3) := by decide +kernel
theorem dX9_copy_9 : decode cX9_copy 9 = .ok (.ifCond .eq 15, 3) := by decide +kernel
theorem dX9_copy_12 : decode cX9_copy 12 = .ok (.iload_n 3, 1) := by decide +kernel
theorem dX9_copy_13 : decode cX9_copy 13 = .ok (.i2l, 1) := by decide +kernel

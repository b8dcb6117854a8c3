theorem dX8_copy_52 : decode cX8_copy 52 = .ok (.getfield 267, 3) := by decide +kernel
theorem dX8_copy_55 : decode cX8_copy 55 = .ok (.if_icmp .eq 6, 3) := by decide +kernel
theorem dX8_copy_58 : decode cX8_copy 58 = .ok (.bipush (-12), 2) := by decide +kernel
theorem dX8_copy_60 : decode cX8_copy 60 = .ok (.ireturn, 1) := by decide +kernel
theorem dX8_copy_61 : decode cX8_copy 61 = .ok (.aload 6, 2) := by decide +kernel
theorem dX8_copy_63 : decode cX8_copy 63 = .ok (.iload_n 2, 1) := by decide +kernel
theorem dX8_copy_64 : decode cX8_copy 64 = .ok (.iload 5, 2) := by decide +kernel
theorem dX8_copy_66 : decode cX8_copy 66 = .ok (.invokevirtual 270, 3) := by decide +kernel
theorem dX8_copy_69 : decode cX8_copy 69 = .ok (.ifCond .eq 15, 3) := by decide +kernel
theorem dX8_copy_72 : decode cX8_copy 72 = .ok (.aload 7, 2) := by decide +kernel
theorem dX8_copy_74 : decode cX8_copy 74 = .ok (.iload 4, 2) := by decide +kernel
theorem dX8_copy_76 : decode cX8_copy 76 = .ok (.iload 5, 2) := by decide +kernel
theorem dX8_copy_78 : decode cX8_copy 78 = .ok (.invokevirtual 270, 3) := by decide +kernel
theorem dX8_copy_81 : decode cX8_copy 81 = .ok (.ifCond .ne 6, 3) := by decide +kernel
theorem dX8_copy_84 : decode cX8_copy 84 = .ok (.bipush (-13), 2) := by decide +kernel
theorem dX8_copy_86 : decode cX8_copy 86 = .ok (.ireturn, 1) := by decide +kernel
theorem dX8_copy_87 : decode cX8_copy 87 = .ok (.aload 6, 2) := by decide +kernel
theorem dX8_copy_89 : decode cX8_copy 89 = .ok (.getfield 260, 3) := by decide +kernel
theorem dX8_copy_92 : decode cX8_copy 92 = .ok (.iload_n 2, 1) := by decide +kernel
theorem dX8_copy_93 : decode cX8_copy 93 = .ok (.aload 7, 2) := by decide +kernel
theorem dX8_copy_95 : decode cX8_copy 95 = .ok (.getfield 260, 3) := by decide +kernel
theorem dX8_copy_98 : decode cX8_copy 98 = .ok (.iload 4, 2) := by decide +kernel
theorem dX8_copy_100 : decode cX8_copy 100 = .ok (.iload 5, 2) := by decide +kernel
theorem dX8_copy_102 : decode cX8_copy 102 = .ok (.invokestatic 273, 3) := by decide +kernel
theorem dX8_copy_105 : decode cX8_copy 105 = .ok (.iload 5, 2) := by decide +kernel
theorem dX8_copy_107 : decode cX8_copy 107 = .ok (.ireturn, 1) := by decide +kernel
theorem dX8_isSum_0 : decode cX8_isSum 0 = .ok (.iload_n 0, 1) := by decide +kernel
theorem dX8_isSum_1 : decode cX8_isSum 1 = .ok (.ifCond .lt 14, 3) := by decide +kernel
theorem dX8_isSum_4 : decode cX8_isSum 4 = .ok (.iload_n 0, 1) := by decide +kernel
theorem dX8_isSum_5 : decode cX8_isSum 5 = .ok (.sipush 9999, 3) := by decide +kernel
theorem dX8_isSum_8 : decode cX8_isSum 8 = .ok (.if_icmp .gt 7, 3) := by decide +kernel
theorem dX8_isSum_11 : decode cX8_isSum 11 = .ok (.iconst 1, 1) := by decide +kernel
theorem dX8_isSum_12 : decode cX8_isSum 12 = .ok (.goto 4, 3) := by decide +kernel
theorem dX8_isSum_15 : decode cX8_isSum 15 = .ok (.iconst 0, 1) := by decide +kernel
theorem dX8_isSum_16 : decode cX8_isSum 16 = .ok (.ireturn, 1) := by decide +kernel
theorem dX8_isSheet_0 : decode cX8_isSheet 0 = .ok (.iload_n 0, 1) := by decide +kernel
theorem dX8_isSheet_1 : decode cX8_isSheet 1 = .ok (.ifCond .lt 12, 3) := by decide +kernel
theorem dX8_isSheet_4 : decode cX8_isSheet 4 = .ok (.iload_n 0, 1) := by decide +kernel
theorem dX8_isSheet_5 : decode cX8_isSheet 5 = .ok (.iconst 4, 1) := by decide +kernel
theorem dX8_isSheet_6 : decode cX8_isSheet 6 = .ok (.if_icmp .ge 7, 3) := by decide +kernel
theorem dX8_isSheet_9 : decode cX8_isSheet 9 = .ok (.iconst 1, 1) := by decide +kernel
theorem dX8_isSheet_10 : decode cX8_isSheet 10 = .ok (.goto 4, 3) := by decide +kernel
theorem dX8_isSheet_13 : decode cX8_isSheet 13 = .ok (.iconst 0, 1) := by decide +kernel
theorem dX8_isSheet_14 : decode cX8_isSheet 14 = .ok (.ireturn, 1) := by decide +kernel
theorem dX8_isLane_0 : decode cX8_isLane 0 = .ok (.iload_n 0, 1) := by decide +kernel
theorem dX8_isLane_1 : decode cX8_isLane 1 = .ok (.ifCond .lt 12, 3) := by decide +kernel
theorem dX8_isLane_4 : decode cX8_isLane 4 = .ok (.iload_n 0, 1) := by decide +kernel
theorem dX8_isLane_5 : decode cX8_isLane 5 = .ok (.iconst 3, 1) := by decide +kernel
theorem dX8_isLane_6 : decode cX8_isLane 6 = .ok (.if_icmp .ge 7, 3) := by decide +kernel
theorem dX8_isLane_9 : decode cX8_isLane 9 = .ok (.iconst 1, 1) := by decide +kernel
theorem dX8_isLane_10 : decode cX8_isLane 10 = .ok (.goto 4, 3) := by decide +kernel
theorem dX8_isLane_13 : decode cX8_isLane 13 = .ok (.iconst 0, 1) := by decide +kernel
theorem dX8_isLane_14 : decode cX8_isLane 14 = .ok (.ireturn, 1) := by decide +kernel
theorem dX8_forgetFound_0 : decode cX8_forgetFound 0 = .ok (.aload_n 0, 1) := by decide +kernel
theorem dX8_forgetFound_1 : decode cX8_forgetFound 1 = .ok (.bipush 9, 2) := by decide +kernel
theorem dX8_forgetFound_3 : decode cX8_forgetFound 3 = .ok (.putfield 84, 3) := by decide +kernel
theorem dX8_forgetFound_6 : decode cX8_forgetFound 6 = .ok (.aload_n 0, 1) := by decide +kernel
theorem dX8_forgetFound_7 : decode cX8_forgetFound 7 = .ok (.iconst 0, 1) := by decide +kernel
theorem dX8_forgetFound_8 : decode cX8_forgetFound 8 = .ok (.putfield 88, 3) := by decide +kernel
theorem dX8_forgetFound_11 : decode cX8_forgetFound 11 = .ok (.aload_n 0, 1) := by decide +kernel
theorem dX8_forgetFound_12 : decode cX8_forgetFound 12 = .ok (.iconst 0, 1) := by decide +kernel
theorem dX8_forgetFound_13 : decode cX8_forgetFound 13 = .ok (.putfield 91, 3) := by decide +kernel
theorem dX8_forgetFound_16 : decode cX8_forgetFound 16 = .ok (.return_, 1) := by decide +kernel
theorem dX9_init_0 : decode cX9_init 0 = .ok (.aload_n 0, 1) := by decide +kernel
theorem dX9_init_1 : decode cX9_init 1 = .ok (.invokespecial 1, 3) := by decide +kernel
theorem dX9_init_4 : decode cX9_init 4 = .ok (.aload_n 0, 1) := by decide +kernel
theorem dX9_init_5 : decode cX9_init 5 = .ok (.iconst 5, 1) := by decide +kernel
theorem dX9_init_6 : decode cX9_init 6 = .ok (.newarray .int, 2) := by decide +kernel
theorem dX9_init_8 : decode cX9_init 8 = .ok (.putfield 7, 3) := by decide +kernel
theorem dX9_init_11 : decode cX9_init 11 = .ok (.aload_n 0, 1) := by decide +kernel
theorem dX9_init_12 : decode cX9_init 12 = .ok (.iconst 5, 1) := by decide +kernel
theorem dX9_init_13 : decode cX9_init 13 = .ok (.newarray .int, 2) := by decide +kernel
theorem dX9_init_15 : decode cX9_init 15 = .ok (.putfield 13, 3) := by decide +kernel
theorem dX9_init_18 : decode cX9_init 18 = .ok (.aload_n 0, 1) := by decide +kernel
theorem dX9_init_19 : decode cX9_init 19 = .ok (.iconst 5, 1) := by decide +kernel
theorem dX9_init_20 : decode cX9_init 20 = .ok (.newarray .int, 2) := by decide +kernel
theorem dX9_init_22 : decode cX9_init 22 = .ok (.putfield 16, 3) := by decide +kernel
theorem dX9_init_25 : decode cX9_init 25 = .ok (.aload_n 0, 1) := by decide +kernel
theorem dX9_init_26 : decode cX9_init 26 = .ok (.iconst 5, 1) := by decide +kernel
theorem dX9_init_27 : decode cX9_init 27 = .ok (.newarray .int, 2) := by decide +kernel
theorem dX9_init_29 : decode cX9_init 29 = .ok (.putfield 19, 3) := by decide +kernel
theorem dX9_init_32 : decode cX9_init 32 = .ok (.aload_n 0, 1) := by decide +kernel
theorem dX9_init_33 : decode cX9_init 33 = .ok (.bipush 24, 2) := by decide +kernel
theorem dX9_init_35 : decode cX9_init 35 = .ok (.newarray .int, 2) := by decide +kernel
theorem dX9_init_37 : decode cX9_init 37 = .ok (.putfield 22, 3) := by decide +kernel
theorem dX9_init_40 : decode cX9_init 40 = .ok (.aload_n 0, 1) := by decide +kernel
theorem dX9_init_41 : decode cX9_init 41 = .ok (.iconst 5, 1) := by decide +kernel
theorem dX9_init_42 : decode cX9_init 42 = .ok (.newarray .int, 2) := by decide +kernel
theorem dX9_init_44 : decode cX9_init 44 = .ok (.putfield 25, 3) := by decide +kernel
theorem dX9_init_47 : decode cX9_init 47 = .ok (.aload_n 0, 1) := by decide +kernel
theorem dX9_init_48 : decode cX9_init 48 = .ok (.iconst 5, 1) := by decide +kernel
theorem dX9_init_49 : decode cX9_init 49 = .ok (.newarray .int, 2) := by decide +kernel
theorem dX9_init_51 : decode cX9_init 51 = .ok (.putfield 28, 3) := by decide +kernel
theorem dX9_init_54 : decode cX9_init 54 = .ok (.aload_n 0, 1) := by decide +kernel
theorem dX9_init_55 : decode cX9_init 55 = .ok (.bipush 80, 2) := by decide +kernel
theorem dX9_init_57 : decode cX9_init 57 = .ok (.newarray .int, 2) := by decide +kernel
theorem dX9_init_59 : decode cX9_init 59 = .ok (.putfield 31, 3) := by decide +kernel
theorem dX9_init_62 : decode cX9_init 62 = .ok (.aload_n 0, 1) := by decide +kernel
theorem dX9_init_63 : decode cX9_init 63 = .ok (.bipush 24, 2) := by decide +kernel
theorem dX9_init_65 : decode cX9_init 65 = .ok (.newarray .int, 2) := by decide +kernel
theorem dX9_init_67 : decode cX9_init 67 = .ok (.putfield 34, 3) := by decide +kernel
theorem dX9_init_70 : decode cX9_init 70 = .ok (.aload_n 0, 1) := by decide +kernel
theorem dX9_init_71 : decode cX9_init 71 = .ok (.iconst 5, 1) := by decide +kernel
theorem dX9_init_72 : decode cX9_init 72 = .ok (.newarray .int, 2) := by decide +kernel
theorem dX9_init_74 : decode cX9_init 74 = .ok (.putfield 37, 3) := by decide +kernel
theorem dX9_init_77 : decode cX9_init 77 = .ok (.aload_n 0, 1) := by decide +kernel
theorem dX9_init_78 : decode cX9_init 78 = .ok (.iconst 5, 1) := by decide +kernel
theorem dX9_init_79 : decode cX9_init 79 = .ok (.newarray .int, 2) := by decide +kernel
theorem dX9_init_81 : decode cX9_init 81 = .ok (.putfield 40, 3) := by decide +kernel
theorem dX9_init_84 : decode cX9_init 84 = .ok (.aload_n 0, 1) := by decide +kernel
theorem dX9_init_85 : decode cX9_init 85 = .ok (.bipush 30, 2) := by decide +kernel
theorem dX9_init_87 : decode cX9_init 87 = .ok (.newarray .int, 2) := by decide +kernel
theorem dX9_init_89 : decode cX9_init 89 = .ok (.putfield 43, 3) := by decide +kernel
theorem dX9_init_92 : decode cX9_init 92 = .ok (.aload_n 0, 1) := by decide +kernel
theorem dX9_init_93 : decode cX9_init 93 = .ok (.bipush 6, 2) := by decide +kernel
theorem dX9_init_95 : decode cX9_init 95 = .ok (.newarray .int, 2) := by decide +kernel
theorem dX9_init_97 : decode cX9_init 97 = .ok (.putfield 46, 3) := by decide +kernel
theorem dX9_init_100 : decode cX9_init 100 = .ok (.aload_n 0, 1) := by decide +kernel
theorem dX9_init_101 : decode cX9_init 101 = .ok (.bipush 30, 2) := by decide +kernel
theorem dX9_init_103 : decode cX9_init 103 = .ok (.newarray .int, 2) := by decide +kernel
theorem dX9_init_105 : decode cX9_init 105 = .ok (.putfield 49, 3) := by decide +kernel
theorem dX9_init_108 : decode cX9_init 108 = .ok (.aload_n 0, 1) := by decide +kernel
theorem dX9_init_109 : decode cX9_init 109 = .ok (.bipush 30, 2) := by decide +kernel
theorem dX9_init_111 : decode cX9_init 111 = .ok (.newarray .int, 2) := by decide +kernel
theorem dX9_init_113 : decode cX9_init 113 = .ok (.putfield 52, 3) := by decide +kernel
theorem dX9_init_116 : decode cX9_init 116 = .ok (.aload_n 0, 1) := by decide +kernel
theorem dX9_init_117 : decode cX9_init 117 = .ok (.bipush 8, 2) := by decide +kernel
theorem dX9_init_119 : decode cX9_init 119 = .ok (.newarray .int, 2) := by decide +kernel
theorem dX9_init_121 : decode cX9_init 121 = .ok (.putfield 55, 3) := by decide +kernel
theorem dX9_init_124 : decode cX9_init 124 = .ok (.aload_n 0, 1) := by decide +kernel
theorem dX9_init_125 : decode cX9_init 125 = .ok (.bipush 8, 2) := by decide +kernel
theorem dX9_init_127 : decode cX9_init 127 = .ok (.newarray .int, 2) := by decide +kernel
theorem dX9_init_129 : decode cX9_init 129 = .ok (.putfield 58, 3) := by decide +kernel
theorem dX9_init_132 : decode cX9_init 132 = .ok (.aload_n 0, 1) := by decide +kernel
theorem dX9_init_133 : decode cX9_init 133 = .ok (.iconst 5, 1) := by decide +kernel
theorem dX9_init_134 : decode cX9_init 134 = .ok (.newarray .long, 2) := by decide +kernel
theorem dX9_init_136 : decode cX9_init 136 = .ok (.putfield 61, 3) := by decide +kernel
theorem dX9_init_139 : decode cX9_init 139 = .ok (.aload_n 0, 1) := by decide +kernel
theorem dX9_init_140 : decode cX9_init 140 = .ok (.bipush 46, 2) := by decide +kernel
theorem dX9_init_142 : decode cX9_init 142 = .ok (.newarray .int, 2) := by decide +kernel
theorem dX9_init_144 : decode cX9_init 144 = .ok (.putfield 65, 3) := by decide +kernel
theorem dX9_init_147 : decode cX9_init 147 = .ok (.aload_n 0, 1) := by decide +kernel
theorem dX9_init_148 : decode cX9_init 148 = .ok (.iconst 4, 1) := by decide +kernel
theorem dX9_init_149 : decode cX9_init 149 = .ok (.newarray .int, 2) := by decide +kernel
theorem dX9_init_151 : decode cX9_init 151 = .ok (.putfield 68, 3) := by decide +kernel
theorem dX9_init_154 : decode cX9_init 154 = .ok (.aload_n 0, 1) := by decide +kernel
theorem dX9_init_155 : decode cX9_init 155 = .ok (.iconst 4, 1) := by decide +kernel
theorem dX9_init_156 : decode cX9_init 156 = .ok (.newarray .int, 2) := by decide +kernel
theorem dX9_init_158 : decode cX9_init 158 = .ok (.putfield 71, 3) := by decide +kernel
theorem dX9_init_161 : decode cX9_init 161 = .ok (.aload_n 0, 1) := by decide +kernel
theorem dX9_init_162 : decode cX9_init 162 = .ok (.bipush 96, 2) := by decide +kernel
theorem dX9_init_164 : decode cX9_init 164 = .ok (.newarray .long, 2) := by decide +kernel
theorem dX9_init_166 : decode cX9_init 166 = .ok (.putfield 74, 3) := by decide +kernel
theorem dX9_init_169 : decode cX9_init 169 = .ok (.aload_n 0, 1) := by decide +kernel
theorem dX9_init_170 : decode cX9_init 170 = .ok (.bipush 24, 2) := by decide +kernel
theorem dX9_init_172 : decode cX9_init 172 = .ok (.newarray .long, 2) := by decide +kernel
theorem dX9_init_174 : decode cX9_init 174 = .ok (.putfield 77, 3) := by decide +kernel
theorem dX9_init_177 : decode cX9_init 177 = .ok (.aload_n 0, 1) := by decide +kernel
theorem dX9_init_178 : decode cX9_init 178 = .ok (.iconst 3, 1) := by decide +kernel
theorem dX9_init_179 : decode cX9_init 179 = .ok (.newarray .int, 2) := by decide +kernel
theorem dX9_init_181 : decode cX9_init 181 = .ok (.putfield 80, 3) := by decide +kernel
theorem dX9_init_184 : decode cX9_init 184 = .ok (.aload_n 0, 1) := by decide +kernel
theorem dX9_init_185 : decode cX9_init 185 = .ok (.iconst 3, 1) := by decide +kernel
theorem dX9_init_186 : decode cX9_init 186 = .ok (.newarray .int, 2) := by decide +kernel
theorem dX9_init_188 : decode cX9_init 188 = .ok (.putfield 83, 3) := by decide +kernel
theorem dX9_init_191 : decode cX9_init 191 = .ok (.iconst 0, 1) := by decide +kernel
theorem dX9_init_192 : decode cX9_init 192 = .ok (.istore_n 1, 1) := by decide +kernel
theorem dX9_init_193 : decode cX9_init 193 = .ok (.iload_n 1, 1) := by decide +kernel
theorem dX9_init_194 : decode cX9_init 194 = .ok (.iconst 4, 1) := by decide +kernel
theorem dX9_init_195 : decode cX9_init 195 = .ok (.if_icmp .ge 16, 3) := by decide +kernel
theorem dX9_init_198 : decode cX9_init 198 = .ok (.aload_n 0, 1) := by decide +kernel
theorem dX9_init_199 : decode cX9_init 199 = .ok (.getfield 68, 3) := by decide +kernel
theorem dX9_init_202 : decode cX9_init 202 = .ok (.iload_n 1, 1) := by decide +kernel
theorem dX9_init_203 : decode cX9_init 203 = .ok (.iconst (-1), 1) := by decide +kernel
theorem dX9_init_204 : decode cX9_init 204 = .ok (.iastore, 1) := by decide +kernel
theorem dX9_init_205 : decode cX9_init 205 = .ok (.iinc 1 1, 3) := by decide +kernel
theorem dX9_init_208 : decode cX9_init 208 = .ok (.goto (-15), 3) := by decide +kernel
theorem dX9_init_211 : decode cX9_init 211 = .ok (.return_, 1) := by decide +kernel
theorem dX9_in_0 : decode cX9_in 0 = .ok (.lload_n 0, 1) := by decide +kernel
theorem dX9_in_1 : decode cX9_in 1 = .ok (.lload_n 2, 1) := by decide +kernel
theorem dX9_in_2 : decode cX9_in 2 = .ok (.lcmp, 1) := by decide +kernel
theorem dX9_in_3 : decode cX9_in 3 = .ok (.ifCond .lt 14, 3) := by decide +kernel
theorem dX9_in_6 : decode cX9_in 6 = .ok (.lload_n 0, 1) := by decide +kernel
theorem dX9_in_7 : decode cX9_in 7 = .ok (.lload 4, 2) := by decide +kernel
theorem dX9_in_9 : decode cX9_in 9 = .ok (.lcmp, 1) := by decide +kernel
theorem dX9_in_10 : decode cX9_in 10 = .ok (.ifCond .gt 7, 3) := by decide +kernel
theorem dX9_in_13 : decode cX9_in 13 = .ok (.iconst 1, 1) := by decide +kernel
theorem dX9_in_14 : decode cX9_in 14 = .ok (.goto 4, 3) := by decide +kernel
theorem dX9_in_17 : decode cX9_in 17 = .ok (.iconst 0, 1) := by decide +kernel
theorem dX9_in_18 : decode cX9_in 18 = .ok (.ireturn, 1) := by decide +kernel
set_option maxRecDepth 20000 in
theorem ggX9_isOne_X9_in : GoodIn wsX9_isOne wsX9_in := goodIn_r _ [5] (by decide +kernel) (by decide +kernel)
set_option maxRecDepth 20000 in
theorem gX9_isOne_X9_in : GoodIn wsX9_isOne (va_wsS RX9 90 yX9_in wsX9_in) := goodIn_app (goodIn_of _ (by decide +kernel)) ggX9_isOne_X9_in
theorem dX9_isOne_0 : decode cX9_isOne 0 = .ok (.iload_n 1, 1) := by decide +kernel
theorem dX9_isOne_1 : decode cX9_isOne 1 = .ok (.i2l, 1) := by decide +kernel
theorem dX9_isOne_2 : decode cX9_isOne 2 = .ok (.lconst 0, 1) := by decide +kernel
theorem dX9_isOne_3 : decode cX9_isOne 3 = .ok (.aload_n 0, 1) := by decide +kernel
theorem dX9_isOne_4 : decode cX9_isOne 4 = .ok (.getfield 86, 3) := by decide +kernel
theorem dX9_isOne_7 : decode cX9_isOne 7 = .ok (.iconst 1, 1) := by decide +kernel
theorem dX9_isOne_8 : decode cX9_isOne 8 = .ok (.isub, 1) := by decide +kernel
theorem dX9_isOne_9 : decode cX9_isOne 9 = .ok (.i2l, 1) := by decide +kernel
theorem dX9_isOne_10 : decode cX9_isOne 10 = .ok (.invokestatic 90, 3) := by decide +kernel
theorem dX9_isOne_13 : decode cX9_isOne 13 = .ok (.ireturn, 1) := by decide +kernel
set_option maxRecDepth 20000 in
theorem ggX9_areTwo_X9_isOne : GoodIn wsX9_areTwo wsX9_isOne := goodIn_r _ [5, 6, 7, 8, 4, 9, 10, 11, 12, 13, 14, 15, 16, 17, 18, 19, 20, 21, 22, 23, 24, 25, 26, 27, 28, 29, 30, 31, 32, 33, 34, 35, 36, 37, 38, 39, 40] (by decide +kernel) (by decide +kernel)
set_option maxRecDepth 20000 in
theorem gX9_areTwo_X9_isOne : GoodIn wsX9_areTwo (wsV RX9 94 RX9 yX9_isOne wsX9_isOne) := goodIn_app (goodIn_of _ (by decide +kernel)) ggX9_areTwo_X9_isOne
theorem dX9_areTwo_0 : decode cX9_areTwo 0 = .ok (.aload_n 0, 1) := by decide +kernel
theorem dX9_areTwo_1 : decode cX9_areTwo 1 = .ok (.iload_n 1, 1) := by decide +kernel
theorem dX9_areTwo_2 : decode cX9_areTwo 2 = .ok (.invokevirtual 94, 3) := by decide +kernel
theorem dX9_areTwo_5 : decode cX9_areTwo 5 = .ok (.ifCond .eq 20, 3) := by decide +kernel
theorem dX9_areTwo_8 : decode cX9_areTwo 8 = .ok (.aload_n 0, 1) := by decide +kernel
theorem dX9_areTwo_9 : decode cX9_areTwo 9 = .ok (.iload_n 2, 1) := by decide +kernel
theorem dX9_areTwo_10 : decode cX9_areTwo 10 = .ok (.invokevirtual 94, 3) := by decide +kernel
theorem dX9_areTwo_13 : decode cX9_areTwo 13 = .ok (.ifCond .eq 12, 3) := by decide +kernel
theorem dX9_areTwo_16 : decode cX9_areTwo 16 = .ok (.iload_n 1, 1) := by decide +kernel
theorem dX9_areTwo_17 : decode cX9_areTwo 17 = .ok (.iload_n 2, 1) := by decide +kernel
theorem dX9_areTwo_18 : decode cX9_areTwo 18 = .ok (.if_icmp .eq 7, 3) := by decide +kernel
theorem dX9_areTwo_21 : decode cX9_areTwo 21 = .ok (.iconst 1, 1) := by decide +kernel
theorem dX9_areTwo_22 : decode cX9_areTwo 22 = .ok (.goto 4, 3) := by decide +kernel
theorem dX9_areTwo_25 : decode cX9_areTwo 25 = .ok (.iconst 0, 1) := by decide +kernel
theorem dX9_areTwo_26 : decode cX9_areTwo 26 = .ok (.ireturn, 1) := by decide +kernel
theorem dX9_add_0 : decode cX9_add 0 = .ok (.aload_n 0, 1) := by decide +kernel
theorem dX9_add_1 : decode cX9_add 1 = .ok (.getfield 7, 3) := by decide +kernel
theorem dX9_add_4 : decode cX9_add 4 = .ok (.aload_n 0, 1) := by decide +kernel
theorem dX9_add_5 : decode cX9_add 5 = .ok (.getfield 86, 3) := by decide +kernel
theorem dX9_add_8 : decode cX9_add 8 = .ok (.iload_n 1, 1) := by decide +kernel
theorem dX9_add_9 : decode cX9_add 9 = .ok (.iastore, 1) := by decide +kernel
theorem dX9_add_10 : decode cX9_add 10 = .ok (.aload_n 0, 1) := by decide +kernel
theorem dX9_add_11 : decode cX9_add 11 = .ok (.getfield 13, 3) := by decide +kernel
theorem dX9_add_14 : decode cX9_add 14 = .ok (.aload_n 0, 1) := by decide +kernel
theorem dX9_add_15 : decode cX9_add 15 = .ok (.getfield 86, 3) := by decide +kernel
theorem dX9_add_18 : decode cX9_add 18 = .ok (.iload_n 2, 1) := by decide +kernel
theorem dX9_add_19 : decode cX9_add 19 = .ok (.iastore, 1) := by decide +kernel
theorem dX9_add_20 : decode cX9_add 20 = .ok (.aload_n 0, 1) := by decide +kernel
theorem dX9_add_21 : decode cX9_add 21 = .ok (.getfield 16, 3) := by decide +kernel
theorem dX9_add_24 : decode cX9_add 24 = .ok (.aload_n 0, 1) := by decide +kernel
theorem dX9_add_25 : decode cX9_add 25 = .ok (.getfield 86, 3) := by decide +kernel
theorem dX9_add_28 : decode cX9_add 28 = .ok (.iconst 0, 1) := by decide +kernel
theorem dX9_add_29 : decode cX9_add 29 = .ok (.iastore, 1) := by decide +kernel
theorem dX9_add_30 : decode cX9_add 30 = .ok (.aload_n 0, 1) := by decide +kernel
theorem dX9_add_31 : decode cX9_add 31 = .ok (.getfield 19, 3) := by decide +kernel
theorem dX9_add_34 : decode cX9_add 34 = .ok (.aload_n 0, 1) := by decide +kernel
theorem dX9_add_35 : decode cX9_add 35 = .ok (.getfield 86, 3) := by decide +kernel
theorem dX9_add_38 : decode cX9_add 38 = .ok (.iconst 0, 1) := by decide +kernel
theorem dX9_add_39 : decode cX9_add 39 = .ok (.iastore, 1) := by decide +kernel
theorem dX9_add_40 : decode cX9_add 40 = .ok (.iconst 0, 1) := by decide +kernel
theorem dX9_add_41 : decode cX9_add 41 = .ok (.istore_n 3, 1) := by decide +kernel
theorem dX9_add_42 : decode cX9_add 42 = .ok (.iload_n 3, 1) := by decide +kernel
theorem dX9_add_43 : decode cX9_add 43 = .ok (.aload_n 0, 1) := by decide +kernel
theorem dX9_add_44 : decode cX9_add 44 = .ok (.getfield 86, 3) := by decide +kernel
theorem dX9_add_47 : decode cX9_add 47 = .ok (.if_icmp .ge 39, 3) := by decide +kernel
theorem dX9_add_50 : decode cX9_add 50 = .ok (.aload_n 0, 1) := by decide +kernel
theorem dX9_add_51 : decode cX9_add 51 = .ok (.getfield 16, 3) := by decide +kernel
theorem dX9_add_54 : decode cX9_add 54 = .ok (.iload_n 3, 1) := by decide +kernel
theorem dX9_add_55 : decode cX9_add 55 = .ok (.dup2, 1) := by decide +kernel
theorem dX9_add_56 : decode cX9_add 56 = .ok (.iaload, 1) := by decide +kernel
theorem dX9_add_57 : decode cX9_add 57 = .ok (.iconst 1, 1) := by decide +kernel
theorem dX9_add_58 : decode cX9_add 58 = .ok (.aload_n 0, 1) := by decide +kernel
theorem dX9_add_59 : decode cX9_add 59 = .ok (.getfield 86, 3) := by decide +kernel
theorem dX9_add_62 : decode cX9_add 62 = .ok (.ishl, 1) := by decide +kernel
theorem dX9_add_63 : decode cX9_add 63 = .ok (.ior, 1) := by decide +kernel
theorem dX9_add_64 : decode cX9_add 64 = .ok (.iastore, 1) := by decide +kernel
theorem dX9_add_65 : decode cX9_add 65 = .ok (.aload_n 0, 1) := by decide +kernel
theorem dX9_add_66 : decode cX9_add 66 = .ok (.getfield 16, 3) := by decide +kernel
theorem dX9_add_69 : decode cX9_add 69 = .ok (.aload_n 0, 1) := by decide +kernel
theorem dX9_add_70 : decode cX9_add 70 = .ok (.getfield 86, 3) := by decide +kernel
theorem dX9_add_73 : decode cX9_add 73 = .ok (.dup2, 1) := by decide +kernel
theorem dX9_add_74 : decode cX9_add 74 = .ok (.iaload, 1) := by decide +kernel
theorem dX9_add_75 : decode cX9_add 75 = .ok (.iconst 1, 1) := by decide +kernel
theorem dX9_add_76 : decode cX9_add 76 = .ok (.iload_n 3, 1) := by decide +kernel
theorem dX9_add_77 : decode cX9_add 77 = .ok (.ishl, 1) := by decide +kernel
theorem dX9_add_78 : decode cX9_add 78 = .ok (.ior, 1) := by decide +kernel
theorem dX9_add_79 : decode cX9_add 79 = .ok (.iastore, 1) := by decide +kernel
theorem dX9_add_80 : decode cX9_add 80 = .ok (.iinc 3 1, 3) := by decide +kernel
theorem dX9_add_83 : decode cX9_add 83 = .ok (.goto (-41), 3) := by decide +kernel
theorem dX9_add_86 : decode cX9_add 86 = .ok (.aload_n 0, 1) := by decide +kernel
theorem dX9_add_87 : decode cX9_add 87 = .ok (.dup, 1) := by decide +kernel
theorem dX9_add_88 : decode cX9_add 88 = .ok (.getfield 86, 3) := by decide +kernel
theorem dX9_add_91 : decode cX9_add 91 = .ok (.iconst 1, 1) := by decide +kernel
theorem dX9_add_92 : decode cX9_add 92 = .ok (.iadd, 1) := by decide +kernel
theorem dX9_add_93 : decode cX9_add 93 = .ok (.putfield 86, 3) := by decide +kernel
theorem dX9_add_96 : decode cX9_add 96 = .ok (.return_, 1) := by decide +kernel
set_option maxRecDepth 20000 in
theorem ggX9_person_X9_in : GoodIn wsX9_person wsX9_in := goodIn_r _ [7] (by decide +kernel) (by decide +kernel)
set_option maxRecDepth 20000 in
theorem gX9_person_X9_in : GoodIn wsX9_person (va_wsS RX9 90 yX9_in wsX9_in) := goodIn_app (goodIn_of _ (by decide +kernel)) ggX9_person_X9_in
set_option maxRecDepth 20000 in
theorem ggX9_person_X9_add : GoodIn wsX9_person wsX9_add := goodIn_r _ [11, 12, 3, 13, 14, 15, 16, 17, 18, 19, 20, 21, 22, 23, 24, 25, 26, 27, 28, 29, 30, 31, 32, 33, 34, 35, 36, 37, 38, 39, 40, 41, 42, 43, 44, 45, 46] (by decide +kernel) (by decide +kernel)
set_option maxRecDepth 20000 in
theorem gX9_person_X9_add : GoodIn wsX9_person (wsV RX9 102 RX9 yX9_add wsX9_add) := goodIn_app (goodIn_of _ (by decide +kernel)) ggX9_person_X9_add
theorem dX9_person_0 : decode cX9_person 0 = .ok (.iload_n 1, 1) := by decide +kernel
theorem dX9_person_1 : decode cX9_person 1 = .ok (.i2l, 1) := by decide +kernel
theorem dX9_person_2 : decode cX9_person 2 = .ok (.lconst 0, 1) := by decide +kernel
theorem dX9_person_3 : decode cX9_person 3 = .ok (.ldc2_w 98, 3) := by decide +kernel
theorem dX9_person_6 : decode cX9_person 6 = .ok (.invokestatic 90, 3) := by decide +kernel
theorem dX9_person_9 : decode cX9_person 9 = .ok (.ifCond .eq 15, 3) := by decide +kernel
theorem dX9_person_12 : decode cX9_person 12 = .ok (.iload_n 2, 1) := by decide +kernel
theorem dX9_person_13 : decode cX9_person 13 = .ok (.i2l, 1) := by decide +kernel
theorem dX9_person_14 : decode cX9_person 14 = .ok (.lconst 0, 1) := by decide +kernel
theorem dX9_person_15 : decode cX9_person 15 = .ok (.ldc2_w 100, 3) := by decide +kernel
theorem dX9_person_18 : decode cX9_person 18 = .ok (.invokestatic 90, 3) := by decide +kernel
theorem dX9_person_21 : decode cX9_person 21 = .ok (.ifCond .ne 5, 3) := by decide +kernel
theorem dX9_person_24 : decode cX9_person 24 = .ok (.iconst (-1), 1) := by decide +kernel
theorem dX9_person_25 : decode cX9_person 25 = .ok (.ireturn, 1) := by decide +kernel
theorem dX9_person_26 : decode cX9_person 26 = .ok (.aload_n 0, 1) := by decide +kernel
theorem dX9_person_27 : decode cX9_person 27 = .ok (.getfield 86, 3) := by decide +kernel
theorem dX9_person_30 : decode cX9_person 30 = .ok (.iconst 5, 1) := by decide +kernel
theorem dX9_person_31 : decode cX9_person 31 = .ok (.if_icmp .ne 6, 3) := by decide +kernel
theorem dX9_person_34 : decode cX9_person 34 = .ok (.bipush (-3), 2) := by decide +kernel
theorem dX9_person_36 : decode cX9_person 36 = .ok (.ireturn, 1) := by decide +kernel
theorem dX9_person_37 : decode cX9_person 37 = .ok (.aload_n 0, 1) := by decide +kernel
theorem dX9_person_38 : decode cX9_person 38 = .ok (.iload_n 1, 1) := by decide +kernel
theorem dX9_person_39 : decode cX9_person 39 = .ok (.iload_n 2, 1) := by decide +kernel
theorem dX9_person_40 : decode cX9_person 40 = .ok (.invokevirtual 102, 3) := by decide +kernel
theorem dX9_person_43 : decode cX9_person 43 = .ok (.aload_n 0, 1) := by decide +kernel
theorem dX9_person_44 : decode cX9_person 44 = .ok (.getfield 86, 3) := by decide +kernel
theorem dX9_person_47 : decode cX9_person 47 = .ok (.iconst 1, 1) := by decide +kernel
theorem dX9_person_48 : decode cX9_person 48 = .ok (.isub, 1) := by decide +kernel
theorem dX9_person_49 : decode cX9_person 49 = .ok (.ireturn, 1) := by decide +kernel
set_option maxRecDepth 20000 in
theorem ggX9_set_X9_isOne : GoodIn wsX9_set wsX9_isOne := goodIn_r _ [7, 8, 9, 10, 6, 11, 12, 13, 14, 15, 16, 17, 18, 19, 20, 21, 22, 23, 24, 25, 26, 27, 28, 29, 30, 31, 32, 33, 34, 35, 36, 37, 38, 39, 40, 41, 42] (by decide +kernel) (by decide +kernel)
set_option maxRecDepth 20000 in
theorem gX9_set_X9_isOne : GoodIn wsX9_set (wsV RX9 94 RX9 yX9_isOne wsX9_isOne) := goodIn_app (goodIn_of _ (by decide +kernel)) ggX9_set_X9_isOne
set_option maxRecDepth 20000 in
theorem ggX9_set_X9_in : GoodIn wsX9_set wsX9_in := goodIn_r _ [11] (by decide +kernel) (by decide +kernel)
set_option maxRecDepth 20000 in
theorem gX9_set_X9_in : GoodIn wsX9_set (va_wsS RX9 90 yX9_in wsX9_in) := goodIn_app (goodIn_of _ (by decide +kernel)) ggX9_set_X9_in
theorem dX9_set_0 : decode cX9_set 0 = .ok (.aload_n 0, 1) := by decide +kernel
theorem dX9_set_1 : decode cX9_set 1 = .ok (.iload_n 1, 1) := by decide +kernel
theorem dX9_set_2 : decode cX9_set 2 = .ok (.invokevirtual 94, 3) := by decide +kernel
theorem dX9_set_5 : decode cX9_set 5 = .ok (.ifCond .eq 15, 3) := by decide +kernel
theorem dX9_set_8 : decode cX9_set 8 = .ok (.iload_n 2, 1) := by decide +kernel
theorem dX9_set_9 : decode cX9_set 9 = .ok (.i2l, 1) := by decide +kernel
theorem dX9_set_10 : decode cX9_set 10 = .ok (.lconst 0, 1) := by decide +kernel
theorem dX9_set_11 : decode cX9_set 11 = .ok (.ldc2_w 100, 3) := by decide +kernel
theorem dX9_set_14 : decode cX9_set 14 = .ok (.invokestatic 90, 3) := by decide +kernel
theorem dX9_set_17 : decode cX9_set 17 = .ok (.ifCond .ne 5, 3) := by decide +kernel
theorem dX9_set_20 : decode cX9_set 20 = .ok (.iconst (-1), 1) := by decide +kernel
theorem dX9_set_21 : decode cX9_set 21 = .ok (.ireturn, 1) := by decide +kernel
theorem dX9_set_22 : decode cX9_set 22 = .ok (.aload_n 0, 1) := by decide +kernel
theorem dX9_set_23 : decode cX9_set 23 = .ok (.getfield 13, 3) := by decide +kernel
theorem dX9_set_26 : decode cX9_set 26 = .ok (.iload_n 1, 1) := by decide +kernel
theorem dX9_set_27 : decode cX9_set 27 = .ok (.iaload, 1) := by decide +kernel
theorem dX9_set_28 : decode cX9_set 28 = .ok (.istore_n 3, 1) := by decide +kernel
theorem dX9_set_29 : decode cX9_set 29 = .ok (.aload_n 0, 1) := by decide +kernel
theorem dX9_set_30 : decode cX9_set 30 = .ok (.getfield 13, 3) := by decide +kernel
theorem dX9_set_33 : decode cX9_set 33 = .ok (.iload_n 1, 1) := by decide +kernel
theorem dX9_set_34 : decode cX9_set 34 = .ok (.iload_n 2, 1) := by decide +kernel
theorem dX9_set_35 : decode cX9_set 35 = .ok (.iastore, 1) := by decide +kernel
theorem dX9_set_36 : decode cX9_set 36 = .ok (.iload_n 3, 1) := by decide +kernel
theorem dX9_set_37 : decode cX9_set 37 = .ok (.ireturn, 1) := by decide +kernel
set_option maxRecDepth 20000 in
theorem ggX9_told_X9_isOne : GoodIn wsX9_told wsX9_isOne := goodIn_r _ [10, 11, 12, 13, 9, 14, 19, 20, 21, 22, 23, 24, 25, 26, 27, 28, 29, 30, 31, 32, 33, 34, 35, 36, 37, 38, 39, 40, 41, 42, 43, 44, 45, 46, 47, 48, 49] (by decide +kernel) (by decide +kernel)
set_option maxRecDepth 20000 in
theorem gX9_told_X9_isOne : GoodIn wsX9_told (wsV RX9 94 RX9 yX9_isOne wsX9_isOne) := goodIn_app (goodIn_of _ (by decide +kernel)) ggX9_told_X9_isOne
set_option maxRecDepth 20000 in
theorem ggX9_told_X9_in : GoodIn wsX9_told wsX9_in := goodIn_r _ [14] (by decide +kernel) (by decide +kernel)
set_option maxRecDepth 20000 in
theorem gX9_told_X9_in : GoodIn wsX9_told (va_wsS RX9 90 yX9_in wsX9_in) := goodIn_app (goodIn_of _ (by decide +kernel)) ggX9_told_X9_in
theorem dX9_told_0 : decode cX9_told 0 = .ok (.aload_n 0, 1) := by decide +kernel
theorem dX9_told_1 : decode cX9_told 1 = .ok (.iload_n 1, 1) := by decide +kernel
theorem dX9_told_2 : decode cX9_told 2 = .ok (.invokevirtual 94, 3) := by decide +kernel
theorem dX9_told_5 : decode cX9_told 5 = .ok (.ifCond .eq 15, 3) := by decide +kernel
theorem dX9_told_8 : decode cX9_told 8 = .ok (.iload_n 2, 1) := by decide +kernel
theorem dX9_told_9 : decode cX9_told 9 = .ok (.i2l, 1) := by decide +kernel
theorem dX9_told_10 : decode cX9_told 10 = .ok (.lconst 0, 1) := by decide +kernel
theorem dX9_told_11 : decode cX9_told 11 = .ok (.ldc2_w 106, 3) := by decide +kernel
theorem dX9_told_14 : decode cX9_told 14 = .ok (.invokestatic 90, 3) := by decide +kernel
theorem dX9_told_17 : decode cX9_told 17 = .ok (.ifCond .ne 5, 3) := by decide +kernel
theorem dX9_told_20 : decode cX9_told 20 = .ok (.iconst (-1), 1) := by decide +kernel
theorem dX9_told_21 : decode cX9_told 21 = .ok (.ireturn, 1) := by decide +kernel
theorem dX9_told_22 : decode cX9_told 22 = .ok (.iload_n 2, 1) := by decide +kernel
theorem dX9_told_23 : decode cX9_told 23 = .ok (.ifCond .ne 12, 3) := by decide +kernel
theorem dX9_told_26 : decode cX9_told 26 = .ok (.aload_n 0, 1) := by decide +kernel
theorem dX9_told_27 : decode cX9_told 27 = .ok (.getfield 7, 3) := by decide +kernel
theorem dX9_told_30 : decode cX9_told 30 = .ok (.iload_n 1, 1) := by decide +kernel
theorem dX9_told_31 : decode cX9_told 31 = .ok (.iaload, 1) := by decide +kernel
theorem dX9_told_32 : decode cX9_told 32 = .ok (.goto 56, 3) := by decide +kernel
theorem dX9_told_35 : decode cX9_told 35 = .ok (.iload_n 2, 1) := by decide +kernel
theorem dX9_told_36 : decode cX9_told 36 = .ok (.iconst 1, 1) := by decide +kernel
theorem dX9_told_37 : decode cX9_told 37 = .ok (.if_icmp .ne 12, 3) := by decide +kernel
theorem dX9_told_40 : decode cX9_told 40 = .ok (.aload_n 0, 1) := by decide +kernel
theorem dX9_told_41 : decode cX9_told 41 = .ok (.getfield 13, 3) := by decide +kernel
theorem dX9_told_44 : decode cX9_told 44 = .ok (.iload_n 1, 1) := by decide +kernel
theorem dX9_told_45 : decode cX9_told 45 = .ok (.iaload, 1) := by decide +kernel
theorem dX9_told_46 : decode cX9_told 46 = .ok (.goto 42, 3) := by decide +kernel
theorem dX9_told_49 : decode cX9_told 49 = .ok (.iload_n 2, 1) := by decide +kernel
theorem dX9_told_50 : decode cX9_told 50 = .ok (.iconst 2, 1) := by decide +kernel
theorem dX9_told_51 : decode cX9_told 51 = .ok (.if_icmp .ne 17, 3) := by decide +kernel
theorem dX9_told_54 : decode cX9_told 54 = .ok (.aload_n 0, 1) := by decide +kernel
theorem dX9_told_55 : decode cX9_told 55 = .ok (.iload_n 1, 1) := by decide +kernel
theorem dX9_told_56 : decode cX9_told 56 = .ok (.aload_n 0, 1) := by decide +kernel
theorem dX9_told_57 : decode cX9_told 57 = .ok (.getfield 13, 3) := by decide +kernel
theorem dX9_told_60 : decode cX9_told 60 = .ok (.iload_n 1, 1) := by decide +kernel
theorem dX9_told_61 : decode cX9_told 61 = .ok (.iaload, 1) := by decide +kernel
theorem dX9_told_62 : decode cX9_told 62 = .ok (.invokevirtual 108, 3) := by decide +kernel
theorem dX9_told_65 : decode cX9_told 65 = .ok (.goto 23, 3) := by decide +kernel
theorem dX9_told_68 : decode cX9_told 68 = .ok (.iload_n 2, 1) := by decide +kernel
theorem dX9_told_69 : decode cX9_told 69 = .ok (.iconst 3, 1) := by decide +kernel
theorem dX9_told_70 : decode cX9_told 70 = .ok (.if_icmp .ne 12, 3) := by decide +kernel
theorem dX9_told_73 : decode cX9_told 73 = .ok (.aload_n 0, 1) := by decide +kernel
theorem dX9_told_74 : decode cX9_told 74 = .ok (.getfield 16, 3) := by decide +kernel
theorem dX9_told_77 : decode cX9_told 77 = .ok (.iload_n 1, 1) := by decide +kernel
theorem dX9_told_78 : decode cX9_told 78 = .ok (.iaload, 1) := by decide +kernel
theorem dX9_told_79 : decode cX9_told 79 = .ok (.goto 9, 3) := by decide +kernel
theorem dX9_told_82 : decode cX9_told 82 = .ok (.aload_n 0, 1) := by decide +kernel
theorem dX9_told_83 : decode cX9_told 83 = .ok (.getfield 19, 3) := by decide +kernel
theorem dX9_told_86 : decode cX9_told 86 = .ok (.iload_n 1, 1) := by decide +kernel
theorem dX9_told_87 : decode cX9_told 87 = .ok (.iaload, 1) := by decide +kernel
theorem dX9_told_88 : decode cX9_told 88 = .ok (.ireturn, 1) := by decide +kernel
set_option maxRecDepth 20000 in
theorem ggX9_knows_X9_areTwo : GoodIn wsX9_knows wsX9_areTwo := goodIn_r _ [6, 7, 8, 9, 5, 10, 11, 12, 13, 14, 15, 16, 17, 18, 19, 20, 21, 22, 23, 24, 25, 26, 27, 28, 29, 30, 31, 32, 33, 34, 35, 36, 37, 38, 39, 40, 41, 42, 43, 44, 45] (by decide +kernel) (by decide +kernel)
set_option maxRecDepth 20000 in
theorem gX9_knows_X9_areTwo : GoodIn wsX9_knows (wsV RX9 112 RX9 yX9_areTwo wsX9_areTwo) := goodIn_app (goodIn_of _ (by decide +kernel)) ggX9_knows_X9_areTwo
theorem dX9_knows_0 : decode cX9_knows 0 = .ok (.aload_n 0, 1) := by decide +kernel
theorem dX9_knows_1 : decode cX9_knows 1 = .ok (.iload_n 1, 1) := by decide +kernel
theorem dX9_knows_2 : decode cX9_knows 2 = .ok (.iload_n 2, 1) := by decide +kernel
theorem dX9_knows_3 : decode cX9_knows 3 = .ok (.invokevirtual 112, 3) := by decide +kernel
theorem dX9_knows_6 : decode cX9_knows 6 = .ok (.ifCond .ne 5, 3) := by decide +kernel
theorem dX9_knows_9 : decode cX9_knows 9 = .ok (.iconst (-1), 1) := by decide +kernel
theorem dX9_knows_10 : decode cX9_knows 10 = .ok (.ireturn, 1) := by decide +kernel
theorem dX9_knows_11 : decode cX9_knows 11 = .ok (.aload_n 0, 1) := by decide +kernel
theorem dX9_knows_12 : decode cX9_knows 12 = .ok (.getfield 16, 3) := by decide +kernel
theorem dX9_knows_15 : decode cX9_knows 15 = .ok (.iload_n 1, 1) := by decide +kernel
theorem dX9_knows_16 : decode cX9_knows 16 = .ok (.iaload, 1) := by decide +kernel
theorem dX9_knows_17 : decode cX9_knows 17 = .ok (.iload_n 2, 1) := by decide +kernel
theorem dX9_knows_18 : decode cX9_knows 18 = .ok (.ishr, 1) := by decide +kernel
theorem dX9_knows_19 : decode cX9_knows 19 = .ok (.iconst 1, 1) := by decide +kernel
theorem dX9_knows_20 : decode cX9_knows 20 = .ok (.iand, 1) := by decide +kernel
theorem dX9_knows_21 : decode cX9_knows 21 = .ok (.istore 4, 2) := by decide +kernel
theorem dX9_knows_23 : decode cX9_knows 23 = .ok (.aload_n 0, 1) := by decide +kernel
theorem dX9_knows_24 : decode cX9_knows 24 = .ok (.getfield 16, 3) := by decide +kernel
theorem dX9_knows_27 : decode cX9_knows 27 = .ok (.iload_n 1, 1) := by decide +kernel
theorem dX9_knows_28 : decode cX9_knows 28 = .ok (.iload_n 3, 1) := by decide +kernel
theorem dX9_knows_29 : decode cX9_knows 29 = .ok (.ifCond .eq 16, 3) := by decide +kernel
theorem dX9_knows_32 : decode cX9_knows 32 = .ok (.aload_n 0, 1) := by decide +kernel
theorem dX9_knows_33 : decode cX9_knows 33 = .ok (.getfield 16, 3) := by decide +kernel
theorem dX9_knows_36 : decode cX9_knows 36 = .ok (.iload_n 1, 1) := by decide +kernel
theorem dX9_knows_37 : decode cX9_knows 37 = .ok (.iaload, 1) := by decide +kernel
theorem dX9_knows_38 : decode cX9_knows 38 = .ok (.iconst 1, 1) := by decide +kernel
theorem dX9_knows_39 : decode cX9_knows 39 = .ok (.iload_n 2, 1) := by decide +kernel
theorem dX9_knows_40 : decode cX9_knows 40 = .ok (.ishl, 1) := by decide +kernel
theorem dX9_knows_41 : decode cX9_knows 41 = .ok (.ior, 1) := by decide +kernel
theorem dX9_knows_42 : decode cX9_knows 42 = .ok (.goto 15, 3) := by decide +kernel
theorem dX9_knows_45 : decode cX9_knows 45 = .ok (.aload_n 0, 1) := by decide +kernel
theorem dX9_knows_46 : decode cX9_knows 46 = .ok (.getfield 16, 3) := by decide +kernel
theorem dX9_knows_49 : decode cX9_knows 49 = .ok (.iload_n 1, 1) := by decide +kernel
theorem dX9_knows_50 : decode cX9_knows 50 = .ok (.iaload, 1) := by decide +kernel
theorem dX9_knows_51 : decode cX9_knows 51 = .ok (.iconst 1, 1) := by decide +kernel
theorem dX9_knows_52 : decode cX9_knows 52 = .ok (.iload_n 2, 1) := by decide +kernel
theorem dX9_knows_53 : decode cX9_knows 53 = .ok (.ishl, 1) := by decide +kernel
theorem dX9_knows_54 : decode cX9_knows 54 = .ok (.iconst (-1), 1) := by decide +kernel
theorem dX9_knows_55 : decode cX9_knows 55 = .ok (.ixor, 1) := by decide +kernel
theorem dX9_knows_56 : decode cX9_knows 56 = .ok (.iand, 1) := by decide +kernel
theorem dX9_knows_57 : decode cX9_knows 57 = .ok (.iastore, 1) := by decide +kernel
theorem dX9_knows_58 : decode cX9_knows 58 = .ok (.iload 4, 2) := by decide +kernel
theorem dX9_knows_60 : decode cX9_knows 60 = .ok (.ireturn, 1) := by decide +kernel
theorem dX9_begin_0 : decode cX9_begin 0 = .ok (.iconst 0, 1) := by decide +kernel
theorem dX9_begin_1 : decode cX9_begin 1 = .ok (.istore_n 1, 1) := by decide +kernel
theorem dX9_begin_2 : decode cX9_begin 2 = .ok (.iload_n 1, 1) := by decide +kernel
theorem dX9_begin_3 : decode cX9_begin 3 = .ok (.iconst 5, 1) := by decide +kernel
theorem dX9_begin_4 : decode cX9_begin 4 = .ok (.if_icmp .ge 33, 3) := by decide +kernel
theorem dX9_begin_7 : decode cX9_begin 7 = .ok (.aload_n 0, 1) := by decide +kernel
theorem dX9_begin_8 : decode cX9_begin 8 = .ok (.getfield 25, 3) := by decide +kernel
theorem dX9_begin_11 : decode cX9_begin 11 = .ok (.iload_n 1, 1) := by decide +kernel
theorem dX9_begin_12 : decode cX9_begin 12 = .ok (.aload_n 0, 1) := by decide +kernel
theorem dX9_begin_13 : decode cX9_begin 13 = .ok (.getfield 13, 3) := by decide +kernel
theorem dX9_begin_16 : decode cX9_begin 16 = .ok (.iload_n 1, 1) := by decide +kernel
theorem dX9_begin_17 : decode cX9_begin 17 = .ok (.iaload, 1) := by decide +kernel
theorem dX9_begin_18 : decode cX9_begin 18 = .ok (.iastore, 1) := by decide +kernel
theorem dX9_begin_19 : decode cX9_begin 19 = .ok (.aload_n 0, 1) := by decide +kernel
theorem dX9_begin_20 : decode cX9_begin 20 = .ok (.getfield 28, 3) := by decide +kernel
theorem dX9_begin_23 : decode cX9_begin 23 = .ok (.iload_n 1, 1) := by decide +kernel
theorem dX9_begin_24 : decode cX9_begin 24 = .ok (.aload_n 0, 1) := by decide +kernel
theorem dX9_begin_25 : decode cX9_begin 25 = .ok (.getfield 19, 3) := by decide +kernel
theorem dX9_begin_28 : decode cX9_begin 28 = .ok (.iload_n 1, 1) := by decide +kernel
theorem dX9_begin_29 : decode cX9_begin 29 = .ok (.iaload, 1) := by decide +kernel
theorem dX9_begin_30 : decode cX9_begin 30 = .ok (.iastore, 1) := by decide +kernel
theorem dX9_begin_31 : decode cX9_begin 31 = .ok (.iinc 1 1, 3) := by decide +kernel
theorem dX9_begin_34 : decode cX9_begin 34 = .ok (.goto (-32), 3) := by decide +kernel
theorem dX9_begin_37 : decode cX9_begin 37 = .ok (.return_, 1) := by decide +kernel
theorem dX9_newWeek_0 : decode cX9_newWeek 0 = .ok (.iconst 0, 1) := by decide +kernel
theorem dX9_newWeek_1 : decode cX9_newWeek 1 = .ok (.istore_n 1, 1) := by decide +kernel
theorem dX9_newWeek_2 : decode cX9_newWeek 2 = .ok (.iload_n 1, 1) := by decide +kernel
theorem dX9_newWeek_3 : decode cX9_newWeek 3 = .ok (.iconst 5, 1) := by decide +kernel
theorem dX9_newWeek_4 : decode cX9_newWeek 4 = .ok (.if_icmp .ge 16, 3) := by decide +kernel
theorem dX9_newWeek_7 : decode cX9_newWeek 7 = .ok (.aload_n 0, 1) := by decide +kernel
theorem dX9_newWeek_8 : decode cX9_newWeek 8 = .ok (.getfield 28, 3) := by decide +kernel
theorem dX9_newWeek_11 : decode cX9_newWeek 11 = .ok (.iload_n 1, 1) := by decide +kernel
theorem dX9_newWeek_12 : decode cX9_newWeek 12 = .ok (.iconst 0, 1) := by decide +kernel
theorem dX9_newWeek_13 : decode cX9_newWeek 13 = .ok (.iastore, 1) := by decide +kernel
theorem dX9_newWeek_14 : decode cX9_newWeek 14 = .ok (.iinc 1 1, 3) := by decide +kernel
theorem dX9_newWeek_17 : decode cX9_newWeek 17 = .ok (.goto (-15), 3) := by decide +kernel
theorem dX9_newWeek_20 : decode cX9_newWeek 20 = .ok (.return_, 1) := by decide +kernel
theorem dX9_keep_0 : decode cX9_keep 0 = .ok (.iconst 0, 1) := by decide +kernel
theorem dX9_keep_1 : decode cX9_keep 1 = .ok (.istore_n 1, 1) := by decide +kernel
theorem dX9_keep_2 : decode cX9_keep 2 = .ok (.iload_n 1, 1) := by decide +kernel
theorem dX9_keep_3 : decode cX9_keep 3 = .ok (.iconst 5, 1) := by decide +kernel
theorem dX9_keep_4 : decode cX9_keep 4 = .ok (.if_icmp .ge 33, 3) := by decide +kernel
theorem dX9_keep_7 : decode cX9_keep 7 = .ok (.aload_n 0, 1) := by decide +kernel
theorem dX9_keep_8 : decode cX9_keep 8 = .ok (.getfield 13, 3) := by decide +kernel
theorem dX9_keep_11 : decode cX9_keep 11 = .ok (.iload_n 1, 1) := by decide +kernel
theorem dX9_keep_12 : decode cX9_keep 12 = .ok (.aload_n 0, 1) := by decide +kernel
theorem dX9_keep_13 : decode cX9_keep 13 = .ok (.getfield 25, 3) := by decide +kernel
theorem dX9_keep_16 : decode cX9_keep 16 = .ok (.iload_n 1, 1) := by decide +kernel
theorem dX9_keep_17 : decode cX9_keep 17 = .ok (.iaload, 1) := by decide +kernel
theorem dX9_keep_18 : decode cX9_keep 18 = .ok (.iastore, 1) := by decide +kernel
theorem dX9_keep_19 : decode cX9_keep 19 = .ok (.aload_n 0, 1) := by decide +kernel
theorem dX9_keep_20 : decode cX9_keep 20 = .ok (.getfield 19, 3) := by decide +kernel
theorem dX9_keep_23 : decode cX9_keep 23 = .ok (.iload_n 1, 1) := by decide +kernel
theorem dX9_keep_24 : decode cX9_keep 24 = .ok (.aload_n 0, 1) := by decide +kernel
theorem dX9_keep_25 : decode cX9_keep 25 = .ok (.getfield 28, 3) := by decide +kernel
theorem dX9_keep_28 : decode cX9_keep 28 = .ok (.iload_n 1, 1) := by decide +kernel
theorem dX9_keep_29 : decode cX9_keep 29 = .ok (.iaload, 1) := by decide +kernel
theorem dX9_keep_30 : decode cX9_keep 30 = .ok (.iastore, 1) := by decide +kernel
theorem dX9_keep_31 : decode cX9_keep 31 = .ok (.iinc 1 1, 3) := by decide +kernel
theorem dX9_keep_34 : decode cX9_keep 34 = .ok (.goto (-32), 3) := by decide +kernel
theorem dX9_keep_37 : decode cX9_keep 37 = .ok (.return_, 1) := by decide +kernel
set_option maxRecDepth 20000 in
theorem ggX9_ask_X9_areTwo : GoodIn wsX9_ask wsX9_areTwo := goodIn_r _ [5, 6, 7, 8, 4, 9, 10, 11, 12, 13, 39, 40, 41, 42, 43, 44, 45, 46, 47, 48, 49, 50, 51, 52, 53, 54, 55, 56, 57, 58, 59, 60, 61, 62, 63, 64, 65, 66, 67, 68, 69] (by decide +kernel) (by decide +kernel)
set_option maxRecDepth 20000 in
theorem gX9_ask_X9_areTwo : GoodIn wsX9_ask (wsV RX9 112 RX9 yX9_areTwo wsX9_areTwo) := goodIn_app (goodIn_of _ (by decide +kernel)) ggX9_ask_X9_areTwo
set_option maxRecDepth 20000 in
theorem ggX9_ask_X9_begin : GoodIn wsX9_ask wsX9_begin := goodIn_r _ [17, 18, 19, 20, 21, 39, 40, 41, 42, 43, 44, 45, 46, 47, 48, 49, 50, 51, 52, 53, 54, 55, 56, 57, 58, 59, 60, 61, 62, 63, 64, 65, 66, 67, 68, 69] (by decide +kernel) (by decide +kernel)
set_option maxRecDepth 20000 in
theorem gX9_ask_X9_begin : GoodIn wsX9_ask (wsV RX9 119 RX9 yX9_begin wsX9_begin) := goodIn_app (goodIn_of _ (by decide +kernel)) ggX9_ask_X9_begin
set_option maxRecDepth 20000 in
theorem ggX9_ask_X9_keep : GoodIn wsX9_ask wsX9_keep := goodIn_r _ [38, 19, 18, 21, 20, 39, 40, 41, 42, 43, 44, 45, 46, 47, 48, 49, 50, 51, 52, 53, 54, 55, 56, 57, 58, 59, 60, 61, 62, 63, 64, 65, 66, 67, 68, 69] (by decide +kernel) (by decide +kernel)
set_option maxRecDepth 20000 in
theorem gX9_ask_X9_keep : GoodIn wsX9_ask (wsV RX9 125 RX9 yX9_keep wsX9_keep) := goodIn_app (goodIn_of _ (by decide +kernel)) ggX9_ask_X9_keep
theorem dX9_ask_0 : decode cX9_ask 0 = .ok (.aload_n 0, 1) := by decide +kernel
theorem dX9_ask_1 : decode cX9_ask 1 = .ok (.iload_n 1, 1) := by decide +kernel
theorem dX9_ask_2 : decode cX9_ask 2 = .ok (.iload_n 2, 1) := by decide +kernel
theorem dX9_ask_3 : decode cX9_ask 3 = .ok (.invokevirtual 112, 3) := by decide +kernel
theorem dX9_ask_6 : decode cX9_ask 6 = .ok (.ifCond .ne 5, 3) := by decide +kernel
theorem dX9_ask_9 : decode cX9_ask 9 = .ok (.iconst (-1), 1) := by decide +kernel
theorem dX9_ask_10 : decode cX9_ask 10 = .ok (.ireturn, 1) := by decide +kernel
theorem dX9_ask_11 : decode cX9_ask 11 = .ok (.aload_n 0, 1) := by decide +kernel
theorem dX9_ask_12 : decode cX9_ask 12 = .ok (.invokevirtual 119, 3) := by decide +kernel
theorem dX9_ask_15 : decode cX9_ask 15 = .ok (.aload_n 0, 1) := by decide +kernel
theorem dX9_ask_16 : decode cX9_ask 16 = .ok (.iload_n 1, 1) := by decide +kernel
theorem dX9_ask_17 : decode cX9_ask 17 = .ok (.iload_n 2, 1) := by decide +kernel
theorem dX9_ask_18 : decode cX9_ask 18 = .ok (.invokevirtual 122, 3) := by decide +kernel
theorem dX9_ask_21 : decode cX9_ask 21 = .ok (.istore_n 3, 1) := by decide +kernel
theorem dX9_ask_22 : decode cX9_ask 22 = .ok (.aload_n 0, 1) := by decide +kernel
theorem dX9_ask_23 : decode cX9_ask 23 = .ok (.invokevirtual 125, 3) := by decide +kernel
theorem dX9_ask_26 : decode cX9_ask 26 = .ok (.iload_n 3, 1) := by decide +kernel
theorem dX9_ask_27 : decode cX9_ask 27 = .ok (.ireturn, 1) := by decide +kernel
theorem dX9_askings_0 : decode cX9_askings 0 = .ok (.iconst 0, 1) := by decide +kernel
theorem dX9_askings_1 : decode cX9_askings 1 = .ok (.istore_n 1, 1) := by decide +kernel
theorem dX9_askings_2 : decode cX9_askings 2 = .ok (.iconst 0, 1) := by decide +kernel
theorem dX9_askings_3 : decode cX9_askings 3 = .ok (.istore_n 2, 1) := by decide +kernel
theorem dX9_askings_4 : decode cX9_askings 4 = .ok (.iload_n 2, 1) := by decide +kernel
theorem dX9_askings_5 : decode cX9_askings 5 = .ok (.aload_n 0, 1) := by decide +kernel
theorem dX9_askings_6 : decode cX9_askings 6 = .ok (.getfield 86, 3) := by decide +kernel
theorem dX9_askings_9 : decode cX9_askings 9 = .ok (.if_icmp .ge 21, 3) := by decide +kernel
theorem dX9_askings_12 : decode cX9_askings 12 = .ok (.iload_n 1, 1) := by decide +kernel
theorem dX9_askings_13 : decode cX9_askings 13 = .ok (.aload_n 0, 1) := by decide +kernel
theorem dX9_askings_14 : decode cX9_askings 14 = .ok (.getfield 19, 3) := by decide +kernel
theorem dX9_askings_17 : decode cX9_askings 17 = .ok (.iload_n 2, 1) := by decide +kernel
theorem dX9_askings_18 : decode cX9_askings 18 = .ok (.iaload, 1) := by decide +kernel
theorem dX9_askings_19 : decode cX9_askings 19 = .ok (.invokestatic 128, 3) := by decide +kernel
theorem dX9_askings_22 : decode cX9_askings 22 = .ok (.iadd, 1) := by decide +kernel
theorem dX9_askings_23 : decode cX9_askings 23 = .ok (.istore_n 1, 1) := by decide +kernel
theorem dX9_askings_24 : decode cX9_askings 24 = .ok (.iinc 2 1, 3) := by decide +kernel
theorem dX9_askings_27 : decode cX9_askings 27 = .ok (.goto (-23), 3) := by decide +kernel
theorem dX9_askings_30 : decode cX9_askings 30 = .ok (.iload_n 1, 1) := by decide +kernel
theorem dX9_askings_31 : decode cX9_askings 31 = .ok (.ireturn, 1) := by decide +kernel
set_option maxRecDepth 20000 in
theorem ggX9_week_X9_askings : GoodIn wsX9_week wsX9_askings := goodIn_r _ [5, 6, 7, 8, 9, 4, 10, 26, 27, 28, 29, 30, 31, 32, 33, 34, 35, 36, 37, 38, 39, 40, 41, 42, 43, 44, 45, 46, 47, 48, 49, 50, 51, 52, 53, 54, 55, 56] (by decide +kernel) (by decide +kernel)
set_option maxRecDepth 20000 in
theorem gX9_week_X9_askings : GoodIn wsX9_week (wsV RX9 132 RX9 yX9_askings wsX9_askings) := goodIn_app (goodIn_of _ (by decide +kernel)) ggX9_week_X9_askings
set_option maxRecDepth 20000 in
theorem ggX9_week_X9_begin : GoodIn wsX9_week wsX9_begin := goodIn_r _ [14, 15, 16, 17, 7, 26, 27, 28, 29, 30, 31, 32, 33, 34, 35, 36, 37, 38, 39, 40, 41, 42, 43, 44, 45, 46, 47, 48, 49, 50, 51, 52, 53, 54, 55, 56] (by decide +kernel) (by decide +kernel)
set_option maxRecDepth 20000 in
theorem gX9_week_X9_begin : GoodIn wsX9_week (wsV RX9 119 RX9 yX9_begin wsX9_begin) := goodIn_app (goodIn_of _ (by decide +kernel)) ggX9_week_X9_begin
set_option maxRecDepth 20000 in
theorem ggX9_week_X9_newWeek : GoodIn wsX9_week wsX9_newWeek := goodIn_r _ [21, 17, 26, 27, 28, 29, 30, 31, 32, 33, 34, 35, 36, 37, 38, 39, 40, 41, 42, 43, 44, 45, 46, 47, 48, 49, 50, 51, 52, 53, 54, 55, 56] (by decide +kernel) (by decide +kernel)
set_option maxRecDepth 20000 in
theorem gX9_week_X9_newWeek : GoodIn wsX9_week (wsV RX9 136 RX9 yX9_newWeek wsX9_newWeek) := goodIn_app (goodIn_of _ (by decide +kernel)) ggX9_week_X9_newWeek
set_option maxRecDepth 20000 in
theorem ggX9_week_X9_keep : GoodIn wsX9_week wsX9_keep := goodIn_r _ [25, 16, 15, 7, 17, 26, 27, 28, 29, 30, 31, 32, 33, 34, 35, 36, 37, 38, 39, 40, 41, 42, 43, 44, 45, 46, 47, 48, 49, 50, 51, 52, 53, 54, 55, 56] (by decide +kernel) (by decide +kernel)
set_option maxRecDepth 20000 in
theorem gX9_week_X9_keep : GoodIn wsX9_week (wsV RX9 125 RX9 yX9_keep wsX9_keep) := goodIn_app (goodIn_of _ (by decide +kernel)) ggX9_week_X9_keep
theorem dX9_week_0 : decode cX9_week 0 = .ok (.aload_n 0, 1) := by decide +kernel
theorem dX9_week_1 : decode cX9_week 1 = .ok (.invokevirtual 132, 3) := by decide +kernel
theorem dX9_week_4 : decode cX9_week 4 = .ok (.istore_n 1, 1) := by decide +kernel
theorem dX9_week_5 : decode cX9_week 5 = .ok (.aload_n 0, 1) := by decide +kernel
theorem dX9_week_6 : decode cX9_week 6 = .ok (.invokevirtual 119, 3) := by decide +kernel
theorem dX9_week_9 : decode cX9_week 9 = .ok (.aload_n 0, 1) := by decide +kernel
theorem dX9_week_10 : decode cX9_week 10 = .ok (.invokevirtual 136, 3) := by decide +kernel
theorem dX9_week_13 : decode cX9_week 13 = .ok (.aload_n 0, 1) := by decide +kernel
theorem dX9_week_14 : decode cX9_week 14 = .ok (.invokevirtual 125, 3) := by decide +kernel
theorem dX9_week_17 : decode cX9_week 17 = .ok (.iload_n 1, 1) := by decide +kernel
theorem dX9_week_18 : decode cX9_week 18 = .ok (.ireturn, 1) := by decide +kernel
set_option maxRecDepth 20000 in
theorem ggX9_count_X9_askings : GoodIn wsX9_count wsX9_askings := goodIn_r _ [9, 1, 10, 11, 12, 8, 13, 14, 15, 16, 17, 18, 19, 20, 21, 22, 23, 24, 25, 26, 27, 28, 29, 30, 31, 32, 33, 34, 35, 36, 37, 38, 39, 40, 41, 42, 43, 44] (by decide +kernel) (by decide +kernel)
set_option maxRecDepth 20000 in
theorem gX9_count_X9_askings : GoodIn wsX9_count (wsV RX9 132 RX9 yX9_askings wsX9_askings) := goodIn_app (goodIn_of _ (by decide +kernel)) ggX9_count_X9_askings
theorem dX9_count_0 : decode cX9_count 0 = .ok (.iconst 0, 1) := by decide +kernel
theorem dX9_count_1 : decode cX9_count 1 = .ok (.istore_n 2, 1) := by decide +kernel
theorem dX9_count_2 : decode cX9_count 2 = .ok (.iconst 0, 1) := by decide +kernel
theorem dX9_count_3 : decode cX9_count 3 = .ok (.istore_n 3, 1) := by decide +kernel
theorem dX9_count_4 : decode cX9_count 4 = .ok (.iconst 0, 1) := by decide +kernel
theorem dX9_count_5 : decode cX9_count 5 = .ok (.istore 4, 2) := by decide +kernel
theorem dX9_count_7 : decode cX9_count 7 = .ok (.iload 4, 2) := by decide +kernel
theorem dX9_count_9 : decode cX9_count 9 = .ok (.aload_n 0, 1) := by decide +kernel
theorem dX9_count_10 : decode cX9_count 10 = .ok (.getfield 86, 3) := by decide +kernel
theorem dX9_count_13 : decode cX9_count 13 = .ok (.if_icmp .ge 19, 3) := by decide +kernel
theorem dX9_count_16 : decode cX9_count 16 = .ok (.iload_n 2, 1) := by decide +kernel
theorem dX9_count_17 : decode cX9_count 17 = .ok (.aload_n 0, 1) := by decide +kernel
theorem dX9_count_18 : decode cX9_count 18 = .ok (.getfield 13, 3) := by decide +kernel
theorem dX9_count_21 : decode cX9_count 21 = .ok (.iload 4, 2) := by decide +kernel
theorem dX9_count_23 : decode cX9_count 23 = .ok (.iaload, 1) := by decide +kernel
theorem dX9_count_24 : decode cX9_count 24 = .ok (.iadd, 1) := by decide +kernel
theorem dX9_count_25 : decode cX9_count 25 = .ok (.istore_n 2, 1) := by decide +kernel
theorem dX9_count_26 : decode cX9_count 26 = .ok (.iinc 4 1, 3) := by decide +kernel
theorem dX9_count_29 : decode cX9_count 29 = .ok (.goto (-22), 3) := by decide +kernel
theorem dX9_count_32 : decode cX9_count 32 = .ok (.iconst 0, 1) := by decide +kernel
theorem dX9_count_33 : decode cX9_count 33 = .ok (.istore 4, 2) := by decide +kernel
theorem dX9_count_35 : decode cX9_count 35 = .ok (.iload 4, 2) := by decide +kernel
theorem dX9_count_37 : decode cX9_count 37 = .ok (.aload_n 0, 1) := by decide +kernel
theorem dX9_count_38 : decode cX9_count 38 = .ok (.getfield 139, 3) := by decide +kernel
theorem dX9_count_41 : decode cX9_count 41 = .ok (.if_icmp .ge 23, 3) := by decide +kernel
theorem dX9_count_44 : decode cX9_count 44 = .ok (.iload_n 3, 1) := by decide +kernel
theorem dX9_count_45 : decode cX9_count 45 = .ok (.aload_n 0, 1) := by decide +kernel
theorem dX9_count_46 : decode cX9_count 46 = .ok (.getfield 22, 3) := by decide +kernel
theorem dX9_count_49 : decode cX9_count 49 = .ok (.iconst 3, 1) := by decide +kernel
theorem dX9_count_50 : decode cX9_count 50 = .ok (.iload 4, 2) := by decide +kernel
theorem dX9_count_52 : decode cX9_count 52 = .ok (.imul, 1) := by decide +kernel
theorem dX9_count_53 : decode cX9_count 53 = .ok (.iconst 2, 1) := by decide +kernel
theorem dX9_count_54 : decode cX9_count 54 = .ok (.iadd, 1) := by decide +kernel
theorem dX9_count_55 : decode cX9_count 55 = .ok (.iaload, 1) := by decide +kernel
theorem dX9_count_56 : decode cX9_count 56 = .ok (.iadd, 1) := by decide +kernel
theorem dX9_count_57 : decode cX9_count 57 = .ok (.istore_n 3, 1) := by decide +kernel
theorem dX9_count_58 : decode cX9_count 58 = .ok (.iinc 4 1, 3) := by decide +kernel
theorem dX9_count_61 : decode cX9_count 61 = .ok (.goto (-26), 3) := by decide +kernel
theorem dX9_count_64 : decode cX9_count 64 = .ok (.iload_n 1, 1) := by decide +kernel
theorem dX9_count_65 : decode cX9_count 65 = .ok (.tableswitch 54 0 4 #[35, 40, 42, 47, 52], 35) := by decide +kernel
theorem dX9_count_100 : decode cX9_count 100 = .ok (.aload_n 0, 1) := by decide +kernel
theorem dX9_count_101 : decode cX9_count 101 = .ok (.getfield 86, 3) := by decide +kernel
theorem dX9_count_104 : decode cX9_count 104 = .ok (.ireturn, 1) := by decide +kernel
theorem dX9_count_105 : decode cX9_count 105 = .ok (.iload_n 2, 1) := by decide +kernel
theorem dX9_count_106 : decode cX9_count 106 = .ok (.ireturn, 1) := by decide +kernel
theorem dX9_count_107 : decode cX9_count 107 = .ok (.aload_n 0, 1) := by decide +kernel
theorem dX9_count_108 : decode cX9_count 108 = .ok (.invokevirtual 132, 3) := by decide +kernel
theorem dX9_count_111 : decode cX9_count 111 = .ok (.ireturn, 1) := by decide +kernel
theorem dX9_count_112 : decode cX9_count 112 = .ok (.aload_n 0, 1) := by decide +kernel
theorem dX9_count_113 : decode cX9_count 113 = .ok (.getfield 139, 3) := by decide +kernel
theorem dX9_count_116 : decode cX9_count 116 = .ok (.ireturn, 1) := by decide +kernel
theorem dX9_count_117 : decode cX9_count 117 = .ok (.iload_n 3, 1) := by decide +kernel
theorem dX9_count_118 : decode cX9_count 118 = .ok (.ireturn, 1) := by decide +kernel
theorem dX9_count_119 : decode cX9_count 119 = .ok (.iconst (-1), 1) := by decide +kernel
theorem dX9_count_120 : decode cX9_count 120 = .ok (.ireturn, 1) := by decide +kernel
set_option maxRecDepth 20000 in
theorem ggX9_type_X9_in : GoodIn wsX9_type wsX9_in := goodIn_r _ [10] (by decide +kernel) (by decide +kernel)
set_option maxRecDepth 20000 in
theorem gX9_type_X9_in : GoodIn wsX9_type (va_wsS RX9 90 yX9_in wsX9_in) := goodIn_app (goodIn_of _ (by decide +kernel)) ggX9_type_X9_in
theorem dX9_type_0 : decode cX9_type 0 = .ok (.iload_n 3, 1) := by decide +kernel
theorem dX9_type_1 : decode cX9_type 1 = .ok (.i2l, 1) := by decide +kernel
theorem dX9_type_2 : decode cX9_type 2 = .ok (.lconst 1, 1) := by decide +kernel
theorem dX9_type_3 : decode cX9_type 3 = .ok (.ldc2_w 142, 3) := by decide +kernel
theorem dX9_type_6 : decode cX9_type 6 = .ok (.invokestatic 90, 3) := by decide +kernel
theorem dX9_type_9 : decode cX9_type 9 = .ok (.ifCond .ne 5, 3) := by decide +kernel
theorem dX9_type_12 : decode cX9_type 12 = .ok (.iconst (-1), 1) := by decide +kernel
theorem dX9_type_13 : decode cX9_type 13 = .ok (.ireturn, 1) := by decide +kernel
theorem dX9_type_14 : decode cX9_type 14 = .ok (.iload_n 3, 1) := by decide +kernel
theorem dX9_type_15 : decode cX9_type 15 = .ok (.iconst 1, 1) := by decide +kernel
theorem dX9_type_16 : decode cX9_type 16 = .ok (.isub, 1) := by decide +kernel
theorem dX9_type_17 : decode cX9_type 17 = .ok (.istore 4, 2) := by decide +kernel
theorem dX9_type_19 : decode cX9_type 19 = .ok (.iload 4, 2) := by decide +kernel
theorem dX9_type_21 : decode cX9_type 21 = .ok (.ifCond .lt 34, 3) := by decide +kernel
theorem dX9_type_24 : decode cX9_type 24 = .ok (.lload_n 1, 1) := by decide +kernel
theorem dX9_type_25 : decode cX9_type 25 = .ok (.bipush 8, 2) := by decide +kernel
theorem dX9_type_27 : decode cX9_type 27 = .ok (.iload 4, 2) := by decide +kernel
theorem dX9_type_29 : decode cX9_type 29 = .ok (.imul, 1) := by decide +kernel
theorem dX9_type_30 : decode cX9_type 30 = .ok (.lshr, 1) := by decide +kernel
theorem dX9_type_31 : decode cX9_type 31 = .ok (.ldc2_w 144, 3) := by decide +kernel
theorem dX9_type_34 : decode cX9_type 34 = .ok (.land, 1) := by decide +kernel
theorem dX9_type_35 : decode cX9_type 35 = .ok (.ldc2_w 146, 3) := by decide +kernel
theorem dX9_type_38 : decode cX9_type 38 = .ok (.ldc2_w 148, 3) := by decide +kernel
theorem dX9_type_41 : decode cX9_type 41 = .ok (.invokestatic 90, 3) := by decide +kernel
theorem dX9_type_44 : decode cX9_type 44 = .ok (.ifCond .ne 5, 3) := by decide +kernel
theorem dX9_type_47 : decode cX9_type 47 = .ok (.iconst (-1), 1) := by decide +kernel
theorem dX9_type_48 : decode cX9_type 48 = .ok (.ireturn, 1) := by decide +kernel
theorem dX9_type_49 : decode cX9_type 49 = .ok (.iinc 4 (-1), 3) := by decide +kernel
theorem dX9_type_52 : decode cX9_type 52 = .ok (.goto (-33), 3) := by decide +kernel
theorem dX9_type_55 : decode cX9_type 55 = .ok (.aload_n 0, 1) := by decide +kernel
theorem dX9_type_56 : decode cX9_type 56 = .ok (.getfield 150, 3) := by decide +kernel
theorem dX9_type_59 : decode cX9_type 59 = .ok (.iload_n 3, 1) := by decide +kernel
theorem dX9_type_60 : decode cX9_type 60 = .ok (.iadd, 1) := by decide +kernel
theorem dX9_type_61 : decode cX9_type 61 = .ok (.bipush 80, 2) := by decide +kernel
theorem dX9_type_63 : decode cX9_type 63 = .ok (.if_icmp .le 6, 3) := by decide +kernel
theorem dX9_type_66 : decode cX9_type 66 = .ok (.bipush (-3), 2) := by decide +kernel
theorem dX9_type_68 : decode cX9_type 68 = .ok (.ireturn, 1) := by decide +kernel
theorem dX9_type_69 : decode cX9_type 69 = .ok (.iload_n 3, 1) := by decide +kernel
theorem dX9_type_70 : decode cX9_type 70 = .ok (.iconst 1, 1) := by decide +kernel
theorem dX9_type_71 : decode cX9_type 71 = .ok (.isub, 1) := by decide +kernel
theorem dX9_type_72 : decode cX9_type 72 = .ok (.istore 4, 2) := by decide +kernel
theorem dX9_type_74 : decode cX9_type 74 = .ok (.iload 4, 2) := by decide +kernel
theorem dX9_type_76 : decode cX9_type 76 = .ok (.ifCond .lt 40, 3) := by decide +kernel
theorem dX9_type_79 : decode cX9_type 79 = .ok (.aload_n 0, 1) := by decide +kernel
theorem dX9_type_80 : decode cX9_type 80 = .ok (.getfield 31, 3) := by decide +kernel
theorem dX9_type_83 : decode cX9_type 83 = .ok (.aload_n 0, 1) := by decide +kernel
theorem dX9_type_84 : decode cX9_type 84 = .ok (.getfield 150, 3) := by decide +kernel
theorem dX9_type_87 : decode cX9_type 87 = .ok (.lload_n 1, 1) := by decide +kernel
theorem dX9_type_88 : decode cX9_type 88 = .ok (.bipush 8, 2) := by decide +kernel
theorem dX9_type_90 : decode cX9_type 90 = .ok (.iload 4, 2) := by decide +kernel
theorem dX9_type_92 : decode cX9_type 92 = .ok (.imul, 1) := by decide +kernel
theorem dX9_type_93 : decode cX9_type 93 = .ok (.lshr, 1) := by decide +kernel
theorem dX9_type_94 : decode cX9_type 94 = .ok (.ldc2_w 144, 3) := by decide +kernel
theorem dX9_type_97 : decode cX9_type 97 = .ok (.land, 1) := by decide +kernel
theorem dX9_type_98 : decode cX9_type 98 = .ok (.l2i, 1) := by decide +kernel
theorem dX9_type_99 : decode cX9_type 99 = .ok (.iastore, 1) := by decide +kernel
theorem dX9_type_100 : decode cX9_type 100 = .ok (.aload_n 0, 1) := by decide +kernel
theorem dX9_type_101 : decode cX9_type 101 = .ok (.dup, 1) := by decide +kernel
theorem dX9_type_102 : decode cX9_type 102 = .ok (.getfield 150, 3) := by decide +kernel
theorem dX9_type_105 : decode cX9_type 105 = .ok (.iconst 1, 1) := by decide +kernel
theorem dX9_type_106 : decode cX9_type 106 = .ok (.iadd, 1) := by decide +kernel
theorem dX9_type_107 : decode cX9_type 107 = .ok (.putfield 150, 3) := by decide +kernel
theorem dX9_type_110 : decode cX9_type 110 = .ok (.iinc 4 (-1), 3) := by decide +kernel
theorem dX9_type_113 : decode cX9_type 113 = .ok (.goto (-39), 3) := by decide +kernel
theorem dX9_type_116 : decode cX9_type 116 = .ok (.aload_n 0, 1) := by decide +kernel
theorem dX9_type_117 : decode cX9_type 117 = .ok (.getfield 150, 3) := by decide +kernel
theorem dX9_type_120 : decode cX9_type 120 = .ok (.ireturn, 1) := by decide +kernel
theorem dX9_nextByte_0 : decode cX9_nextByte 0 = .ok (.aload_n 0, 1) := by decide +kernel
theorem dX9_nextByte_1 : decode cX9_nextByte 1 = .ok (.getfield 153, 3) := by decide +kernel
theorem dX9_nextByte_4 : decode cX9_nextByte 4 = .ok (.aload_n 0, 1) := by decide +kernel
theorem dX9_nextByte_5 : decode cX9_nextByte 5 = .ok (.getfield 150, 3) := by decide +kernel
theorem dX9_nextByte_8 : decode cX9_nextByte 8 = .ok (.if_icmp .ge 30, 3) := by decide +kernel
theorem dX9_nextByte_11 : decode cX9_nextByte 11 = .ok (.aload_n 0, 1) := by decide +kernel
theorem dX9_nextByte_12 : decode cX9_nextByte 12 = .ok (.getfield 31, 3) := by decide +kernel
theorem dX9_nextByte_15 : decode cX9_nextByte 15 = .ok (.aload_n 0, 1) := by decide +kernel
theorem dX9_nextByte_16 : decode cX9_nextByte 16 = .ok (.getfield 153, 3) := by decide +kernel
theorem dX9_nextByte_19 : decode cX9_nextByte 19 = .ok (.iaload, 1) := by decide +kernel
theorem dX9_nextByte_20 : decode cX9_nextByte 20 = .ok (.bipush 32, 2) := by decide +kernel
theorem dX9_nextByte_22 : decode cX9_nextByte 22 = .ok (.if_icmp .ne 16, 3) := by decide +kernel
theorem dX9_nextByte_25 : decode cX9_nextByte 25 = .ok (.aload_n 0, 1) := by decide +kernel
theorem dX9_nextByte_26 : decode cX9_nextByte 26 = .ok (.dup, 1) := by decide +kernel
theorem dX9_nextByte_27 : decode cX9_nextByte 27 = .ok (.getfield 153, 3) := by decide +kernel
theorem dX9_nextByte_30 : decode cX9_nextByte 30 = .ok (.iconst 1, 1) := by decide +kernel
theorem dX9_nextByte_31 : decode cX9_nextByte 31 = .ok (.iadd, 1) := by decide +kernel
theorem dX9_nextByte_32 : decode cX9_nextByte 32 = .ok (.putfield 153, 3) := by decide +kernel
theorem dX9_nextByte_35 : decode cX9_nextByte 35 = .ok (.goto (-35), 3) := by decide +kernel
theorem dX9_nextByte_38 : decode cX9_nextByte 38 = .ok (.aload_n 0, 1) := by decide +kernel
theorem dX9_nextByte_39 : decode cX9_nextByte 39 = .ok (.getfield 153, 3) := by decide +kernel
theorem dX9_nextByte_42 : decode cX9_nextByte 42 = .ok (.aload_n 0, 1) := by decide +kernel
theorem dX9_nextByte_43 : decode cX9_nextByte 43 = .ok (.getfield 150, 3) := by decide +kernel
theorem dX9_nextByte_46 : decode cX9_nextByte 46 = .ok (.if_icmp .ge 15, 3) := by decide +kernel
theorem dX9_nextByte_49 : decode cX9_nextByte 49 = .ok (.aload_n 0, 1) := by decide +kernel
theorem dX9_nextByte_50 : decode cX9_nextByte 50 = .ok (.getfield 31, 3) := by decide +kernel
theorem dX9_nextByte_53 : decode cX9_nextByte 53 = .ok (.aload_n 0, 1) := by decide +kernel
theorem dX9_nextByte_54 : decode cX9_nextByte 54 = .ok (.getfield 153, 3) := by decide +kernel
theorem dX9_nextByte_57 : decode cX9_nextByte 57 = .ok (.iaload, 1) := by decide +kernel
theorem dX9_nextByte_58 : decode cX9_nextByte 58 = .ok (.goto 4, 3) := by decide +kernel
theorem dX9_nextByte_61 : decode cX9_nextByte 61 = .ok (.iconst (-1), 1) := by decide +kernel
theorem dX9_nextByte_62 : decode cX9_nextByte 62 = .ok (.ireturn, 1) := by decide +kernel
set_option maxRecDepth 20000 in
theorem ggX9_readOne_X9_nextByte : GoodIn wsX9_readOne wsX9_nextByte := goodIn_r _ [7, 2, 8, 9, 20, 21, 22, 23, 24, 25, 26, 27, 28, 29, 30, 31, 32, 33, 34, 35, 36, 37, 38, 39, 40, 41, 42, 43, 44, 45, 46, 47, 48, 49, 50] (by decide +kernel) (by decide +kernel)
set_option maxRecDepth 20000 in
theorem gX9_readOne_X9_nextByte : GoodIn wsX9_readOne (wsV RX9 156 RX9 yX9_nextByte wsX9_nextByte) := goodIn_app (goodIn_of _ (by decide +kernel)) ggX9_readOne_X9_nextByte
theorem dX9_readOne_0 : decode cX9_readOne 0 = .ok (.aload_n 0, 1) := by decide +kernel
theorem dX9_readOne_1 : decode cX9_readOne 1 = .ok (.invokevirtual 156, 3) := by decide +kernel
theorem dX9_readOne_4 : decode cX9_readOne 4 = .ok (.istore_n 2, 1) := by decide +kernel
theorem dX9_readOne_5 : decode cX9_readOne 5 = .ok (.aload_n 0, 1) := by decide +kernel
theorem dX9_readOne_6 : decode cX9_readOne 6 = .ok (.getfield 34, 3) := by decide +kernel
theorem dX9_readOne_9 : decode cX9_readOne 9 = .ok (.iload_n 1, 1) := by decide +kernel
theorem dX9_readOne_10 : decode cX9_readOne 10 = .ok (.iload_n 2, 1) := by decide +kernel
theorem dX9_readOne_11 : decode cX9_readOne 11 = .ok (.bipush 102, 2) := by decide +kernel
theorem dX9_readOne_13 : decode cX9_readOne 13 = .ok (.if_icmp .ne 7, 3) := by decide +kernel
theorem dX9_readOne_16 : decode cX9_readOne 16 = .ok (.iconst 0, 1) := by decide +kernel
theorem dX9_readOne_17 : decode cX9_readOne 17 = .ok (.goto 34, 3) := by decide +kernel
theorem dX9_readOne_20 : decode cX9_readOne 20 = .ok (.iload_n 2, 1) := by decide +kernel
theorem dX9_readOne_21 : decode cX9_readOne 21 = .ok (.bipush 99, 2) := by decide +kernel
theorem dX9_readOne_23 : decode cX9_readOne 23 = .ok (.if_icmp .ne 7, 3) := by decide +kernel
theorem dX9_readOne_26 : decode cX9_readOne 26 = .ok (.iconst 1, 1) := by decide +kernel
theorem dX9_readOne_27 : decode cX9_readOne 27 = .ok (.goto 24, 3) := by decide +kernel
theorem dX9_readOne_30 : decode cX9_readOne 30 = .ok (.iload_n 2, 1) := by decide +kernel
theorem dX9_readOne_31 : decode cX9_readOne 31 = .ok (.bipush 116, 2) := by decide +kernel
theorem dX9_readOne_33 : decode cX9_readOne 33 = .ok (.if_icmp .ne 7, 3) := by decide +kernel
theorem dX9_readOne_36 : decode cX9_readOne 36 = .ok (.iconst 2, 1) := by decide +kernel
theorem dX9_readOne_37 : decode cX9_readOne 37 = .ok (.goto 14, 3) := by decide +kernel
theorem dX9_readOne_40 : decode cX9_readOne 40 = .ok (.iload_n 2, 1) := by decide +kernel
theorem dX9_readOne_41 : decode cX9_readOne 41 = .ok (.bipush 119, 2) := by decide +kernel
theorem dX9_readOne_43 : decode cX9_readOne 43 = .ok (.if_icmp .ne 7, 3) := by decide +kernel
theorem dX9_readOne_46 : decode cX9_readOne 46 = .ok (.iconst 3, 1) := by decide +kernel
theorem dX9_readOne_47 : decode cX9_readOne 47 = .ok (.goto 4, 3) := by decide +kernel
theorem dX9_readOne_50 : decode cX9_readOne 50 = .ok (.iconst (-1), 1) := by decide +kernel
theorem dX9_readOne_51 : decode cX9_readOne 51 = .ok (.iastore, 1) := by decide +kernel
theorem dX9_readOne_52 : decode cX9_readOne 52 = .ok (.aload_n 0, 1) := by decide +kernel
theorem dX9_readOne_53 : decode cX9_readOne 53 = .ok (.getfield 34, 3) := by decide +kernel
theorem dX9_readOne_56 : decode cX9_readOne 56 = .ok (.iload_n 1, 1) := by decide +kernel
theorem dX9_readOne_57 : decode cX9_readOne 57 = .ok (.iaload, 1) := by decide +kernel
theorem dX9_readOne_58 : decode cX9_readOne 58 = .ok (.ifCond .ge 5, 3) := by decide +kernel
theorem dX9_readOne_61 : decode cX9_readOne 61 = .ok (.iconst 0, 1) := by decide +kernel
theorem dX9_readOne_62 : decode cX9_readOne 62 = .ok (.ireturn, 1) := by decide +kernel
theorem dX9_readOne_63 : decode cX9_readOne 63 = .ok (.aload_n 0, 1) := by decide +kernel
theorem dX9_readOne_64 : decode cX9_readOne 64 = .ok (.dup, 1) := by decide +kernel
theorem dX9_readOne_65 : decode cX9_readOne 65 = .ok (.getfield 153, 3) := by decide +kernel
theorem dX9_readOne_68 : decode cX9_readOne 68 = .ok (.iconst 1, 1) := by decide +kernel
theorem dX9_readOne_69 : decode cX9_readOne 69 = .ok (.iadd, 1) := by decide +kernel
theorem dX9_readOne_70 : decode cX9_readOne 70 = .ok (.putfield 153, 3) := by decide +kernel
theorem dX9_readOne_73 : decode cX9_readOne 73 = .ok (.aload_n 0, 1) := by decide +kernel
theorem dX9_readOne_74 : decode cX9_readOne 74 = .ok (.getfield 34, 3) := by decide +kernel
theorem dX9_readOne_77 : decode cX9_readOne 77 = .ok (.iload_n 1, 1) := by decide +kernel
theorem dX9_readOne_78 : decode cX9_readOne 78 = .ok (.iconst 1, 1) := by decide +kernel
theorem dX9_readOne_79 : decode cX9_readOne 79 = .ok (.iadd, 1) := by decide +kernel
theorem dX9_readOne_80 : decode cX9_readOne 80 = .ok (.aload_n 0, 1) := by decide +kernel
theorem dX9_readOne_81 : decode cX9_readOne 81 = .ok (.sipush 9999, 3) := by decide +kernel
theorem dX9_readOne_84 : decode cX9_readOne 84 = .ok (.invokevirtual 164, 3) := by decide +kernel
theorem dX9_readOne_87 : decode cX9_readOne 87 = .ok (.iastore, 1) := by decide +kernel
theorem dX9_readOne_88 : decode cX9_readOne 88 = .ok (.aload_n 0, 1) := by decide +kernel
theorem dX9_readOne_89 : decode cX9_readOne 89 = .ok (.getfield 34, 3) := by decide +kernel
theorem dX9_readOne_92 : decode cX9_readOne 92 = .ok (.iload_n 1, 1) := by decide +kernel
theorem dX9_readOne_93 : decode cX9_readOne 93 = .ok (.iconst 1, 1) := by decide +kernel
theorem dX9_readOne_94 : decode cX9_readOne 94 = .ok (.iadd, 1) := by decide +kernel
theorem dX9_readOne_95 : decode cX9_readOne 95 = .ok (.iaload, 1) := by decide +kernel
theorem dX9_readOne_96 : decode cX9_readOne 96 = .ok (.ifCond .lt 7, 3) := by decide +kernel
theorem dX9_readOne_99 : decode cX9_readOne 99 = .ok (.iconst 1, 1) := by decide +kernel
theorem dX9_readOne_100 : decode cX9_readOne 100 = .ok (.goto 4, 3) := by decide +kernel
theorem dX9_readOne_103 : decode cX9_readOne 103 = .ok (.iconst 0, 1) := by decide +kernel
theorem dX9_readOne_104 : decode cX9_readOne 104 = .ok (.ireturn, 1) := by decide +kernel
set_option maxRecDepth 20000 in
theorem ggX9_readPeople_X9_readOne : GoodIn wsX9_readPeople wsX9_readOne := goodIn_r _ [7, 8, 1, 9, 10, 11, 6, 12, 13, 14, 15, 16, 17, 18, 19, 20, 21, 22, 23, 24, 25, 26, 27, 28, 29, 30, 31, 32, 33, 34, 35, 36, 37, 38, 39, 40, 41, 42, 43, 44, 45, 46, 47, 48, 49, 50, 51, 52, 53, 54, 55] (by decide +kernel) (by decide +kernel)
set_option maxRecDepth 20000 in
theorem gX9_readPeople_X9_readOne : GoodIn wsX9_readPeople (wsV RX9 167 RX9 yX9_readOne wsX9_readOne) := goodIn_app (goodIn_of _ (by decide +kernel)) ggX9_readPeople_X9_readOne
set_option maxRecDepth 20000 in
theorem ggX9_readPeople_X9_nextByte : GoodIn wsX9_readPeople wsX9_nextByte := goodIn_r _ [12, 1, 13, 14, 25, 26, 27, 28, 29, 30, 31, 32, 33, 34, 35, 36, 37, 38, 39, 40, 41, 42, 43, 44, 45, 46, 47, 48, 49, 50, 51, 52, 53, 54, 55] (by decide +kernel) (by decide +kernel)
set_option maxRecDepth 20000 in
theorem gX9_readPeople_X9_nextByte : GoodIn wsX9_readPeople (wsV RX9 156 RX9 yX9_nextByte wsX9_nextByte) := goodIn_app (goodIn_of _ (by decide +kernel)) ggX9_readPeople_X9_nextByte
theorem dX9_readPeople_0 : decode cX9_readPeople 0 = .ok (.aload_n 0, 1) := by decide +kernel
theorem dX9_readPeople_1 : decode cX9_readPeople 1 = .ok (.iconst 0, 1) := by decide +kernel
theorem dX9_readPeople_2 : decode cX9_readPeople 2 = .ok (.putfield 153, 3) := by decide +kernel
theorem dX9_readPeople_5 : decode cX9_readPeople 5 = .ok (.iconst 0, 1) := by decide +kernel
theorem dX9_readPeople_6 : decode cX9_readPeople 6 = .ok (.istore_n 1, 1) := by decide +kernel
theorem dX9_readPeople_7 : decode cX9_readPeople 7 = .ok (.iload_n 1, 1) := by decide +kernel
theorem dX9_readPeople_8 : decode cX9_readPeople 8 = .ok (.iconst 5, 1) := by decide +kernel
theorem dX9_readPeople_9 : decode cX9_readPeople 9 = .ok (.if_icmp .ge 62, 3) := by decide +kernel
theorem dX9_readPeople_12 : decode cX9_readPeople 12 = .ok (.aload_n 0, 1) := by decide +kernel
theorem dX9_readPeople_13 : decode cX9_readPeople 13 = .ok (.iconst 2, 1) := by decide +kernel
theorem dX9_readPeople_14 : decode cX9_readPeople 14 = .ok (.iload_n 1, 1) := by decide +kernel
theorem dX9_readPeople_15 : decode cX9_readPeople 15 = .ok (.imul, 1) := by decide +kernel
theorem dX9_readPeople_16 : decode cX9_readPeople 16 = .ok (.invokevirtual 167, 3) := by decide +kernel
theorem dX9_readPeople_19 : decode cX9_readPeople 19 = .ok (.ifCond .ne 5, 3) := by decide +kernel
theorem dX9_readPeople_22 : decode cX9_readPeople 22 = .ok (.iconst 0, 1) := by decide +kernel
theorem dX9_readPeople_23 : decode cX9_readPeople 23 = .ok (.ireturn, 1) := by decide +kernel
theorem dX9_readPeople_24 : decode cX9_readPeople 24 = .ok (.aload_n 0, 1) := by decide +kernel
theorem dX9_readPeople_25 : decode cX9_readPeople 25 = .ok (.iload_n 1, 1) := by decide +kernel
theorem dX9_readPeople_26 : decode cX9_readPeople 26 = .ok (.iconst 1, 1) := by decide +kernel
theorem dX9_readPeople_27 : decode cX9_readPeople 27 = .ok (.iadd, 1) := by decide +kernel
theorem dX9_readPeople_28 : decode cX9_readPeople 28 = .ok (.putfield 170, 3) := by decide +kernel
theorem dX9_readPeople_31 : decode cX9_readPeople 31 = .ok (.aload_n 0, 1) := by decide +kernel
theorem dX9_readPeople_32 : decode cX9_readPeople 32 = .ok (.invokevirtual 156, 3) := by decide +kernel
theorem dX9_readPeople_35 : decode cX9_readPeople 35 = .ok (.istore_n 2, 1) := by decide +kernel
theorem dX9_readPeople_36 : decode cX9_readPeople 36 = .ok (.iload_n 2, 1) := by decide +kernel
theorem dX9_readPeople_37 : decode cX9_readPeople 37 = .ok (.ifCond .ge 5, 3) := by decide +kernel
theorem dX9_readPeople_40 : decode cX9_readPeople 40 = .ok (.iconst 1, 1) := by decide +kernel
theorem dX9_readPeople_41 : decode cX9_readPeople 41 = .ok (.ireturn, 1) := by decide +kernel
theorem dX9_readPeople_42 : decode cX9_readPeople 42 = .ok (.iload_n 2, 1) := by decide +kernel
theorem dX9_readPeople_43 : decode cX9_readPeople 43 = .ok (.bipush 44, 2) := by decide +kernel
theorem dX9_readPeople_45 : decode cX9_readPeople 45 = .ok (.if_icmp .ne 8, 3) := by decide +kernel
theorem dX9_readPeople_48 : decode cX9_readPeople 48 = .ok (.iload_n 1, 1) := by decide +kernel
theorem dX9_readPeople_49 : decode cX9_readPeople 49 = .ok (.iconst 4, 1) := by decide +kernel
theorem dX9_readPeople_50 : decode cX9_readPeople 50 = .ok (.if_icmp .ne 5, 3) := by decide +kernel
theorem dX9_readPeople_53 : decode cX9_readPeople 53 = .ok (.iconst 0, 1) := by decide +kernel
theorem dX9_readPeople_54 : decode cX9_readPeople 54 = .ok (.ireturn, 1) := by decide +kernel
theorem dX9_readPeople_55 : decode cX9_readPeople 55 = .ok (.aload_n 0, 1) := by decide +kernel
theorem dX9_readPeople_56 : decode cX9_readPeople 56 = .ok (.dup, 1) := by decide +kernel
theorem dX9_readPeople_57 : decode cX9_readPeople 57 = .ok (.getfield 153, 3) := by decide +kernel
theorem dX9_readPeople_60 : decode cX9_readPeople 60 = .ok (.iconst 1, 1) := by decide +kernel
theorem dX9_readPeople_61 : decode cX9_readPeople 61 = .ok (.iadd, 1) := by decide +kernel
theorem dX9_readPeople_62 : decode cX9_readPeople 62 = .ok (.putfield 153, 3) := by decide +kernel
theorem dX9_readPeople_65 : decode cX9_readPeople 65 = .ok (.iinc 1 1, 3) := by decide +kernel
theorem dX9_readPeople_68 : decode cX9_readPeople 68 = .ok (.goto (-61), 3) := by decide +kernel
theorem dX9_readPeople_71 : decode cX9_readPeople 71 = .ok (.iconst 0, 1) := by decide +kernel
theorem dX9_readPeople_72 : decode cX9_readPeople 72 = .ok (.ireturn, 1) := by decide +kernel
set_option maxRecDepth 20000 in
theorem ggX9_people_X9_readPeople : GoodIn wsX9_people wsX9_readPeople := goodIn_r _ [11, 2, 5, 12, 13, 14, 10, 15, 6, 16, 17, 18, 19, 1, 20, 21, 22, 23, 24, 25, 26, 27, 28, 29, 30, 39, 40, 41, 42, 43, 44, 45, 46, 47, 48, 49, 50, 51, 52, 53, 54, 55, 56, 57, 58, 59, 60, 61, 62, 63, 64, 65, 66, 67, 68, 69] (by decide +kernel) (by decide +kernel)
set_option maxRecDepth 20000 in
theorem gX9_people_X9_readPeople : GoodIn wsX9_people (wsV RX9 173 RX9 yX9_readPeople wsX9_readPeople) := goodIn_app (goodIn_of _ (by decide +kernel)) ggX9_people_X9_readPeople
set_option maxRecDepth 20000 in
theorem ggX9_people_X9_nextByte : GoodIn wsX9_people wsX9_nextByte := goodIn_r _ [19, 2, 1, 20, 39, 40, 41, 42, 43, 44, 45, 46, 47, 48, 49, 50, 51, 52, 53, 54, 55, 56, 57, 58, 59, 60, 61, 62, 63, 64, 65, 66, 67, 68, 69] (by decide +kernel) (by decide +kernel)
set_option maxRecDepth 20000 in
theorem gX9_people_X9_nextByte : GoodIn wsX9_people (wsV RX9 156 RX9 yX9_nextByte wsX9_nextByte) := goodIn_app (goodIn_of _ (by decide +kernel)) ggX9_people_X9_nextByte
set_option maxRecDepth 20000 in
theorem ggX9_people_X9_add : GoodIn wsX9_people wsX9_add := goodIn_r _ [34, 35, 3, 36, 37, 38, 39, 40, 41, 42, 43, 44, 45, 46, 47, 48, 49, 50, 51, 52, 53, 54, 55, 56, 57, 58, 59, 60, 61, 62, 63, 64, 65, 66, 67, 68, 69] (by decide +kernel) (by decide +kernel)
set_option maxRecDepth 20000 in
theorem gX9_people_X9_add : GoodIn wsX9_people (wsV RX9 102 RX9 yX9_add wsX9_add) := goodIn_app (goodIn_of _ (by decide +kernel)) ggX9_people_X9_add
theorem dX9_people_0 : decode cX9_people 0 = .ok (.aload_n 0, 1) := by decide +kernel
theorem dX9_people_1 : decode cX9_people 1 = .ok (.invokevirtual 173, 3) := by decide +kernel
theorem dX9_people_4 : decode cX9_people 4 = .ok (.istore_n 1, 1) := by decide +kernel
theorem dX9_people_5 : decode cX9_people 5 = .ok (.iload_n 1, 1) := by decide +kernel
theorem dX9_people_6 : decode cX9_people 6 = .ok (.ifCond .ne 8, 3) := by decide +kernel
theorem dX9_people_9 : decode cX9_people 9 = .ok (.aload_n 0, 1) := by decide +kernel
theorem dX9_people_10 : decode cX9_people 10 = .ok (.invokevirtual 156, 3) := by decide +kernel
theorem dX9_people_13 : decode cX9_people 13 = .ok (.pop, 1) := by decide +kernel

theorem dX0_init_0 : decode cX0_init 0 = .ok (.aload_n 0, 1) := by decide +kernel
theorem dX0_init_1 : decode cX0_init 1 = .ok (.invokespecial 3, 3) := by decide +kernel
theorem dX0_init_4 : decode cX0_init 4 = .ok (.aload_n 0, 1) := by decide +kernel
theorem dX0_init_5 : decode cX0_init 5 = .ok (.iconst 0, 1) := by decide +kernel
theorem dX0_init_6 : decode cX0_init 6 = .ok (.putfield 9, 3) := by decide +kernel
theorem dX0_init_9 : decode cX0_init 9 = .ok (.aload_n 0, 1) := by decide +kernel
theorem dX0_init_10 : decode cX0_init 10 = .ok (.ldc 15, 2) := by decide +kernel
theorem dX0_init_12 : decode cX0_init 12 = .ok (.putfield 16, 3) := by decide +kernel
theorem dX0_init_15 : decode cX0_init 15 = .ok (.aload_n 0, 1) := by decide +kernel
theorem dX0_init_16 : decode cX0_init 16 = .ok (.iconst 0, 1) := by decide +kernel
theorem dX0_init_17 : decode cX0_init 17 = .ok (.putfield 19, 3) := by decide +kernel
theorem dX0_init_20 : decode cX0_init 20 = .ok (.aload_n 0, 1) := by decide +kernel
theorem dX0_init_21 : decode cX0_init 21 = .ok (.iconst 5, 1) := by decide +kernel
theorem dX0_init_22 : decode cX0_init 22 = .ok (.newarray .int, 2) := by decide +kernel
theorem dX0_init_24 : decode cX0_init 24 = .ok (.putfield 22, 3) := by decide +kernel
theorem dX0_init_27 : decode cX0_init 27 = .ok (.aload_n 0, 1) := by decide +kernel
theorem dX0_init_28 : decode cX0_init 28 = .ok (.iconst 5, 1) := by decide +kernel
theorem dX0_init_29 : decode cX0_init 29 = .ok (.newarray .int, 2) := by decide +kernel
theorem dX0_init_31 : decode cX0_init 31 = .ok (.putfield 26, 3) := by decide +kernel
theorem dX0_init_34 : decode cX0_init 34 = .ok (.return_, 1) := by decide +kernel
set_option maxRecDepth 20000 in
theorem ggX0_newRow_X0_init : GoodIn wsX0_newRow wsX0_init := goodIn_r _ [10, 11, 12, 13, 14, 15, 16, 17, 18, 19, 20, 21, 22, 23, 24, 25] (by decide +kernel) (by decide +kernel)
set_option maxRecDepth 20000 in
theorem gX0_newRow_X0_init : GoodIn wsX0_newRow (wsX0_init) := ggX0_newRow_X0_init
theorem dX0_newRow_0 : decode cX0_newRow 0 = .ok (.iconst 0, 1) := by decide +kernel
theorem dX0_newRow_1 : decode cX0_newRow 1 = .ok (.iload_n 0, 1) := by decide +kernel
theorem dX0_newRow_2 : decode cX0_newRow 2 = .ok (.invokestatic 29, 3) := by decide +kernel
theorem dX0_newRow_5 : decode cX0_newRow 5 = .ok (.anewarray 10, 3) := by decide +kernel
theorem dX0_newRow_8 : decode cX0_newRow 8 = .ok (.astore_n 1, 1) := by decide +kernel
theorem dX0_newRow_9 : decode cX0_newRow 9 = .ok (.iconst 0, 1) := by decide +kernel
theorem dX0_newRow_10 : decode cX0_newRow 10 = .ok (.istore_n 2, 1) := by decide +kernel
theorem dX0_newRow_11 : decode cX0_newRow 11 = .ok (.iload_n 2, 1) := by decide +kernel
theorem dX0_newRow_12 : decode cX0_newRow 12 = .ok (.aload_n 1, 1) := by decide +kernel
theorem dX0_newRow_13 : decode cX0_newRow 13 = .ok (.arraylength, 1) := by decide +kernel
theorem dX0_newRow_14 : decode cX0_newRow 14 = .ok (.if_icmp .ge 19, 3) := by decide +kernel
theorem dX0_newRow_17 : decode cX0_newRow 17 = .ok (.aload_n 1, 1) := by decide +kernel
theorem dX0_newRow_18 : decode cX0_newRow 18 = .ok (.iload_n 2, 1) := by decide +kernel
theorem dX0_newRow_19 : decode cX0_newRow 19 = .ok (.new 10, 3) := by decide +kernel
theorem dX0_newRow_22 : decode cX0_newRow 22 = .ok (.dup, 1) := by decide +kernel
theorem dX0_newRow_23 : decode cX0_newRow 23 = .ok (.invokespecial 35, 3) := by decide +kernel
theorem dX0_newRow_26 : decode cX0_newRow 26 = .ok (.aastore, 1) := by decide +kernel
theorem dX0_newRow_27 : decode cX0_newRow 27 = .ok (.iinc 2 1, 3) := by decide +kernel
theorem dX0_newRow_30 : decode cX0_newRow 30 = .ok (.goto (-19), 3) := by decide +kernel
theorem dX0_newRow_33 : decode cX0_newRow 33 = .ok (.aload_n 1, 1) := by decide +kernel
theorem dX0_newRow_34 : decode cX0_newRow 34 = .ok (.areturn, 1) := by decide +kernel
theorem dX0_clear_0 : decode cX0_clear 0 = .ok (.aload_n 0, 1) := by decide +kernel
theorem dX0_clear_1 : decode cX0_clear 1 = .ok (.iconst 0, 1) := by decide +kernel
theorem dX0_clear_2 : decode cX0_clear 2 = .ok (.putfield 9, 3) := by decide +kernel
theorem dX0_clear_5 : decode cX0_clear 5 = .ok (.aload_n 0, 1) := by decide +kernel
theorem dX0_clear_6 : decode cX0_clear 6 = .ok (.ldc 15, 2) := by decide +kernel
theorem dX0_clear_8 : decode cX0_clear 8 = .ok (.putfield 16, 3) := by decide +kernel
theorem dX0_clear_11 : decode cX0_clear 11 = .ok (.aload_n 0, 1) := by decide +kernel
theorem dX0_clear_12 : decode cX0_clear 12 = .ok (.iconst 0, 1) := by decide +kernel
theorem dX0_clear_13 : decode cX0_clear 13 = .ok (.putfield 19, 3) := by decide +kernel
theorem dX0_clear_16 : decode cX0_clear 16 = .ok (.return_, 1) := by decide +kernel
theorem dX0_takeFrom_0 : decode cX0_takeFrom 0 = .ok (.aload_n 0, 1) := by decide +kernel
theorem dX0_takeFrom_1 : decode cX0_takeFrom 1 = .ok (.aload_n 1, 1) := by decide +kernel
theorem dX0_takeFrom_2 : decode cX0_takeFrom 2 = .ok (.getfield 9, 3) := by decide +kernel
theorem dX0_takeFrom_5 : decode cX0_takeFrom 5 = .ok (.putfield 9, 3) := by decide +kernel
theorem dX0_takeFrom_8 : decode cX0_takeFrom 8 = .ok (.aload_n 0, 1) := by decide +kernel
theorem dX0_takeFrom_9 : decode cX0_takeFrom 9 = .ok (.aload_n 1, 1) := by decide +kernel
theorem dX0_takeFrom_10 : decode cX0_takeFrom 10 = .ok (.getfield 16, 3) := by decide +kernel
theorem dX0_takeFrom_13 : decode cX0_takeFrom 13 = .ok (.putfield 16, 3) := by decide +kernel
theorem dX0_takeFrom_16 : decode cX0_takeFrom 16 = .ok (.aload_n 0, 1) := by decide +kernel
theorem dX0_takeFrom_17 : decode cX0_takeFrom 17 = .ok (.aload_n 1, 1) := by decide +kernel
theorem dX0_takeFrom_18 : decode cX0_takeFrom 18 = .ok (.getfield 19, 3) := by decide +kernel
theorem dX0_takeFrom_21 : decode cX0_takeFrom 21 = .ok (.putfield 19, 3) := by decide +kernel
theorem dX0_takeFrom_24 : decode cX0_takeFrom 24 = .ok (.aload_n 1, 1) := by decide +kernel
theorem dX0_takeFrom_25 : decode cX0_takeFrom 25 = .ok (.getfield 22, 3) := by decide +kernel
theorem dX0_takeFrom_28 : decode cX0_takeFrom 28 = .ok (.iconst 0, 1) := by decide +kernel
theorem dX0_takeFrom_29 : decode cX0_takeFrom 29 = .ok (.aload_n 0, 1) := by decide +kernel
theorem dX0_takeFrom_30 : decode cX0_takeFrom 30 = .ok (.getfield 22, 3) := by decide +kernel
theorem dX0_takeFrom_33 : decode cX0_takeFrom 33 = .ok (.iconst 0, 1) := by decide +kernel
theorem dX0_takeFrom_34 : decode cX0_takeFrom 34 = .ok (.iconst 5, 1) := by decide +kernel
theorem dX0_takeFrom_35 : decode cX0_takeFrom 35 = .ok (.invokestatic 36, 3) := by decide +kernel
theorem dX0_takeFrom_38 : decode cX0_takeFrom 38 = .ok (.aload_n 1, 1) := by decide +kernel
theorem dX0_takeFrom_39 : decode cX0_takeFrom 39 = .ok (.getfield 26, 3) := by decide +kernel
theorem dX0_takeFrom_42 : decode cX0_takeFrom 42 = .ok (.iconst 0, 1) := by decide +kernel
theorem dX0_takeFrom_43 : decode cX0_takeFrom 43 = .ok (.aload_n 0, 1) := by decide +kernel
theorem dX0_takeFrom_44 : decode cX0_takeFrom 44 = .ok (.getfield 26, 3) := by decide +kernel
theorem dX0_takeFrom_47 : decode cX0_takeFrom 47 = .ok (.iconst 0, 1) := by decide +kernel
theorem dX0_takeFrom_48 : decode cX0_takeFrom 48 = .ok (.iconst 5, 1) := by decide +kernel
theorem dX0_takeFrom_49 : decode cX0_takeFrom 49 = .ok (.invokestatic 36, 3) := by decide +kernel
theorem dX0_takeFrom_52 : decode cX0_takeFrom 52 = .ok (.return_, 1) := by decide +kernel
theorem dX0_add_0 : decode cX0_add 0 = .ok (.aload_n 0, 1) := by decide +kernel
theorem dX0_add_1 : decode cX0_add 1 = .ok (.getfield 9, 3) := by decide +kernel
theorem dX0_add_4 : decode cX0_add 4 = .ok (.iconst 5, 1) := by decide +kernel
theorem dX0_add_5 : decode cX0_add 5 = .ok (.if_icmp .ge 33, 3) := by decide +kernel
theorem dX0_add_8 : decode cX0_add 8 = .ok (.aload_n 0, 1) := by decide +kernel
theorem dX0_add_9 : decode cX0_add 9 = .ok (.getfield 22, 3) := by decide +kernel
theorem dX0_add_12 : decode cX0_add 12 = .ok (.aload_n 0, 1) := by decide +kernel
theorem dX0_add_13 : decode cX0_add 13 = .ok (.getfield 9, 3) := by decide +kernel
theorem dX0_add_16 : decode cX0_add 16 = .ok (.iload_n 1, 1) := by decide +kernel
theorem dX0_add_17 : decode cX0_add 17 = .ok (.iastore, 1) := by decide +kernel
theorem dX0_add_18 : decode cX0_add 18 = .ok (.aload_n 0, 1) := by decide +kernel
theorem dX0_add_19 : decode cX0_add 19 = .ok (.getfield 26, 3) := by decide +kernel
theorem dX0_add_22 : decode cX0_add 22 = .ok (.aload_n 0, 1) := by decide +kernel
theorem dX0_add_23 : decode cX0_add 23 = .ok (.getfield 9, 3) := by decide +kernel
theorem dX0_add_26 : decode cX0_add 26 = .ok (.iload_n 2, 1) := by decide +kernel
theorem dX0_add_27 : decode cX0_add 27 = .ok (.iastore, 1) := by decide +kernel
theorem dX0_add_28 : decode cX0_add 28 = .ok (.aload_n 0, 1) := by decide +kernel
theorem dX0_add_29 : decode cX0_add 29 = .ok (.dup, 1) := by decide +kernel
theorem dX0_add_30 : decode cX0_add 30 = .ok (.getfield 9, 3) := by decide +kernel
theorem dX0_add_33 : decode cX0_add 33 = .ok (.iconst 1, 1) := by decide +kernel
theorem dX0_add_34 : decode cX0_add 34 = .ok (.iadd, 1) := by decide +kernel
theorem dX0_add_35 : decode cX0_add 35 = .ok (.putfield 9, 3) := by decide +kernel
theorem dX0_add_38 : decode cX0_add 38 = .ok (.return_, 1) := by decide +kernel
theorem dX0_has_0 : decode cX0_has 0 = .ok (.iload_n 1, 1) := by decide +kernel
theorem dX0_has_1 : decode cX0_has 1 = .ok (.ifCond .lt 15, 3) := by decide +kernel
theorem dX0_has_4 : decode cX0_has 4 = .ok (.iload_n 1, 1) := by decide +kernel
theorem dX0_has_5 : decode cX0_has 5 = .ok (.aload_n 0, 1) := by decide +kernel
theorem dX0_has_6 : decode cX0_has 6 = .ok (.getfield 9, 3) := by decide +kernel
theorem dX0_has_9 : decode cX0_has 9 = .ok (.if_icmp .ge 7, 3) := by decide +kernel
theorem dX0_has_12 : decode cX0_has 12 = .ok (.iconst 1, 1) := by decide +kernel
theorem dX0_has_13 : decode cX0_has 13 = .ok (.goto 4, 3) := by decide +kernel
theorem dX0_has_16 : decode cX0_has 16 = .ok (.iconst 0, 1) := by decide +kernel
theorem dX0_has_17 : decode cX0_has 17 = .ok (.ireturn, 1) := by decide +kernel
set_option maxRecDepth 20000 in
theorem ggX0_isPair_X0_has : GoodIn wsX0_isPair wsX0_has := goodIn_r _ [5, 6, 7, 8, 9, 10, 11] (by decide +kernel) (by decide +kernel)
set_option maxRecDepth 20000 in
theorem gX0_isPair_X0_has : GoodIn wsX0_isPair (wsV RX0 42 RX0 yX0_has wsX0_has) := goodIn_app (goodIn_of _ (by decide +kernel)) ggX0_isPair_X0_has
theorem dX0_isPair_0 : decode cX0_isPair 0 = .ok (.aload_n 0, 1) := by decide +kernel
theorem dX0_isPair_1 : decode cX0_isPair 1 = .ok (.iload_n 1, 1) := by decide +kernel
theorem dX0_isPair_2 : decode cX0_isPair 2 = .ok (.invokevirtual 42, 3) := by decide +kernel
theorem dX0_isPair_5 : decode cX0_isPair 5 = .ok (.ifCond .eq 20, 3) := by decide +kernel
theorem dX0_isPair_8 : decode cX0_isPair 8 = .ok (.aload_n 0, 1) := by decide +kernel
theorem dX0_isPair_9 : decode cX0_isPair 9 = .ok (.iload_n 2, 1) := by decide +kernel
theorem dX0_isPair_10 : decode cX0_isPair 10 = .ok (.invokevirtual 42, 3) := by decide +kernel
theorem dX0_isPair_13 : decode cX0_isPair 13 = .ok (.ifCond .eq 12, 3) := by decide +kernel
theorem dX0_isPair_16 : decode cX0_isPair 16 = .ok (.iload_n 1, 1) := by decide +kernel
theorem dX0_isPair_17 : decode cX0_isPair 17 = .ok (.iload_n 2, 1) := by decide +kernel
theorem dX0_isPair_18 : decode cX0_isPair 18 = .ok (.if_icmp .eq 7, 3) := by decide +kernel
theorem dX0_isPair_21 : decode cX0_isPair 21 = .ok (.iconst 1, 1) := by decide +kernel
theorem dX0_isPair_22 : decode cX0_isPair 22 = .ok (.goto 4, 3) := by decide +kernel
theorem dX0_isPair_25 : decode cX0_isPair 25 = .ok (.iconst 0, 1) := by decide +kernel
theorem dX0_isPair_26 : decode cX0_isPair 26 = .ok (.ireturn, 1) := by decide +kernel
set_option maxRecDepth 20000 in
theorem ggX0_askings_J6_bitCount_0f7a4 : GoodIn wsX0_askings wsJ6_bitCount_0f7a4 := goodIn_r _ [5, 6, 7, 8] (by decide +kernel) (by decide +kernel)
set_option maxRecDepth 20000 in
theorem gX0_askings_J6_bitCount_0f7a4 : GoodIn wsX0_askings (va_wsS RX0 46 yJ6_bitCount_0f7a4 wsJ6_bitCount_0f7a4) := goodIn_app (goodIn_of _ (by decide +kernel)) ggX0_askings_J6_bitCount_0f7a4
theorem dX0_askings_0 : decode cX0_askings 0 = .ok (.aload_n 0, 1) := by decide +kernel
theorem dX0_askings_1 : decode cX0_askings 1 = .ok (.getfield 19, 3) := by decide +kernel
theorem dX0_askings_4 : decode cX0_askings 4 = .ok (.invokestatic 46, 3) := by decide +kernel
theorem dX0_askings_7 : decode cX0_askings 7 = .ok (.ireturn, 1) := by decide +kernel
theorem dX0_penceOfAll_0 : decode cX0_penceOfAll 0 = .ok (.iconst 0, 1) := by decide +kernel
theorem dX0_penceOfAll_1 : decode cX0_penceOfAll 1 = .ok (.istore_n 1, 1) := by decide +kernel
theorem dX0_penceOfAll_2 : decode cX0_penceOfAll 2 = .ok (.iconst 0, 1) := by decide +kernel
theorem dX0_penceOfAll_3 : decode cX0_penceOfAll 3 = .ok (.istore_n 2, 1) := by decide +kernel
theorem dX0_penceOfAll_4 : decode cX0_penceOfAll 4 = .ok (.iload_n 2, 1) := by decide +kernel
theorem dX0_penceOfAll_5 : decode cX0_penceOfAll 5 = .ok (.aload_n 0, 1) := by decide +kernel
theorem dX0_penceOfAll_6 : decode cX0_penceOfAll 6 = .ok (.getfield 9, 3) := by decide +kernel
theorem dX0_penceOfAll_9 : decode cX0_penceOfAll 9 = .ok (.if_icmp .ge 18, 3) := by decide +kernel
theorem dX0_penceOfAll_12 : decode cX0_penceOfAll 12 = .ok (.iload_n 1, 1) := by decide +kernel
theorem dX0_penceOfAll_13 : decode cX0_penceOfAll 13 = .ok (.aload_n 0, 1) := by decide +kernel
theorem dX0_penceOfAll_14 : decode cX0_penceOfAll 14 = .ok (.getfield 26, 3) := by decide +kernel
theorem dX0_penceOfAll_17 : decode cX0_penceOfAll 17 = .ok (.iload_n 2, 1) := by decide +kernel
theorem dX0_penceOfAll_18 : decode cX0_penceOfAll 18 = .ok (.iaload, 1) := by decide +kernel
theorem dX0_penceOfAll_19 : decode cX0_penceOfAll 19 = .ok (.iadd, 1) := by decide +kernel
theorem dX0_penceOfAll_20 : decode cX0_penceOfAll 20 = .ok (.istore_n 1, 1) := by decide +kernel
theorem dX0_penceOfAll_21 : decode cX0_penceOfAll 21 = .ok (.iinc 2 1, 3) := by decide +kernel
theorem dX0_penceOfAll_24 : decode cX0_penceOfAll 24 = .ok (.goto (-20), 3) := by decide +kernel
theorem dX0_penceOfAll_27 : decode cX0_penceOfAll 27 = .ok (.iload_n 1, 1) := by decide +kernel
theorem dX0_penceOfAll_28 : decode cX0_penceOfAll 28 = .ok (.ireturn, 1) := by decide +kernel
set_option maxRecDepth 20000 in
theorem ggX1_init_X2_init : GoodIn wsX1_init wsX2_init := goodIn_r _ [17, 18, 2, 3, 19, 20, 6, 21, 22, 51, 52, 53, 54] (by decide +kernel) (by decide +kernel)
set_option maxRecDepth 20000 in
theorem gX1_init_X2_init_n33 : GoodIn wsX1_init (wsX2_init) := ggX1_init_X2_init
set_option maxRecDepth 20000 in
theorem ggX1_init_X0_newRow : GoodIn wsX1_init wsX0_newRow := goodIn_r _ [26, 27, 28, 29, 30, 31, 32, 25, 33, 34, 35, 36, 2, 3, 37, 38, 39, 40, 6, 41, 42, 55, 56, 57, 58, 59] (by decide +kernel) (by decide +kernel)
set_option maxRecDepth 20000 in
theorem gX1_init_X0_newRow : GoodIn wsX1_init (va_wsS RX1 38 yX0_newRow wsX0_newRow) := goodIn_app (goodIn_of _ (by decide +kernel)) ggX1_init_X0_newRow
theorem dX1_init_0 : decode cX1_init 0 = .ok (.aload_n 0, 1) := by decide +kernel
theorem dX1_init_1 : decode cX1_init 1 = .ok (.invokespecial 3, 3) := by decide +kernel
theorem dX1_init_4 : decode cX1_init 4 = .ok (.aload_n 0, 1) := by decide +kernel
theorem dX1_init_5 : decode cX1_init 5 = .ok (.iconst (-1), 1) := by decide +kernel
theorem dX1_init_6 : decode cX1_init 6 = .ok (.putfield 9, 3) := by decide +kernel
theorem dX1_init_9 : decode cX1_init 9 = .ok (.aload_n 0, 1) := by decide +kernel
theorem dX1_init_10 : decode cX1_init 10 = .ok (.iconst 0, 1) := by decide +kernel
theorem dX1_init_11 : decode cX1_init 11 = .ok (.putfield 15, 3) := by decide +kernel
theorem dX1_init_14 : decode cX1_init 14 = .ok (.aload_n 0, 1) := by decide +kernel
theorem dX1_init_15 : decode cX1_init 15 = .ok (.bipush 6, 2) := by decide +kernel
theorem dX1_init_17 : decode cX1_init 17 = .ok (.newarray .int, 2) := by decide +kernel
theorem dX1_init_19 : decode cX1_init 19 = .ok (.putfield 18, 3) := by decide +kernel
theorem dX1_init_22 : decode cX1_init 22 = .ok (.aload_n 0, 1) := by decide +kernel
theorem dX1_init_23 : decode cX1_init 23 = .ok (.bipush 6, 2) := by decide +kernel
theorem dX1_init_25 : decode cX1_init 25 = .ok (.newarray .int, 2) := by decide +kernel
theorem dX1_init_27 : decode cX1_init 27 = .ok (.putfield 22, 3) := by decide +kernel
theorem dX1_init_30 : decode cX1_init 30 = .ok (.aload_n 0, 1) := by decide +kernel
theorem dX1_init_31 : decode cX1_init 31 = .ok (.iconst 0, 1) := by decide +kernel
theorem dX1_init_32 : decode cX1_init 32 = .ok (.putfield 25, 3) := by decide +kernel
theorem dX1_init_35 : decode cX1_init 35 = .ok (.aload_n 0, 1) := by decide +kernel
theorem dX1_init_36 : decode cX1_init 36 = .ok (.iconst 0, 1) := by decide +kernel
theorem dX1_init_37 : decode cX1_init 37 = .ok (.putfield 28, 3) := by decide +kernel
theorem dX1_init_40 : decode cX1_init 40 = .ok (.aload_n 0, 1) := by decide +kernel
theorem dX1_init_41 : decode cX1_init 41 = .ok (.new 31, 3) := by decide +kernel
theorem dX1_init_44 : decode cX1_init 44 = .ok (.dup, 1) := by decide +kernel
theorem dX1_init_45 : decode cX1_init 45 = .ok (.invokespecial 33, 3) := by decide +kernel
theorem dX1_init_48 : decode cX1_init 48 = .ok (.putfield 34, 3) := by decide +kernel
theorem dX1_init_51 : decode cX1_init 51 = .ok (.aload_n 0, 1) := by decide +kernel
theorem dX1_init_52 : decode cX1_init 52 = .ok (.bipush 7, 2) := by decide +kernel
theorem dX1_init_54 : decode cX1_init 54 = .ok (.invokestatic 38, 3) := by decide +kernel
theorem dX1_init_57 : decode cX1_init 57 = .ok (.putfield 44, 3) := by decide +kernel
theorem dX1_init_60 : decode cX1_init 60 = .ok (.return_, 1) := by decide +kernel
theorem dX2_init_0 : decode cX2_init 0 = .ok (.aload_n 0, 1) := by decide +kernel
theorem dX2_init_1 : decode cX2_init 1 = .ok (.invokespecial 3, 3) := by decide +kernel
theorem dX2_init_4 : decode cX2_init 4 = .ok (.aload_n 0, 1) := by decide +kernel
theorem dX2_init_5 : decode cX2_init 5 = .ok (.iconst 0, 1) := by decide +kernel
theorem dX2_init_6 : decode cX2_init 6 = .ok (.putfield 9, 3) := by decide +kernel
theorem dX2_init_9 : decode cX2_init 9 = .ok (.aload_n 0, 1) := by decide +kernel
theorem dX2_init_10 : decode cX2_init 10 = .ok (.iconst 0, 1) := by decide +kernel
theorem dX2_init_11 : decode cX2_init 11 = .ok (.putfield 15, 3) := by decide +kernel
theorem dX2_init_14 : decode cX2_init 14 = .ok (.aload_n 0, 1) := by decide +kernel
theorem dX2_init_15 : decode cX2_init 15 = .ok (.bipush 8, 2) := by decide +kernel
theorem dX2_init_17 : decode cX2_init 17 = .ok (.newarray .int, 2) := by decide +kernel
theorem dX2_init_19 : decode cX2_init 19 = .ok (.putfield 18, 3) := by decide +kernel
theorem dX2_init_22 : decode cX2_init 22 = .ok (.aload_n 0, 1) := by decide +kernel
theorem dX2_init_23 : decode cX2_init 23 = .ok (.bipush 8, 2) := by decide +kernel
theorem dX2_init_25 : decode cX2_init 25 = .ok (.newarray .int, 2) := by decide +kernel
theorem dX2_init_27 : decode cX2_init 27 = .ok (.putfield 22, 3) := by decide +kernel
theorem dX2_init_30 : decode cX2_init 30 = .ok (.return_, 1) := by decide +kernel
theorem dX2_clear_0 : decode cX2_clear 0 = .ok (.aload_n 0, 1) := by decide +kernel
theorem dX2_clear_1 : decode cX2_clear 1 = .ok (.iconst 0, 1) := by decide +kernel
theorem dX2_clear_2 : decode cX2_clear 2 = .ok (.putfield 9, 3) := by decide +kernel
theorem dX2_clear_5 : decode cX2_clear 5 = .ok (.aload_n 0, 1) := by decide +kernel
theorem dX2_clear_6 : decode cX2_clear 6 = .ok (.iconst 0, 1) := by decide +kernel
theorem dX2_clear_7 : decode cX2_clear 7 = .ok (.putfield 15, 3) := by decide +kernel
theorem dX2_clear_10 : decode cX2_clear 10 = .ok (.return_, 1) := by decide +kernel
theorem dX2_takeFrom_0 : decode cX2_takeFrom 0 = .ok (.aload_n 0, 1) := by decide +kernel
theorem dX2_takeFrom_1 : decode cX2_takeFrom 1 = .ok (.aload_n 1, 1) := by decide +kernel
theorem dX2_takeFrom_2 : decode cX2_takeFrom 2 = .ok (.getfield 9, 3) := by decide +kernel
theorem dX2_takeFrom_5 : decode cX2_takeFrom 5 = .ok (.putfield 9, 3) := by decide +kernel
theorem dX2_takeFrom_8 : decode cX2_takeFrom 8 = .ok (.aload_n 0, 1) := by decide +kernel
theorem dX2_takeFrom_9 : decode cX2_takeFrom 9 = .ok (.aload_n 1, 1) := by decide +kernel
theorem dX2_takeFrom_10 : decode cX2_takeFrom 10 = .ok (.getfield 15, 3) := by decide +kernel
theorem dX2_takeFrom_13 : decode cX2_takeFrom 13 = .ok (.putfield 15, 3) := by decide +kernel
theorem dX2_takeFrom_16 : decode cX2_takeFrom 16 = .ok (.aload_n 1, 1) := by decide +kernel
theorem dX2_takeFrom_17 : decode cX2_takeFrom 17 = .ok (.getfield 18, 3) := by decide +kernel
theorem dX2_takeFrom_20 : decode cX2_takeFrom 20 = .ok (.iconst 0, 1) := by decide +kernel
theorem dX2_takeFrom_21 : decode cX2_takeFrom 21 = .ok (.aload_n 0, 1) := by decide +kernel
theorem dX2_takeFrom_22 : decode cX2_takeFrom 22 = .ok (.getfield 18, 3) := by decide +kernel
theorem dX2_takeFrom_25 : decode cX2_takeFrom 25 = .ok (.iconst 0, 1) := by decide +kernel
theorem dX2_takeFrom_26 : decode cX2_takeFrom 26 = .ok (.bipush 8, 2) := by decide +kernel
theorem dX2_takeFrom_28 : decode cX2_takeFrom 28 = .ok (.invokestatic 25, 3) := by decide +kernel
theorem dX2_takeFrom_31 : decode cX2_takeFrom 31 = .ok (.aload_n 1, 1) := by decide +kernel
theorem dX2_takeFrom_32 : decode cX2_takeFrom 32 = .ok (.getfield 22, 3) := by decide +kernel
theorem dX2_takeFrom_35 : decode cX2_takeFrom 35 = .ok (.iconst 0, 1) := by decide +kernel
theorem dX2_takeFrom_36 : decode cX2_takeFrom 36 = .ok (.aload_n 0, 1) := by decide +kernel
theorem dX2_takeFrom_37 : decode cX2_takeFrom 37 = .ok (.getfield 22, 3) := by decide +kernel
theorem dX2_takeFrom_40 : decode cX2_takeFrom 40 = .ok (.iconst 0, 1) := by decide +kernel
theorem dX2_takeFrom_41 : decode cX2_takeFrom 41 = .ok (.bipush 8, 2) := by decide +kernel
theorem dX2_takeFrom_43 : decode cX2_takeFrom 43 = .ok (.invokestatic 25, 3) := by decide +kernel
theorem dX2_takeFrom_46 : decode cX2_takeFrom 46 = .ok (.return_, 1) := by decide +kernel
set_option maxRecDepth 20000 in
theorem ggX3_init_X0_newRow : GoodIn wsX3_init wsX0_newRow := goodIn_r _ [14, 15, 16, 17, 18, 19, 20, 13, 21, 22, 23, 24, 2, 3, 25, 26, 27, 28, 5, 29, 30, 37, 38, 39, 40, 41] (by decide +kernel) (by decide +kernel)
set_option maxRecDepth 20000 in
theorem gX3_init_X0_newRow : GoodIn wsX3_init (va_wsS RX3 28 yX0_newRow wsX0_newRow) := goodIn_app (goodIn_of _ (by decide +kernel)) ggX3_init_X0_newRow
theorem dX3_init_0 : decode cX3_init 0 = .ok (.aload_n 0, 1) := by decide +kernel
theorem dX3_init_1 : decode cX3_init 1 = .ok (.invokespecial 3, 3) := by decide +kernel
theorem dX3_init_4 : decode cX3_init 4 = .ok (.aload_n 0, 1) := by decide +kernel
theorem dX3_init_5 : decode cX3_init 5 = .ok (.iconst 0, 1) := by decide +kernel
theorem dX3_init_6 : decode cX3_init 6 = .ok (.putfield 9, 3) := by decide +kernel
theorem dX3_init_9 : decode cX3_init 9 = .ok (.aload_n 0, 1) := by decide +kernel
theorem dX3_init_10 : decode cX3_init 10 = .ok (.iconst 3, 1) := by decide +kernel
theorem dX3_init_11 : decode cX3_init 11 = .ok (.newarray .int, 2) := by decide +kernel
theorem dX3_init_13 : decode cX3_init 13 = .ok (.putfield 15, 3) := by decide +kernel
theorem dX3_init_16 : decode cX3_init 16 = .ok (.aload_n 0, 1) := by decide +kernel
theorem dX3_init_17 : decode cX3_init 17 = .ok (.iconst 3, 1) := by decide +kernel
theorem dX3_init_18 : decode cX3_init 18 = .ok (.newarray .int, 2) := by decide +kernel
theorem dX3_init_20 : decode cX3_init 20 = .ok (.putfield 19, 3) := by decide +kernel
theorem dX3_init_23 : decode cX3_init 23 = .ok (.aload_n 0, 1) := by decide +kernel
theorem dX3_init_24 : decode cX3_init 24 = .ok (.iconst 5, 1) := by decide +kernel
theorem dX3_init_25 : decode cX3_init 25 = .ok (.newarray .int, 2) := by decide +kernel
theorem dX3_init_27 : decode cX3_init 27 = .ok (.putfield 22, 3) := by decide +kernel
theorem dX3_init_30 : decode cX3_init 30 = .ok (.aload_n 0, 1) := by decide +kernel
theorem dX3_init_31 : decode cX3_init 31 = .ok (.iconst 0, 1) := by decide +kernel
theorem dX3_init_32 : decode cX3_init 32 = .ok (.putfield 25, 3) := by decide +kernel
theorem dX3_init_35 : decode cX3_init 35 = .ok (.aload_n 0, 1) := by decide +kernel
theorem dX3_init_36 : decode cX3_init 36 = .ok (.iconst 4, 1) := by decide +kernel
theorem dX3_init_37 : decode cX3_init 37 = .ok (.invokestatic 28, 3) := by decide +kernel
theorem dX3_init_40 : decode cX3_init 40 = .ok (.putfield 34, 3) := by decide +kernel
theorem dX3_init_43 : decode cX3_init 43 = .ok (.return_, 1) := by decide +kernel
theorem dX4_init_0 : decode cX4_init 0 = .ok (.aload_n 0, 1) := by decide +kernel
theorem dX4_init_1 : decode cX4_init 1 = .ok (.invokespecial 3, 3) := by decide +kernel
theorem dX4_init_4 : decode cX4_init 4 = .ok (.aload_n 0, 1) := by decide +kernel
theorem dX4_init_5 : decode cX4_init 5 = .ok (.iload_n 1, 1) := by decide +kernel
theorem dX4_init_6 : decode cX4_init 6 = .ok (.putfield 9, 3) := by decide +kernel
theorem dX4_init_9 : decode cX4_init 9 = .ok (.aload_n 0, 1) := by decide +kernel
theorem dX4_init_10 : decode cX4_init 10 = .ok (.iconst 0, 1) := by decide +kernel
theorem dX4_init_11 : decode cX4_init 11 = .ok (.iload_n 2, 1) := by decide +kernel
theorem dX4_init_12 : decode cX4_init 12 = .ok (.bipush 24, 2) := by decide +kernel
theorem dX4_init_14 : decode cX4_init 14 = .ok (.invokestatic 15, 3) := by decide +kernel
theorem dX4_init_17 : decode cX4_init 17 = .ok (.invokestatic 21, 3) := by decide +kernel
theorem dX4_init_20 : decode cX4_init 20 = .ok (.newarray .long, 2) := by decide +kernel
theorem dX4_init_22 : decode cX4_init 22 = .ok (.putfield 24, 3) := by decide +kernel
theorem dX4_init_25 : decode cX4_init 25 = .ok (.return_, 1) := by decide +kernel
theorem dX5_init_0 : decode cX5_init 0 = .ok (.aload_n 0, 1) := by decide +kernel
theorem dX5_init_1 : decode cX5_init 1 = .ok (.invokespecial 3, 3) := by decide +kernel
theorem dX5_init_4 : decode cX5_init 4 = .ok (.aload_n 0, 1) := by decide +kernel
theorem dX5_init_5 : decode cX5_init 5 = .ok (.iconst 0, 1) := by decide +kernel
theorem dX5_init_6 : decode cX5_init 6 = .ok (.putfield 9, 3) := by decide +kernel
theorem dX5_init_9 : decode cX5_init 9 = .ok (.aload_n 0, 1) := by decide +kernel
theorem dX5_init_10 : decode cX5_init 10 = .ok (.iconst 0, 1) := by decide +kernel
theorem dX5_init_11 : decode cX5_init 11 = .ok (.putfield 15, 3) := by decide +kernel
theorem dX5_init_14 : decode cX5_init 14 = .ok (.aload_n 0, 1) := by decide +kernel
theorem dX5_init_15 : decode cX5_init 15 = .ok (.bipush 80, 2) := by decide +kernel
theorem dX5_init_17 : decode cX5_init 17 = .ok (.newarray .char, 2) := by decide +kernel
theorem dX5_init_19 : decode cX5_init 19 = .ok (.putfield 18, 3) := by decide +kernel
theorem dX5_init_22 : decode cX5_init 22 = .ok (.return_, 1) := by decide +kernel
theorem dX5_areSigns_0 : decode cX5_areSigns 0 = .ok (.iconst 0, 1) := by decide +kernel
theorem dX5_areSigns_1 : decode cX5_areSigns 1 = .ok (.istore_n 3, 1) := by decide +kernel
theorem dX5_areSigns_2 : decode cX5_areSigns 2 = .ok (.iload_n 3, 1) := by decide +kernel
theorem dX5_areSigns_3 : decode cX5_areSigns 3 = .ok (.iload_n 2, 1) := by decide +kernel
theorem dX5_areSigns_4 : decode cX5_areSigns 4 = .ok (.if_icmp .ge 41, 3) := by decide +kernel
theorem dX5_areSigns_7 : decode cX5_areSigns 7 = .ok (.lload_n 0, 1) := by decide +kernel
theorem dX5_areSigns_8 : decode cX5_areSigns 8 = .ok (.bipush 8, 2) := by decide +kernel
theorem dX5_areSigns_10 : decode cX5_areSigns 10 = .ok (.iload_n 3, 1) := by decide +kernel
theorem dX5_areSigns_11 : decode cX5_areSigns 11 = .ok (.imul, 1) := by decide +kernel
theorem dX5_areSigns_12 : decode cX5_areSigns 12 = .ok (.lshr, 1) := by decide +kernel
theorem dX5_areSigns_13 : decode cX5_areSigns 13 = .ok (.ldc2_w 22, 3) := by decide +kernel
theorem dX5_areSigns_16 : decode cX5_areSigns 16 = .ok (.land, 1) := by decide +kernel
theorem dX5_areSigns_17 : decode cX5_areSigns 17 = .ok (.lstore 4, 2) := by decide +kernel
theorem dX5_areSigns_19 : decode cX5_areSigns 19 = .ok (.lload 4, 2) := by decide +kernel
theorem dX5_areSigns_21 : decode cX5_areSigns 21 = .ok (.ldc2_w 24, 3) := by decide +kernel
theorem dX5_areSigns_24 : decode cX5_areSigns 24 = .ok (.lcmp, 1) := by decide +kernel
theorem dX5_areSigns_25 : decode cX5_areSigns 25 = .ok (.ifCond .lt 12, 3) := by decide +kernel
theorem dX5_areSigns_28 : decode cX5_areSigns 28 = .ok (.lload 4, 2) := by decide +kernel
theorem dX5_areSigns_30 : decode cX5_areSigns 30 = .ok (.ldc2_w 26, 3) := by decide +kernel
theorem dX5_areSigns_33 : decode cX5_areSigns 33 = .ok (.lcmp, 1) := by decide +kernel
theorem dX5_areSigns_34 : decode cX5_areSigns 34 = .ok (.ifCond .le 5, 3) := by decide +kernel
theorem dX5_areSigns_37 : decode cX5_areSigns 37 = .ok (.iconst 0, 1) := by decide +kernel
theorem dX5_areSigns_38 : decode cX5_areSigns 38 = .ok (.ireturn, 1) := by decide +kernel
theorem dX5_areSigns_39 : decode cX5_areSigns 39 = .ok (.iinc 3 1, 3) := by decide +kernel
theorem dX5_areSigns_42 : decode cX5_areSigns 42 = .ok (.goto (-40), 3) := by decide +kernel
theorem dX5_areSigns_45 : decode cX5_areSigns 45 = .ok (.iconst 1, 1) := by decide +kernel
theorem dX5_areSigns_46 : decode cX5_areSigns 46 = .ok (.ireturn, 1) := by decide +kernel
theorem dX5_add_0 : decode cX5_add 0 = .ok (.iload_n 3, 1) := by decide +kernel
theorem dX5_add_1 : decode cX5_add 1 = .ok (.iconst 1, 1) := by decide +kernel
theorem dX5_add_2 : decode cX5_add 2 = .ok (.isub, 1) := by decide +kernel
theorem dX5_add_3 : decode cX5_add 3 = .ok (.istore 4, 2) := by decide +kernel
theorem dX5_add_5 : decode cX5_add 5 = .ok (.iload 4, 2) := by decide +kernel
theorem dX5_add_7 : decode cX5_add 7 = .ok (.ifCond .lt 50, 3) := by decide +kernel
theorem dX5_add_10 : decode cX5_add 10 = .ok (.aload_n 0, 1) := by decide +kernel
theorem dX5_add_11 : decode cX5_add 11 = .ok (.getfield 9, 3) := by decide +kernel
theorem dX5_add_14 : decode cX5_add 14 = .ok (.bipush 80, 2) := by decide +kernel
theorem dX5_add_16 : decode cX5_add 16 = .ok (.if_icmp .ge 41, 3) := by decide +kernel
theorem dX5_add_19 : decode cX5_add 19 = .ok (.aload_n 0, 1) := by decide +kernel
theorem dX5_add_20 : decode cX5_add 20 = .ok (.getfield 18, 3) := by decide +kernel
theorem dX5_add_23 : decode cX5_add 23 = .ok (.aload_n 0, 1) := by decide +kernel
theorem dX5_add_24 : decode cX5_add 24 = .ok (.getfield 9, 3) := by decide +kernel
theorem dX5_add_27 : decode cX5_add 27 = .ok (.lload_n 1, 1) := by decide +kernel
theorem dX5_add_28 : decode cX5_add 28 = .ok (.bipush 8, 2) := by decide +kernel
theorem dX5_add_30 : decode cX5_add 30 = .ok (.iload 4, 2) := by decide +kernel
theorem dX5_add_32 : decode cX5_add 32 = .ok (.imul, 1) := by decide +kernel
theorem dX5_add_33 : decode cX5_add 33 = .ok (.lshr, 1) := by decide +kernel
theorem dX5_add_34 : decode cX5_add 34 = .ok (.ldc2_w 22, 3) := by decide +kernel
theorem dX5_add_37 : decode cX5_add 37 = .ok (.land, 1) := by decide +kernel
theorem dX5_add_38 : decode cX5_add 38 = .ok (.l2i, 1) := by decide +kernel
theorem dX5_add_39 : decode cX5_add 39 = .ok (.i2c, 1) := by decide +kernel
theorem dX5_add_40 : decode cX5_add 40 = .ok (.castore, 1) := by decide +kernel
theorem dX5_add_41 : decode cX5_add 41 = .ok (.aload_n 0, 1) := by decide +kernel
theorem dX5_add_42 : decode cX5_add 42 = .ok (.dup, 1) := by decide +kernel
theorem dX5_add_43 : decode cX5_add 43 = .ok (.getfield 9, 3) := by decide +kernel
theorem dX5_add_46 : decode cX5_add 46 = .ok (.iconst 1, 1) := by decide +kernel
theorem dX5_add_47 : decode cX5_add 47 = .ok (.iadd, 1) := by decide +kernel
theorem dX5_add_48 : decode cX5_add 48 = .ok (.putfield 9, 3) := by decide +kernel
theorem dX5_add_51 : decode cX5_add 51 = .ok (.iinc 4 (-1), 3) := by decide +kernel
theorem dX5_add_54 : decode cX5_add 54 = .ok (.goto (-49), 3) := by decide +kernel
theorem dX5_add_57 : decode cX5_add 57 = .ok (.return_, 1) := by decide +kernel
set_option maxRecDepth 20000 in
theorem ggX5_readFolk_X0_clear : GoodIn wsX5_readFolk wsX0_clear := goodIn_r _ [7, 8, 9, 10, 11, 130, 131, 132, 133, 134] (by decide +kernel) (by decide +kernel)
set_option maxRecDepth 20000 in
theorem gX5_readFolk_X0_clear : GoodIn wsX5_readFolk (wsV RX5 28 RX0 yX0_clear wsX0_clear) := goodIn_app (goodIn_of _ (by decide +kernel)) ggX5_readFolk_X0_clear
set_option maxRecDepth 20000 in
theorem ggX5_readFolk_X5_look : GoodIn wsX5_readFolk wsX5_look := goodIn_r _ [16, 1, 17, 18, 19, 20, 21, 15, 22, 127, 128, 129] (by decide +kernel) (by decide +kernel)
set_option maxRecDepth 20000 in
theorem gX5_readFolk_X5_look : GoodIn wsX5_readFolk (wsV RX5 35 RX5 yX5_look wsX5_look) := goodIn_app (goodIn_of _ (by decide +kernel)) ggX5_readFolk_X5_look
set_option maxRecDepth 20000 in
theorem ggX5_readFolk_J0_indexOf_0f7a4 : GoodIn wsX5_readFolk wsJ0_indexOf_0f7a4 := goodIn_r _ [27, 28, 29, 30, 26, 31, 32, 33, 34, 35, 36, 37, 38, 39, 40, 41, 42, 43, 44, 45, 46, 47, 48, 49, 50, 51, 52, 53, 54, 55, 56, 57, 58, 59, 60, 61, 62, 63, 64, 65, 66, 67, 68, 69, 70, 71, 72, 73, 74, 75, 76, 77, 78, 79, 80, 81, 82, 83, 84, 85, 86, 87, 88, 89, 90, 91, 92, 93, 94, 95, 96, 97, 98, 99, 100, 101, 102, 103, 104, 105, 106, 107, 108, 109, 110, 111] (by decide +kernel) (by decide +kernel)
set_option maxRecDepth 20000 in
theorem gX5_readFolk_J0_indexOf_0f7a4 : GoodIn wsX5_readFolk (wsV RX5 39 RJ0 yJ0_indexOf_0f7a4 wsJ0_indexOf_0f7a4) := goodIn_app (goodIn_of _ (by decide +kernel)) ggX5_readFolk_J0_indexOf_0f7a4
set_option maxRecDepth 20000 in
theorem ggX5_readFolk_X5_fault : GoodIn wsX5_readFolk wsX5_fault := goodIn_r _ [114] (by decide +kernel) (by decide +kernel)
set_option maxRecDepth 20000 in
theorem gX5_readFolk_X5_fault : GoodIn wsX5_readFolk (va_wsS RX5 45 yX5_fault wsX5_fault) := goodIn_app (goodIn_of _ (by decide +kernel)) ggX5_readFolk_X5_fault
set_option maxRecDepth 20000 in
theorem ggX5_readFolk_X5_skipBlanks : GoodIn wsX5_readFolk wsX5_skipBlanks := goodIn_r _ [22, 1, 17, 18, 127, 128, 129] (by decide +kernel) (by decide +kernel)
set_option maxRecDepth 20000 in
theorem gX5_readFolk_X5_skipBlanks : GoodIn wsX5_readFolk (wsV RX5 48 RX5 yX5_skipBlanks wsX5_skipBlanks) := goodIn_app (goodIn_of _ (by decide +kernel)) ggX5_readFolk_X5_skipBlanks
set_option maxRecDepth 20000 in
theorem ggX5_readFolk_X0_add : GoodIn wsX5_readFolk wsX0_add := goodIn_r _ [124, 8, 125, 126, 130, 131, 132, 133, 134] (by decide +kernel) (by decide +kernel)
set_option maxRecDepth 20000 in
theorem gX5_readFolk_X0_add : GoodIn wsX5_readFolk (wsV RX5 55 RX0 yX0_add wsX0_add) := goodIn_app (goodIn_of _ (by decide +kernel)) ggX5_readFolk_X0_add
theorem dX5_readFolk_0 : decode cX5_readFolk 0 = .ok (.aload_n 1, 1) := by decide +kernel
theorem dX5_readFolk_1 : decode cX5_readFolk 1 = .ok (.invokevirtual 28, 3) := by decide +kernel
theorem dX5_readFolk_4 : decode cX5_readFolk 4 = .ok (.aload_n 0, 1) := by decide +kernel
theorem dX5_readFolk_5 : decode cX5_readFolk 5 = .ok (.iconst 0, 1) := by decide +kernel
theorem dX5_readFolk_6 : decode cX5_readFolk 6 = .ok (.putfield 15, 3) := by decide +kernel
theorem dX5_readFolk_9 : decode cX5_readFolk 9 = .ok (.iconst 4, 1) := by decide +kernel
theorem dX5_readFolk_10 : decode cX5_readFolk 10 = .ok (.istore_n 2, 1) := by decide +kernel
theorem dX5_readFolk_11 : decode cX5_readFolk 11 = .ok (.iload_n 2, 1) := by decide +kernel
theorem dX5_readFolk_12 : decode cX5_readFolk 12 = .ok (.ifCond .lt 128, 3) := by decide +kernel
theorem dX5_readFolk_15 : decode cX5_readFolk 15 = .ok (.ldc 33, 2) := by decide +kernel
theorem dX5_readFolk_17 : decode cX5_readFolk 17 = .ok (.aload_n 0, 1) := by decide +kernel
theorem dX5_readFolk_18 : decode cX5_readFolk 18 = .ok (.invokevirtual 35, 3) := by decide +kernel
theorem dX5_readFolk_21 : decode cX5_readFolk 21 = .ok (.invokevirtual 39, 3) := by decide +kernel
theorem dX5_readFolk_24 : decode cX5_readFolk 24 = .ok (.istore_n 3, 1) := by decide +kernel
theorem dX5_readFolk_25 : decode cX5_readFolk 25 = .ok (.iload_n 3, 1) := by decide +kernel
theorem dX5_readFolk_26 : decode cX5_readFolk 26 = .ok (.ifCond .ge 11, 3) := by decide +kernel
theorem dX5_readFolk_29 : decode cX5_readFolk 29 = .ok (.aload_n 0, 1) := by decide +kernel
theorem dX5_readFolk_30 : decode cX5_readFolk 30 = .ok (.getfield 15, 3) := by decide +kernel
theorem dX5_readFolk_33 : decode cX5_readFolk 33 = .ok (.invokestatic 45, 3) := by decide +kernel
theorem dX5_readFolk_36 : decode cX5_readFolk 36 = .ok (.ireturn, 1) := by decide +kernel
theorem dX5_readFolk_37 : decode cX5_readFolk 37 = .ok (.aload_n 0, 1) := by decide +kernel
theorem dX5_readFolk_38 : decode cX5_readFolk 38 = .ok (.dup, 1) := by decide +kernel
theorem dX5_readFolk_39 : decode cX5_readFolk 39 = .ok (.getfield 15, 3) := by decide +kernel
theorem dX5_readFolk_42 : decode cX5_readFolk 42 = .ok (.iconst 1, 1) := by decide +kernel
theorem dX5_readFolk_43 : decode cX5_readFolk 43 = .ok (.iadd, 1) := by decide +kernel
theorem dX5_readFolk_44 : decode cX5_readFolk 44 = .ok (.putfield 15, 3) := by decide +kernel
theorem dX5_readFolk_47 : decode cX5_readFolk 47 = .ok (.aload_n 0, 1) := by decide +kernel
theorem dX5_readFolk_48 : decode cX5_readFolk 48 = .ok (.invokevirtual 48, 3) := by decide +kernel
theorem dX5_readFolk_51 : decode cX5_readFolk 51 = .ok (.aload_n 0, 1) := by decide +kernel
theorem dX5_readFolk_52 : decode cX5_readFolk 52 = .ok (.getfield 15, 3) := by decide +kernel
theorem dX5_readFolk_55 : decode cX5_readFolk 55 = .ok (.istore 4, 2) := by decide +kernel
theorem dX5_readFolk_57 : decode cX5_readFolk 57 = .ok (.aload_n 0, 1) := by decide +kernel
theorem dX5_readFolk_58 : decode cX5_readFolk 58 = .ok (.invokevirtual 51, 3) := by decide +kernel
theorem dX5_readFolk_61 : decode cX5_readFolk 61 = .ok (.istore 5, 2) := by decide +kernel
theorem dX5_readFolk_63 : decode cX5_readFolk 63 = .ok (.iload 5, 2) := by decide +kernel
theorem dX5_readFolk_65 : decode cX5_readFolk 65 = .ok (.ifCond .lt 11, 3) := by decide +kernel
theorem dX5_readFolk_68 : decode cX5_readFolk 68 = .ok (.iload 5, 2) := by decide +kernel
theorem dX5_readFolk_70 : decode cX5_readFolk 70 = .ok (.sipush 9999, 3) := by decide +kernel
theorem dX5_readFolk_73 : decode cX5_readFolk 73 = .ok (.if_icmp .le 9, 3) := by decide +kernel
theorem dX5_readFolk_76 : decode cX5_readFolk 76 = .ok (.iload 4, 2) := by decide +kernel
theorem dX5_readFolk_78 : decode cX5_readFolk 78 = .ok (.invokestatic 45, 3) := by decide +kernel
theorem dX5_readFolk_81 : decode cX5_readFolk 81 = .ok (.ireturn, 1) := by decide +kernel
theorem dX5_readFolk_82 : decode cX5_readFolk 82 = .ok (.aload_n 1, 1) := by decide +kernel
theorem dX5_readFolk_83 : decode cX5_readFolk 83 = .ok (.iload_n 3, 1) := by decide +kernel
theorem dX5_readFolk_84 : decode cX5_readFolk 84 = .ok (.iload 5, 2) := by decide +kernel
theorem dX5_readFolk_86 : decode cX5_readFolk 86 = .ok (.invokevirtual 55, 3) := by decide +kernel
theorem dX5_readFolk_89 : decode cX5_readFolk 89 = .ok (.aload_n 0, 1) := by decide +kernel
theorem dX5_readFolk_90 : decode cX5_readFolk 90 = .ok (.invokevirtual 35, 3) := by decide +kernel
theorem dX5_readFolk_93 : decode cX5_readFolk 93 = .ok (.istore 6, 2) := by decide +kernel
theorem dX5_readFolk_95 : decode cX5_readFolk 95 = .ok (.iload 6, 2) := by decide +kernel
theorem dX5_readFolk_97 : decode cX5_readFolk 97 = .ok (.ifCond .ne 8, 3) := by decide +kernel
theorem dX5_readFolk_100 : decode cX5_readFolk 100 = .ok (.aload_n 1, 1) := by decide +kernel
theorem dX5_readFolk_101 : decode cX5_readFolk 101 = .ok (.getfield 59, 3) := by decide +kernel
theorem dX5_readFolk_104 : decode cX5_readFolk 104 = .ok (.ireturn, 1) := by decide +kernel
theorem dX5_readFolk_105 : decode cX5_readFolk 105 = .ok (.iload 6, 2) := by decide +kernel
theorem dX5_readFolk_107 : decode cX5_readFolk 107 = .ok (.bipush 44, 2) := by decide +kernel
theorem dX5_readFolk_109 : decode cX5_readFolk 109 = .ok (.if_icmp .ne 7, 3) := by decide +kernel
theorem dX5_readFolk_112 : decode cX5_readFolk 112 = .ok (.iload_n 2, 1) := by decide +kernel
theorem dX5_readFolk_113 : decode cX5_readFolk 113 = .ok (.ifCond .ne 11, 3) := by decide +kernel
theorem dX5_readFolk_116 : decode cX5_readFolk 116 = .ok (.aload_n 0, 1) := by decide +kernel
theorem dX5_readFolk_117 : decode cX5_readFolk 117 = .ok (.getfield 15, 3) := by decide +kernel
theorem dX5_readFolk_120 : decode cX5_readFolk 120 = .ok (.invokestatic 45, 3) := by decide +kernel
theorem dX5_readFolk_123 : decode cX5_readFolk 123 = .ok (.ireturn, 1) := by decide +kernel
theorem dX5_readFolk_124 : decode cX5_readFolk 124 = .ok (.aload_n 0, 1) := by decide +kernel
theorem dX5_readFolk_125 : decode cX5_readFolk 125 = .ok (.dup, 1) := by decide +kernel
theorem dX5_readFolk_126 : decode cX5_readFolk 126 = .ok (.getfield 15, 3) := by decide +kernel
theorem dX5_readFolk_129 : decode cX5_readFolk 129 = .ok (.iconst 1, 1) := by decide +kernel
theorem dX5_readFolk_130 : decode cX5_readFolk 130 = .ok (.iadd, 1) := by decide +kernel
theorem dX5_readFolk_131 : decode cX5_readFolk 131 = .ok (.putfield 15, 3) := by decide +kernel
theorem dX5_readFolk_134 : decode cX5_readFolk 134 = .ok (.iinc 2 (-1), 3) := by decide +kernel
theorem dX5_readFolk_137 : decode cX5_readFolk 137 = .ok (.goto (-126), 3) := by decide +kernel
theorem dX5_readFolk_140 : decode cX5_readFolk 140 = .ok (.aload_n 0, 1) := by decide +kernel
theorem dX5_readFolk_141 : decode cX5_readFolk 141 = .ok (.getfield 15, 3) := by decide +kernel
theorem dX5_readFolk_144 : decode cX5_readFolk 144 = .ok (.invokestatic 45, 3) := by decide +kernel
theorem dX5_readFolk_147 : decode cX5_readFolk 147 = .ok (.ireturn, 1) := by decide +kernel
set_option maxRecDepth 20000 in
theorem ggX5_readPlan_X2_clear : GoodIn wsX5_readPlan wsX2_clear := goodIn_r _ [8, 9, 10, 38, 39, 40, 41] (by decide +kernel) (by decide +kernel)
set_option maxRecDepth 20000 in
theorem gX5_readPlan_X2_clear : GoodIn wsX5_readPlan (wsV RX5 60 RX2 yX2_clear wsX2_clear) := goodIn_app (goodIn_of _ (by decide +kernel)) ggX5_readPlan_X2_clear
set_option maxRecDepth 20000 in
theorem ggX5_readPlan_X5_readAsking : GoodIn wsX5_readPlan wsX5_readAsking := goodIn_r _ [15, 1, 16, 17, 18, 14, 19, 20, 21, 22, 23, 24, 25, 26, 27, 28, 7, 29, 9, 30, 31, 35, 36, 37, 38, 39, 40, 41] (by decide +kernel) (by decide +kernel)
set_option maxRecDepth 20000 in
theorem gX5_readPlan_X5_readAsking : GoodIn wsX5_readPlan (wsV RX5 63 RX5 yX5_readAsking wsX5_readAsking) := goodIn_app (goodIn_of _ (by decide +kernel)) ggX5_readPlan_X5_readAsking
set_option maxRecDepth 20000 in
theorem ggX5_readPlan_X5_fault : GoodIn wsX5_readPlan wsX5_fault := goodIn_r _ [34] (by decide +kernel) (by decide +kernel)
set_option maxRecDepth 20000 in
theorem gX5_readPlan_X5_fault : GoodIn wsX5_readPlan (va_wsS RX5 45 yX5_fault wsX5_fault) := goodIn_app (goodIn_of _ (by decide +kernel)) ggX5_readPlan_X5_fault
set_option maxRecDepth 20000 in
theorem ggX5_readPlan_X5_look : GoodIn wsX5_readPlan wsX5_look := goodIn_r _ [19, 1, 20, 21, 22, 23, 24, 14, 25, 35, 36, 37] (by decide +kernel) (by decide +kernel)
set_option maxRecDepth 20000 in
theorem gX5_readPlan_X5_look : GoodIn wsX5_readPlan (wsV RX5 35 RX5 yX5_look wsX5_look) := goodIn_app (goodIn_of _ (by decide +kernel)) ggX5_readPlan_X5_look
theorem dX5_readPlan_0 : decode cX5_readPlan 0 = .ok (.aload_n 1, 1) := by decide +kernel
theorem dX5_readPlan_1 : decode cX5_readPlan 1 = .ok (.invokevirtual 60, 3) := by decide +kernel
theorem dX5_readPlan_4 : decode cX5_readPlan 4 = .ok (.aload_n 0, 1) := by decide +kernel
theorem dX5_readPlan_5 : decode cX5_readPlan 5 = .ok (.iconst 0, 1) := by decide +kernel
theorem dX5_readPlan_6 : decode cX5_readPlan 6 = .ok (.putfield 15, 3) := by decide +kernel
theorem dX5_readPlan_9 : decode cX5_readPlan 9 = .ok (.bipush 7, 2) := by decide +kernel
theorem dX5_readPlan_11 : decode cX5_readPlan 11 = .ok (.istore_n 3, 1) := by decide +kernel
theorem dX5_readPlan_12 : decode cX5_readPlan 12 = .ok (.iload_n 3, 1) := by decide +kernel
theorem dX5_readPlan_13 : decode cX5_readPlan 13 = .ok (.ifCond .lt 121, 3) := by decide +kernel
theorem dX5_readPlan_16 : decode cX5_readPlan 16 = .ok (.aload_n 0, 1) := by decide +kernel
theorem dX5_readPlan_17 : decode cX5_readPlan 17 = .ok (.aload_n 1, 1) := by decide +kernel
theorem dX5_readPlan_18 : decode cX5_readPlan 18 = .ok (.iload_n 2, 1) := by decide +kernel
theorem dX5_readPlan_19 : decode cX5_readPlan 19 = .ok (.invokevirtual 63, 3) := by decide +kernel
theorem dX5_readPlan_22 : decode cX5_readPlan 22 = .ok (.ifCond .ne 11, 3) := by decide +kernel
theorem dX5_readPlan_25 : decode cX5_readPlan 25 = .ok (.aload_n 0, 1) := by decide +kernel
theorem dX5_readPlan_26 : decode cX5_readPlan 26 = .ok (.getfield 15, 3) := by decide +kernel
theorem dX5_readPlan_29 : decode cX5_readPlan 29 = .ok (.invokestatic 45, 3) := by decide +kernel
theorem dX5_readPlan_32 : decode cX5_readPlan 32 = .ok (.ireturn, 1) := by decide +kernel
theorem dX5_readPlan_33 : decode cX5_readPlan 33 = .ok (.aload_n 0, 1) := by decide +kernel
theorem dX5_readPlan_34 : decode cX5_readPlan 34 = .ok (.invokevirtual 35, 3) := by decide +kernel
theorem dX5_readPlan_37 : decode cX5_readPlan 37 = .ok (.istore 4, 2) := by decide +kernel
theorem dX5_readPlan_39 : decode cX5_readPlan 39 = .ok (.iload 4, 2) := by decide +kernel
theorem dX5_readPlan_41 : decode cX5_readPlan 41 = .ok (.bipush 59, 2) := by decide +kernel
theorem dX5_readPlan_43 : decode cX5_readPlan 43 = .ok (.if_icmp .ne 30, 3) := by decide +kernel
theorem dX5_readPlan_46 : decode cX5_readPlan 46 = .ok (.aload_n 1, 1) := by decide +kernel
theorem dX5_readPlan_47 : decode cX5_readPlan 47 = .ok (.dup, 1) := by decide +kernel
theorem dX5_readPlan_48 : decode cX5_readPlan 48 = .ok (.getfield 67, 3) := by decide +kernel
theorem dX5_readPlan_51 : decode cX5_readPlan 51 = .ok (.iconst 1, 1) := by decide +kernel
theorem dX5_readPlan_52 : decode cX5_readPlan 52 = .ok (.aload_n 1, 1) := by decide +kernel
theorem dX5_readPlan_53 : decode cX5_readPlan 53 = .ok (.getfield 70, 3) := by decide +kernel
theorem dX5_readPlan_56 : decode cX5_readPlan 56 = .ok (.iconst 1, 1) := by decide +kernel
theorem dX5_readPlan_57 : decode cX5_readPlan 57 = .ok (.isub, 1) := by decide +kernel
theorem dX5_readPlan_58 : decode cX5_readPlan 58 = .ok (.ishl, 1) := by decide +kernel
theorem dX5_readPlan_59 : decode cX5_readPlan 59 = .ok (.ior, 1) := by decide +kernel
theorem dX5_readPlan_60 : decode cX5_readPlan 60 = .ok (.putfield 67, 3) := by decide +kernel
theorem dX5_readPlan_63 : decode cX5_readPlan 63 = .ok (.aload_n 0, 1) := by decide +kernel
theorem dX5_readPlan_64 : decode cX5_readPlan 64 = .ok (.dup, 1) := by decide +kernel
theorem dX5_readPlan_65 : decode cX5_readPlan 65 = .ok (.getfield 15, 3) := by decide +kernel
theorem dX5_readPlan_68 : decode cX5_readPlan 68 = .ok (.iconst 1, 1) := by decide +kernel
theorem dX5_readPlan_69 : decode cX5_readPlan 69 = .ok (.iadd, 1) := by decide +kernel
theorem dX5_readPlan_70 : decode cX5_readPlan 70 = .ok (.putfield 15, 3) := by decide +kernel
theorem dX5_readPlan_73 : decode cX5_readPlan 73 = .ok (.aload_n 0, 1) := by decide +kernel
theorem dX5_readPlan_74 : decode cX5_readPlan 74 = .ok (.invokevirtual 35, 3) := by decide +kernel
theorem dX5_readPlan_77 : decode cX5_readPlan 77 = .ok (.ifCond .ne 8, 3) := by decide +kernel
theorem dX5_readPlan_80 : decode cX5_readPlan 80 = .ok (.aload_n 1, 1) := by decide +kernel
theorem dX5_readPlan_81 : decode cX5_readPlan 81 = .ok (.getfield 70, 3) := by decide +kernel
theorem dX5_readPlan_84 : decode cX5_readPlan 84 = .ok (.ireturn, 1) := by decide +kernel
theorem dX5_readPlan_85 : decode cX5_readPlan 85 = .ok (.iload_n 3, 1) := by decide +kernel
theorem dX5_readPlan_86 : decode cX5_readPlan 86 = .ok (.ifCond .eq 17, 3) := by decide +kernel
theorem dX5_readPlan_89 : decode cX5_readPlan 89 = .ok (.iload 4, 2) := by decide +kernel
theorem dX5_readPlan_91 : decode cX5_readPlan 91 = .ok (.bipush 44, 2) := by decide +kernel
theorem dX5_readPlan_93 : decode cX5_readPlan 93 = .ok (.if_icmp .eq 18, 3) := by decide +kernel
theorem dX5_readPlan_96 : decode cX5_readPlan 96 = .ok (.iload 4, 2) := by decide +kernel
theorem dX5_readPlan_98 : decode cX5_readPlan 98 = .ok (.bipush 59, 2) := by decide +kernel
theorem dX5_readPlan_100 : decode cX5_readPlan 100 = .ok (.if_icmp .eq 11, 3) := by decide +kernel
theorem dX5_readPlan_103 : decode cX5_readPlan 103 = .ok (.aload_n 0, 1) := by decide +kernel
theorem dX5_readPlan_104 : decode cX5_readPlan 104 = .ok (.getfield 15, 3) := by decide +kernel
theorem dX5_readPlan_107 : decode cX5_readPlan 107 = .ok (.invokestatic 45, 3) := by decide +kernel
theorem dX5_readPlan_110 : decode cX5_readPlan 110 = .ok (.ireturn, 1) := by decide +kernel
theorem dX5_readPlan_111 : decode cX5_readPlan 111 = .ok (.iload 4, 2) := by decide +kernel
theorem dX5_readPlan_113 : decode cX5_readPlan 113 = .ok (.bipush 44, 2) := by decide +kernel
theorem dX5_readPlan_115 : decode cX5_readPlan 115 = .ok (.if_icmp .ne 13, 3) := by decide +kernel
theorem dX5_readPlan_118 : decode cX5_readPlan 118 = .ok (.aload_n 0, 1) := by decide +kernel
theorem dX5_readPlan_119 : decode cX5_readPlan 119 = .ok (.dup, 1) := by decide +kernel
theorem dX5_readPlan_120 : decode cX5_readPlan 120 = .ok (.getfield 15, 3) := by decide +kernel
theorem dX5_readPlan_123 : decode cX5_readPlan 123 = .ok (.iconst 1, 1) := by decide +kernel
theorem dX5_readPlan_124 : decode cX5_readPlan 124 = .ok (.iadd, 1) := by decide +kernel
theorem dX5_readPlan_125 : decode cX5_readPlan 125 = .ok (.putfield 15, 3) := by decide +kernel
theorem dX5_readPlan_128 : decode cX5_readPlan 128 = .ok (.iinc 3 (-1), 3) := by decide +kernel
theorem dX5_readPlan_131 : decode cX5_readPlan 131 = .ok (.goto (-119), 3) := by decide +kernel
theorem dX5_readPlan_134 : decode cX5_readPlan 134 = .ok (.aload_n 0, 1) := by decide +kernel
theorem dX5_readPlan_135 : decode cX5_readPlan 135 = .ok (.getfield 15, 3) := by decide +kernel
theorem dX5_readPlan_138 : decode cX5_readPlan 138 = .ok (.invokestatic 45, 3) := by decide +kernel
theorem dX5_readPlan_141 : decode cX5_readPlan 141 = .ok (.ireturn, 1) := by decide +kernel
set_option maxRecDepth 20000 in
theorem ggX5_readAsking_X5_look : GoodIn wsX5_readAsking wsX5_look := goodIn_r _ [6, 1, 7, 8, 9, 10, 11, 5, 12, 21, 22, 23] (by decide +kernel) (by decide +kernel)
set_option maxRecDepth 20000 in
theorem gX5_readAsking_X5_look : GoodIn wsX5_readAsking (wsV RX5 35 RX5 yX5_look wsX5_look) := goodIn_app (goodIn_of _ (by decide +kernel)) ggX5_readAsking_X5_look
theorem dX5_readAsking_0 : decode cX5_readAsking 0 = .ok (.aload_n 0, 1) := by decide +kernel
theorem dX5_readAsking_1 : decode cX5_readAsking 1 = .ok (.invokevirtual 35, 3) := by decide +kernel
theorem dX5_readAsking_4 : decode cX5_readAsking 4 = .ok (.bipush 48, 2) := by decide +kernel
theorem dX5_readAsking_6 : decode cX5_readAsking 6 = .ok (.isub, 1) := by decide +kernel
theorem dX5_readAsking_7 : decode cX5_readAsking 7 = .ok (.istore_n 3, 1) := by decide +kernel
theorem dX5_readAsking_8 : decode cX5_readAsking 8 = .ok (.iload_n 3, 1) := by decide +kernel
theorem dX5_readAsking_9 : decode cX5_readAsking 9 = .ok (.ifCond .lt 8, 3) := by decide +kernel
theorem dX5_readAsking_12 : decode cX5_readAsking 12 = .ok (.iload_n 3, 1) := by decide +kernel
theorem dX5_readAsking_13 : decode cX5_readAsking 13 = .ok (.iload_n 2, 1) := by decide +kernel
theorem dX5_readAsking_14 : decode cX5_readAsking 14 = .ok (.if_icmp .lt 5, 3) := by decide +kernel
theorem dX5_readAsking_17 : decode cX5_readAsking 17 = .ok (.iconst 0, 1) := by decide +kernel
theorem dX5_readAsking_18 : decode cX5_readAsking 18 = .ok (.ireturn, 1) := by decide +kernel
theorem dX5_readAsking_19 : decode cX5_readAsking 19 = .ok (.aload_n 0, 1) := by decide +kernel
theorem dX5_readAsking_20 : decode cX5_readAsking 20 = .ok (.dup, 1) := by decide +kernel
theorem dX5_readAsking_21 : decode cX5_readAsking 21 = .ok (.getfield 15, 3) := by decide +kernel
theorem dX5_readAsking_24 : decode cX5_readAsking 24 = .ok (.iconst 1, 1) := by decide +kernel
theorem dX5_readAsking_25 : decode cX5_readAsking 25 = .ok (.iadd, 1) := by decide +kernel
theorem dX5_readAsking_26 : decode cX5_readAsking 26 = .ok (.putfield 15, 3) := by decide +kernel
theorem dX5_readAsking_29 : decode cX5_readAsking 29 = .ok (.aload_n 0, 1) := by decide +kernel
theorem dX5_readAsking_30 : decode cX5_readAsking 30 = .ok (.invokevirtual 35, 3) := by decide +kernel
theorem dX5_readAsking_33 : decode cX5_readAsking 33 = .ok (.bipush 62, 2) := by decide +kernel
theorem dX5_readAsking_35 : decode cX5_readAsking 35 = .ok (.if_icmp .eq 5, 3) := by decide +kernel
theorem dX5_readAsking_38 : decode cX5_readAsking 38 = .ok (.iconst 0, 1) := by decide +kernel
theorem dX5_readAsking_39 : decode cX5_readAsking 39 = .ok (.ireturn, 1) := by decide +kernel
theorem dX5_readAsking_40 : decode cX5_readAsking 40 = .ok (.aload_n 0, 1) := by decide +kernel
theorem dX5_readAsking_41 : decode cX5_readAsking 41 = .ok (.dup, 1) := by decide +kernel
theorem dX5_readAsking_42 : decode cX5_readAsking 42 = .ok (.getfield 15, 3) := by decide +kernel
theorem dX5_readAsking_45 : decode cX5_readAsking 45 = .ok (.iconst 1, 1) := by decide +kernel
theorem dX5_readAsking_46 : decode cX5_readAsking 46 = .ok (.iadd, 1) := by decide +kernel
theorem dX5_readAsking_47 : decode cX5_readAsking 47 = .ok (.putfield 15, 3) := by decide +kernel
theorem dX5_readAsking_50 : decode cX5_readAsking 50 = .ok (.aload_n 0, 1) := by decide +kernel
theorem dX5_readAsking_51 : decode cX5_readAsking 51 = .ok (.invokevirtual 35, 3) := by decide +kernel
theorem dX5_readAsking_54 : decode cX5_readAsking 54 = .ok (.bipush 48, 2) := by decide +kernel
theorem dX5_readAsking_56 : decode cX5_readAsking 56 = .ok (.isub, 1) := by decide +kernel
theorem dX5_readAsking_57 : decode cX5_readAsking 57 = .ok (.istore 4, 2) := by decide +kernel
theorem dX5_readAsking_59 : decode cX5_readAsking 59 = .ok (.iload 4, 2) := by decide +kernel
theorem dX5_readAsking_61 : decode cX5_readAsking 61 = .ok (.ifCond .lt 15, 3) := by decide +kernel
theorem dX5_readAsking_64 : decode cX5_readAsking 64 = .ok (.iload 4, 2) := by decide +kernel
theorem dX5_readAsking_66 : decode cX5_readAsking 66 = .ok (.iload_n 2, 1) := by decide +kernel
theorem dX5_readAsking_67 : decode cX5_readAsking 67 = .ok (.if_icmp .ge 9, 3) := by decide +kernel
theorem dX5_readAsking_70 : decode cX5_readAsking 70 = .ok (.iload 4, 2) := by decide +kernel
theorem dX5_readAsking_72 : decode cX5_readAsking 72 = .ok (.iload_n 3, 1) := by decide +kernel
theorem dX5_readAsking_73 : decode cX5_readAsking 73 = .ok (.if_icmp .ne 5, 3) := by decide +kernel
theorem dX5_readAsking_76 : decode cX5_readAsking 76 = .ok (.iconst 0, 1) := by decide +kernel
theorem dX5_readAsking_77 : decode cX5_readAsking 77 = .ok (.ireturn, 1) := by decide +kernel
theorem dX5_readAsking_78 : decode cX5_readAsking 78 = .ok (.aload_n 0, 1) := by decide +kernel
theorem dX5_readAsking_79 : decode cX5_readAsking 79 = .ok (.dup, 1) := by decide +kernel
theorem dX5_readAsking_80 : decode cX5_readAsking 80 = .ok (.getfield 15, 3) := by decide +kernel
theorem dX5_readAsking_83 : decode cX5_readAsking 83 = .ok (.iconst 1, 1) := by decide +kernel
theorem dX5_readAsking_84 : decode cX5_readAsking 84 = .ok (.iadd, 1) := by decide +kernel
theorem dX5_readAsking_85 : decode cX5_readAsking 85 = .ok (.putfield 15, 3) := by decide +kernel
theorem dX5_readAsking_88 : decode cX5_readAsking 88 = .ok (.aload_n 1, 1) := by decide +kernel
theorem dX5_readAsking_89 : decode cX5_readAsking 89 = .ok (.iload_n 3, 1) := by decide +kernel
theorem dX5_readAsking_90 : decode cX5_readAsking 90 = .ok (.iload 4, 2) := by decide +kernel
theorem dX5_readAsking_92 : decode cX5_readAsking 92 = .ok (.invokevirtual 71, 3) := by decide +kernel
theorem dX5_readAsking_95 : decode cX5_readAsking 95 = .ok (.iconst 1, 1) := by decide +kernel
theorem dX5_readAsking_96 : decode cX5_readAsking 96 = .ok (.ireturn, 1) := by decide +kernel
set_option maxRecDepth 20000 in
theorem ggX5_look_X5_skipBlanks : GoodIn wsX5_look wsX5_skipBlanks := goodIn_r _ [8, 1, 2, 3, 9, 10, 11] (by decide +kernel) (by decide +kernel)
set_option maxRecDepth 20000 in
theorem gX5_look_X5_skipBlanks : GoodIn wsX5_look (wsV RX5 48 RX5 yX5_skipBlanks wsX5_skipBlanks) := goodIn_app (goodIn_of _ (by decide +kernel)) ggX5_look_X5_skipBlanks
theorem dX5_look_0 : decode cX5_look 0 = .ok (.aload_n 0, 1) := by decide +kernel
theorem dX5_look_1 : decode cX5_look 1 = .ok (.invokevirtual 48, 3) := by decide +kernel
theorem dX5_look_4 : decode cX5_look 4 = .ok (.aload_n 0, 1) := by decide +kernel
theorem dX5_look_5 : decode cX5_look 5 = .ok (.getfield 15, 3) := by decide +kernel
theorem dX5_look_8 : decode cX5_look 8 = .ok (.aload_n 0, 1) := by decide +kernel
theorem dX5_look_9 : decode cX5_look 9 = .ok (.getfield 9, 3) := by decide +kernel
theorem dX5_look_12 : decode cX5_look 12 = .ok (.if_icmp .ge 15, 3) := by decide +kernel
theorem dX5_look_15 : decode cX5_look 15 = .ok (.aload_n 0, 1) := by decide +kernel
theorem dX5_look_16 : decode cX5_look 16 = .ok (.getfield 18, 3) := by decide +kernel
theorem dX5_look_19 : decode cX5_look 19 = .ok (.aload_n 0, 1) := by decide +kernel
theorem dX5_look_20 : decode cX5_look 20 = .ok (.getfield 15, 3) := by decide +kernel
theorem dX5_look_23 : decode cX5_look 23 = .ok (.caload, 1) := by decide +kernel
theorem dX5_look_24 : decode cX5_look 24 = .ok (.goto 4, 3) := by decide +kernel
theorem dX5_look_27 : decode cX5_look 27 = .ok (.iconst 0, 1) := by decide +kernel
theorem dX5_look_28 : decode cX5_look 28 = .ok (.ireturn, 1) := by decide +kernel
theorem dX5_skipBlanks_0 : decode cX5_skipBlanks 0 = .ok (.aload_n 0, 1) := by decide +kernel
theorem dX5_skipBlanks_1 : decode cX5_skipBlanks 1 = .ok (.getfield 15, 3) := by decide +kernel
theorem dX5_skipBlanks_4 : decode cX5_skipBlanks 4 = .ok (.aload_n 0, 1) := by decide +kernel
theorem dX5_skipBlanks_5 : decode cX5_skipBlanks 5 = .ok (.getfield 9, 3) := by decide +kernel
theorem dX5_skipBlanks_8 : decode cX5_skipBlanks 8 = .ok (.if_icmp .ge 30, 3) := by decide +kernel
theorem dX5_skipBlanks_11 : decode cX5_skipBlanks 11 = .ok (.aload_n 0, 1) := by decide +kernel
theorem dX5_skipBlanks_12 : decode cX5_skipBlanks 12 = .ok (.getfield 18, 3) := by decide +kernel
theorem dX5_skipBlanks_15 : decode cX5_skipBlanks 15 = .ok (.aload_n 0, 1) := by decide +kernel
theorem dX5_skipBlanks_16 : decode cX5_skipBlanks 16 = .ok (.getfield 15, 3) := by decide +kernel
theorem dX5_skipBlanks_19 : decode cX5_skipBlanks 19 = .ok (.caload, 1) := by decide +kernel
theorem dX5_skipBlanks_20 : decode cX5_skipBlanks 20 = .ok (.bipush 32, 2) := by decide +kernel
theorem dX5_skipBlanks_22 : decode cX5_skipBlanks 22 = .ok (.if_icmp .ne 16, 3) := by decide +kernel
theorem dX5_skipBlanks_25 : decode cX5_skipBlanks 25 = .ok (.aload_n 0, 1) := by decide +kernel
theorem dX5_skipBlanks_26 : decode cX5_skipBlanks 26 = .ok (.dup, 1) := by decide +kernel
theorem dX5_skipBlanks_27 : decode cX5_skipBlanks 27 = .ok (.getfield 15, 3) := by decide +kernel
theorem dX5_skipBlanks_30 : decode cX5_skipBlanks 30 = .ok (.iconst 1, 1) := by decide +kernel
theorem dX5_skipBlanks_31 : decode cX5_skipBlanks 31 = .ok (.iadd, 1) := by decide +kernel
theorem dX5_skipBlanks_32 : decode cX5_skipBlanks 32 = .ok (.putfield 15, 3) := by decide +kernel
theorem dX5_skipBlanks_35 : decode cX5_skipBlanks 35 = .ok (.goto (-35), 3) := by decide +kernel
theorem dX5_skipBlanks_38 : decode cX5_skipBlanks 38 = .ok (.return_, 1) := by decide +kernel
theorem dX5_fault_0 : decode cX5_fault 0 = .ok (.bipush (-20), 2) := by decide +kernel
theorem dX5_fault_2 : decode cX5_fault 2 = .ok (.iload_n 0, 1) := by decide +kernel
theorem dX5_fault_3 : decode cX5_fault 3 = .ok (.isub, 1) := by decide +kernel
theorem dX5_fault_4 : decode cX5_fault 4 = .ok (.ireturn, 1) := by decide +kernel
set_option maxRecDepth 20000 in
theorem ggX6_init_X2_init : GoodIn wsX6_init wsX2_init := goodIn_r _ [13, 14, 2, 3, 15, 16, 17, 18, 19, 45, 46, 47, 48] (by decide +kernel) (by decide +kernel)
set_option maxRecDepth 20000 in
theorem gX6_init_X2_init_n23 : GoodIn wsX6_init (wsX2_init) := ggX6_init_X2_init
set_option maxRecDepth 20000 in
theorem ggX6_init_X0_newRow : GoodIn wsX6_init wsX0_newRow := goodIn_r _ [23, 24, 25, 26, 27, 28, 29, 22, 30, 31, 32, 33, 2, 3, 34, 35, 36, 37, 17, 38, 39, 49, 50, 51, 52, 53] (by decide +kernel) (by decide +kernel)
set_option maxRecDepth 20000 in
theorem gX6_init_X0_newRow : GoodIn wsX6_init (va_wsS RX6 28 yX0_newRow wsX0_newRow) := goodIn_app (goodIn_of _ (by decide +kernel)) ggX6_init_X0_newRow
theorem dX6_init_0 : decode cX6_init 0 = .ok (.aload_n 0, 1) := by decide +kernel
theorem dX6_init_1 : decode cX6_init 1 = .ok (.invokespecial 3, 3) := by decide +kernel
theorem dX6_init_4 : decode cX6_init 4 = .ok (.aload_n 0, 1) := by decide +kernel
theorem dX6_init_5 : decode cX6_init 5 = .ok (.iconst 0, 1) := by decide +kernel
theorem dX6_init_6 : decode cX6_init 6 = .ok (.putfield 9, 3) := by decide +kernel
theorem dX6_init_9 : decode cX6_init 9 = .ok (.aload_n 0, 1) := by decide +kernel
theorem dX6_init_10 : decode cX6_init 10 = .ok (.iconst 0, 1) := by decide +kernel
theorem dX6_init_11 : decode cX6_init 11 = .ok (.putfield 15, 3) := by decide +kernel
theorem dX6_init_14 : decode cX6_init 14 = .ok (.aload_n 0, 1) := by decide +kernel
theorem dX6_init_15 : decode cX6_init 15 = .ok (.iconst 0, 1) := by decide +kernel
theorem dX6_init_16 : decode cX6_init 16 = .ok (.putfield 18, 3) := by decide +kernel
theorem dX6_init_19 : decode cX6_init 19 = .ok (.aload_n 0, 1) := by decide +kernel
theorem dX6_init_20 : decode cX6_init 20 = .ok (.new 21, 3) := by decide +kernel
theorem dX6_init_23 : decode cX6_init 23 = .ok (.dup, 1) := by decide +kernel
theorem dX6_init_24 : decode cX6_init 24 = .ok (.invokespecial 23, 3) := by decide +kernel
theorem dX6_init_27 : decode cX6_init 27 = .ok (.putfield 24, 3) := by decide +kernel
theorem dX6_init_30 : decode cX6_init 30 = .ok (.aload_n 0, 1) := by decide +kernel
theorem dX6_init_31 : decode cX6_init 31 = .ok (.bipush 9, 2) := by decide +kernel
theorem dX6_init_33 : decode cX6_init 33 = .ok (.invokestatic 28, 3) := by decide +kernel
theorem dX6_init_36 : decode cX6_init 36 = .ok (.putfield 34, 3) := by decide +kernel
theorem dX6_init_39 : decode cX6_init 39 = .ok (.return_, 1) := by decide +kernel
set_option maxRecDepth 20000 in
theorem ggX7_init_X0_newRow : GoodIn wsX7_init wsX0_newRow := goodIn_r _ [12, 13, 14, 15, 16, 17, 18, 11, 19, 20, 21, 22, 2, 3, 23, 24, 25, 26, 5, 27, 28, 32, 33, 34, 35, 36] (by decide +kernel) (by decide +kernel)
set_option maxRecDepth 20000 in
theorem gX7_init_X0_newRow : GoodIn wsX7_init (va_wsS RX7 19 yX0_newRow wsX0_newRow) := goodIn_app (goodIn_of _ (by decide +kernel)) ggX7_init_X0_newRow
theorem dX7_init_0 : decode cX7_init 0 = .ok (.aload_n 0, 1) := by decide +kernel
theorem dX7_init_1 : decode cX7_init 1 = .ok (.invokespecial 3, 3) := by decide +kernel
theorem dX7_init_4 : decode cX7_init 4 = .ok (.aload_n 0, 1) := by decide +kernel
theorem dX7_init_5 : decode cX7_init 5 = .ok (.bipush 6, 2) := by decide +kernel
theorem dX7_init_7 : decode cX7_init 7 = .ok (.iconst 5, 1) := by decide +kernel
theorem dX7_init_8 : decode cX7_init 8 = .ok (.multianewarray 9 2, 4) := by decide +kernel
theorem dX7_init_12 : decode cX7_init 12 = .ok (.putfield 11, 3) := by decide +kernel
theorem dX7_init_15 : decode cX7_init 15 = .ok (.aload_n 0, 1) := by decide +kernel
theorem dX7_init_16 : decode cX7_init 16 = .ok (.bipush 6, 2) := by decide +kernel
theorem dX7_init_18 : decode cX7_init 18 = .ok (.iconst 5, 1) := by decide +kernel
theorem dX7_init_19 : decode cX7_init 19 = .ok (.multianewarray 9 2, 4) := by decide +kernel
theorem dX7_init_23 : decode cX7_init 23 = .ok (.putfield 16, 3) := by decide +kernel
theorem dX7_init_26 : decode cX7_init 26 = .ok (.aload_n 0, 1) := by decide +kernel
theorem dX7_init_27 : decode cX7_init 27 = .ok (.bipush 6, 2) := by decide +kernel
theorem dX7_init_29 : decode cX7_init 29 = .ok (.invokestatic 19, 3) := by decide +kernel
theorem dX7_init_32 : decode cX7_init 32 = .ok (.putfield 25, 3) := by decide +kernel
theorem dX7_init_35 : decode cX7_init 35 = .ok (.return_, 1) := by decide +kernel
set_option maxRecDepth 20000 in
theorem ggX8_init_X0_init : GoodIn wsX8_init wsX0_init := goodIn_r _ [45, 46, 2, 3, 47, 48, 49, 50, 51, 52, 53, 117, 118, 119, 120, 121] (by decide +kernel) (by decide +kernel)
set_option maxRecDepth 20000 in
theorem gX8_init_X0_init_n9 : GoodIn wsX8_init (wsX0_init) := ggX8_init_X0_init
set_option maxRecDepth 20000 in
theorem ggX8_init_X2_init : GoodIn wsX8_init wsX2_init := goodIn_r _ [55, 56, 2, 3, 57, 58, 51, 59, 60, 139, 140, 141, 142] (by decide +kernel) (by decide +kernel)
set_option maxRecDepth 20000 in
theorem gX8_init_X2_init_n18 : GoodIn wsX8_init (wsX2_init) := ggX8_init_X2_init
set_option maxRecDepth 20000 in
theorem ggX8_init_X5_init : GoodIn wsX8_init wsX5_init := goodIn_r _ [62, 63, 2, 3, 64, 65, 66, 67, 143, 144, 145] (by decide +kernel) (by decide +kernel)
set_option maxRecDepth 20000 in
theorem gX8_init_X5_init_n25 : GoodIn wsX8_init (wsX5_init) := ggX8_init_X5_init
set_option maxRecDepth 20000 in
theorem ggX8_init_X6_init : GoodIn wsX8_init wsX6_init := goodIn_r _ [69, 70, 2, 3, 71, 72, 73, 74, 9, 10, 75, 76, 54, 55, 56, 57, 58, 51, 59, 60, 77, 78, 6, 79, 80, 81, 82, 83, 84, 5, 85, 44, 45, 46, 47, 48, 49, 50, 52, 53, 146, 147, 148, 149, 150, 139, 140, 141, 142, 117, 118, 119, 120, 121] (by decide +kernel) (by decide +kernel)
set_option maxRecDepth 20000 in
theorem gX8_init_X6_init_n58 : GoodIn wsX8_init (wsX6_init) := ggX8_init_X6_init
set_option maxRecDepth 20000 in
theorem ggX8_init_X7_init : GoodIn wsX8_init wsX7_init := goodIn_r _ [87, 88, 2, 3, 89, 51, 90, 91, 92, 93, 78, 6, 79, 80, 81, 82, 83, 84, 5, 85, 44, 45, 46, 47, 48, 49, 50, 52, 53, 151, 152, 153, 117, 118, 119, 120, 121] (by decide +kernel) (by decide +kernel)
set_option maxRecDepth 20000 in
theorem gX8_init_X7_init_n65 : GoodIn wsX8_init (wsX7_init) := ggX8_init_X7_init
set_option maxRecDepth 20000 in
theorem ggX8_init_X1_init : GoodIn wsX8_init wsX1_init := goodIn_r _ [95, 96, 2, 3, 97, 98, 51, 99, 100, 101, 102, 103, 9, 10, 104, 105, 54, 55, 56, 57, 58, 59, 60, 106, 78, 6, 79, 80, 81, 82, 83, 84, 5, 85, 44, 45, 46, 47, 48, 49, 50, 52, 53, 154, 155, 156, 157, 158, 159, 160, 161, 139, 140, 141, 142, 117, 118, 119, 120, 121] (by decide +kernel) (by decide +kernel)
set_option maxRecDepth 20000 in
theorem gX8_init_X1_init_n72 : GoodIn wsX8_init (wsX1_init) := ggX8_init_X1_init
set_option maxRecDepth 20000 in
theorem ggX8_init_X3_init : GoodIn wsX8_init wsX3_init := goodIn_r _ [108, 109, 2, 3, 110, 51, 111, 112, 113, 114, 115, 116, 78, 6, 79, 80, 81, 82, 83, 84, 5, 85, 44, 45, 46, 47, 48, 49, 50, 52, 53, 162, 163, 164, 165, 166, 167, 117, 118, 119, 120, 121] (by decide +kernel) (by decide +kernel)
set_option maxRecDepth 20000 in
theorem gX8_init_X3_init_n79 : GoodIn wsX8_init (wsX3_init) := ggX8_init_X3_init
theorem dX8_init_0 : decode cX8_init 0 = .ok (.aload_n 0, 1) := by decide +kernel
theorem dX8_init_1 : decode cX8_init 1 = .ok (.invokespecial 1, 3) := by decide +kernel
theorem dX8_init_4 : decode cX8_init 4 = .ok (.aload_n 0, 1) := by decide +kernel
theorem dX8_init_5 : decode cX8_init 5 = .ok (.new 7, 3) := by decide +kernel
theorem dX8_init_8 : decode cX8_init 8 = .ok (.dup, 1) := by decide +kernel
theorem dX8_init_9 : decode cX8_init 9 = .ok (.invokespecial 9, 3) := by decide +kernel
theorem dX8_init_12 : decode cX8_init 12 = .ok (.putfield 10, 3) := by decide +kernel
theorem dX8_init_15 : decode cX8_init 15 = .ok (.aload_n 0, 1) := by decide +kernel
theorem dX8_init_16 : decode cX8_init 16 = .ok (.new 16, 3) := by decide +kernel
theorem dX8_init_19 : decode cX8_init 19 = .ok (.dup, 1) := by decide +kernel
theorem dX8_init_20 : decode cX8_init 20 = .ok (.invokespecial 18, 3) := by decide +kernel
theorem dX8_init_23 : decode cX8_init 23 = .ok (.putfield 19, 3) := by decide +kernel
theorem dX8_init_26 : decode cX8_init 26 = .ok (.aload_n 0, 1) := by decide +kernel
theorem dX8_init_27 : decode cX8_init 27 = .ok (.new 23, 3) := by decide +kernel
theorem dX8_init_30 : decode cX8_init 30 = .ok (.dup, 1) := by decide +kernel
theorem dX8_init_31 : decode cX8_init 31 = .ok (.invokespecial 25, 3) := by decide +kernel
theorem dX8_init_34 : decode cX8_init 34 = .ok (.putfield 26, 3) := by decide +kernel
theorem dX8_init_37 : decode cX8_init 37 = .ok (.aload_n 0, 1) := by decide +kernel
theorem dX8_init_38 : decode cX8_init 38 = .ok (.new 7, 3) := by decide +kernel
theorem dX8_init_41 : decode cX8_init 41 = .ok (.dup, 1) := by decide +kernel
theorem dX8_init_42 : decode cX8_init 42 = .ok (.invokespecial 9, 3) := by decide +kernel
theorem dX8_init_45 : decode cX8_init 45 = .ok (.putfield 30, 3) := by decide +kernel
theorem dX8_init_48 : decode cX8_init 48 = .ok (.aload_n 0, 1) := by decide +kernel
theorem dX8_init_49 : decode cX8_init 49 = .ok (.new 16, 3) := by decide +kernel
theorem dX8_init_52 : decode cX8_init 52 = .ok (.dup, 1) := by decide +kernel
theorem dX8_init_53 : decode cX8_init 53 = .ok (.invokespecial 18, 3) := by decide +kernel
theorem dX8_init_56 : decode cX8_init 56 = .ok (.putfield 33, 3) := by decide +kernel
theorem dX8_init_59 : decode cX8_init 59 = .ok (.aload_n 0, 1) := by decide +kernel
theorem dX8_init_60 : decode cX8_init 60 = .ok (.iconst 0, 1) := by decide +kernel
theorem dX8_init_61 : decode cX8_init 61 = .ok (.putfield 36, 3) := by decide +kernel
theorem dX8_init_64 : decode cX8_init 64 = .ok (.aload_n 0, 1) := by decide +kernel
theorem dX8_init_65 : decode cX8_init 65 = .ok (.iconst 4, 1) := by decide +kernel
theorem dX8_init_66 : decode cX8_init 66 = .ok (.anewarray 40, 3) := by decide +kernel
theorem dX8_init_69 : decode cX8_init 69 = .ok (.putfield 42, 3) := by decide +kernel
theorem dX8_init_72 : decode cX8_init 72 = .ok (.aload_n 0, 1) := by decide +kernel
theorem dX8_init_73 : decode cX8_init 73 = .ok (.new 7, 3) := by decide +kernel
theorem dX8_init_76 : decode cX8_init 76 = .ok (.dup, 1) := by decide +kernel
theorem dX8_init_77 : decode cX8_init 77 = .ok (.invokespecial 9, 3) := by decide +kernel
theorem dX8_init_80 : decode cX8_init 80 = .ok (.putfield 46, 3) := by decide +kernel
theorem dX8_init_83 : decode cX8_init 83 = .ok (.aload_n 0, 1) := by decide +kernel
theorem dX8_init_84 : decode cX8_init 84 = .ok (.new 16, 3) := by decide +kernel
theorem dX8_init_87 : decode cX8_init 87 = .ok (.dup, 1) := by decide +kernel
theorem dX8_init_88 : decode cX8_init 88 = .ok (.invokespecial 18, 3) := by decide +kernel
theorem dX8_init_91 : decode cX8_init 91 = .ok (.putfield 49, 3) := by decide +kernel
theorem dX8_init_94 : decode cX8_init 94 = .ok (.aload_n 0, 1) := by decide +kernel
theorem dX8_init_95 : decode cX8_init 95 = .ok (.iconst 5, 1) := by decide +kernel
theorem dX8_init_96 : decode cX8_init 96 = .ok (.newarray .long, 2) := by decide +kernel
theorem dX8_init_98 : decode cX8_init 98 = .ok (.putfield 52, 3) := by decide +kernel
theorem dX8_init_101 : decode cX8_init 101 = .ok (.aload_n 0, 1) := by decide +kernel
theorem dX8_init_102 : decode cX8_init 102 = .ok (.new 56, 3) := by decide +kernel
theorem dX8_init_105 : decode cX8_init 105 = .ok (.dup, 1) := by decide +kernel
theorem dX8_init_106 : decode cX8_init 106 = .ok (.invokespecial 58, 3) := by decide +kernel
theorem dX8_init_109 : decode cX8_init 109 = .ok (.putfield 59, 3) := by decide +kernel
theorem dX8_init_112 : decode cX8_init 112 = .ok (.aload_n 0, 1) := by decide +kernel
theorem dX8_init_113 : decode cX8_init 113 = .ok (.new 63, 3) := by decide +kernel
theorem dX8_init_116 : decode cX8_init 116 = .ok (.dup, 1) := by decide +kernel
theorem dX8_init_117 : decode cX8_init 117 = .ok (.invokespecial 65, 3) := by decide +kernel
theorem dX8_init_120 : decode cX8_init 120 = .ok (.putfield 66, 3) := by decide +kernel
theorem dX8_init_123 : decode cX8_init 123 = .ok (.aload_n 0, 1) := by decide +kernel
theorem dX8_init_124 : decode cX8_init 124 = .ok (.new 70, 3) := by decide +kernel
theorem dX8_init_127 : decode cX8_init 127 = .ok (.dup, 1) := by decide +kernel
theorem dX8_init_128 : decode cX8_init 128 = .ok (.invokespecial 72, 3) := by decide +kernel
theorem dX8_init_131 : decode cX8_init 131 = .ok (.putfield 73, 3) := by decide +kernel
theorem dX8_init_134 : decode cX8_init 134 = .ok (.aload_n 0, 1) := by decide +kernel
theorem dX8_init_135 : decode cX8_init 135 = .ok (.new 77, 3) := by decide +kernel
theorem dX8_init_138 : decode cX8_init 138 = .ok (.dup, 1) := by decide +kernel
theorem dX8_init_139 : decode cX8_init 139 = .ok (.invokespecial 79, 3) := by decide +kernel
theorem dX8_init_142 : decode cX8_init 142 = .ok (.putfield 80, 3) := by decide +kernel
theorem dX8_init_145 : decode cX8_init 145 = .ok (.aload_n 0, 1) := by decide +kernel
theorem dX8_init_146 : decode cX8_init 146 = .ok (.bipush 9, 2) := by decide +kernel
theorem dX8_init_148 : decode cX8_init 148 = .ok (.putfield 84, 3) := by decide +kernel
theorem dX8_init_151 : decode cX8_init 151 = .ok (.aload_n 0, 1) := by decide +kernel
theorem dX8_init_152 : decode cX8_init 152 = .ok (.iconst 0, 1) := by decide +kernel
theorem dX8_init_153 : decode cX8_init 153 = .ok (.putfield 88, 3) := by decide +kernel
theorem dX8_init_156 : decode cX8_init 156 = .ok (.aload_n 0, 1) := by decide +kernel
theorem dX8_init_157 : decode cX8_init 157 = .ok (.iconst 0, 1) := by decide +kernel
theorem dX8_init_158 : decode cX8_init 158 = .ok (.putfield 91, 3) := by decide +kernel
theorem dX8_init_161 : decode cX8_init 161 = .ok (.return_, 1) := by decide +kernel
set_option maxRecDepth 20000 in
theorem ggX8_person_X8_isSum : GoodIn wsX8_person wsX8_isSum := goodIn_r _ [6] (by decide +kernel) (by decide +kernel)
set_option maxRecDepth 20000 in
theorem gX8_person_X8_isSum : GoodIn wsX8_person (va_wsS RX8 94 yX8_isSum wsX8_isSum) := goodIn_app (goodIn_of _ (by decide +kernel)) ggX8_person_X8_isSum
set_option maxRecDepth 20000 in
theorem ggX8_person_X8_forgetFound : GoodIn wsX8_person wsX8_forgetFound := goodIn_r _ [10, 11, 12, 13, 22, 23, 24, 25, 26, 27, 28, 29, 30, 31, 32, 33, 34, 35, 36, 37, 38] (by decide +kernel) (by decide +kernel)
set_option maxRecDepth 20000 in
theorem gX8_person_X8_forgetFound : GoodIn wsX8_person (wsV RX8 101 RX8 yX8_forgetFound wsX8_forgetFound) := goodIn_app (goodIn_of _ (by decide +kernel)) ggX8_person_X8_forgetFound
set_option maxRecDepth 20000 in
theorem ggX8_person_X0_add : GoodIn wsX8_person wsX0_add := goodIn_r _ [18, 19, 20, 21, 39, 40, 41, 42, 43] (by decide +kernel) (by decide +kernel)
set_option maxRecDepth 20000 in
theorem gX8_person_X0_add : GoodIn wsX8_person (wsV RX8 104 RX0 yX0_add wsX0_add) := goodIn_app (goodIn_of _ (by decide +kernel)) ggX8_person_X0_add
theorem dX8_person_0 : decode cX8_person 0 = .ok (.iload_n 1, 1) := by decide +kernel
theorem dX8_person_1 : decode cX8_person 1 = .ok (.ifCond .lt 15, 3) := by decide +kernel
theorem dX8_person_4 : decode cX8_person 4 = .ok (.iload_n 1, 1) := by decide +kernel
theorem dX8_person_5 : decode cX8_person 5 = .ok (.iconst 3, 1) := by decide +kernel
theorem dX8_person_6 : decode cX8_person 6 = .ok (.if_icmp .gt 10, 3) := by decide +kernel
theorem dX8_person_9 : decode cX8_person 9 = .ok (.iload_n 2, 1) := by decide +kernel
theorem dX8_person_10 : decode cX8_person 10 = .ok (.invokestatic 94, 3) := by decide +kernel
theorem dX8_person_13 : decode cX8_person 13 = .ok (.ifCond .ne 5, 3) := by decide +kernel
theorem dX8_person_16 : decode cX8_person 16 = .ok (.iconst (-1), 1) := by decide +kernel
theorem dX8_person_17 : decode cX8_person 17 = .ok (.ireturn, 1) := by decide +kernel
theorem dX8_person_18 : decode cX8_person 18 = .ok (.aload_n 0, 1) := by decide +kernel
theorem dX8_person_19 : decode cX8_person 19 = .ok (.getfield 10, 3) := by decide +kernel
theorem dX8_person_22 : decode cX8_person 22 = .ok (.getfield 98, 3) := by decide +kernel
theorem dX8_person_25 : decode cX8_person 25 = .ok (.iconst 5, 1) := by decide +kernel
theorem dX8_person_26 : decode cX8_person 26 = .ok (.if_icmp .lt 6, 3) := by decide +kernel
theorem dX8_person_29 : decode cX8_person 29 = .ok (.bipush (-3), 2) := by decide +kernel
theorem dX8_person_31 : decode cX8_person 31 = .ok (.ireturn, 1) := by decide +kernel
theorem dX8_person_32 : decode cX8_person 32 = .ok (.aload_n 0, 1) := by decide +kernel
theorem dX8_person_33 : decode cX8_person 33 = .ok (.invokevirtual 101, 3) := by decide +kernel
theorem dX8_person_36 : decode cX8_person 36 = .ok (.aload_n 0, 1) := by decide +kernel
theorem dX8_person_37 : decode cX8_person 37 = .ok (.getfield 10, 3) := by decide +kernel
theorem dX8_person_40 : decode cX8_person 40 = .ok (.iload_n 1, 1) := by decide +kernel
theorem dX8_person_41 : decode cX8_person 41 = .ok (.iload_n 2, 1) := by decide +kernel
theorem dX8_person_42 : decode cX8_person 42 = .ok (.invokevirtual 104, 3) := by decide +kernel
theorem dX8_person_45 : decode cX8_person 45 = .ok (.aload_n 0, 1) := by decide +kernel
theorem dX8_person_46 : decode cX8_person 46 = .ok (.getfield 10, 3) := by decide +kernel
theorem dX8_person_49 : decode cX8_person 49 = .ok (.getfield 98, 3) := by decide +kernel
theorem dX8_person_52 : decode cX8_person 52 = .ok (.iconst 1, 1) := by decide +kernel
theorem dX8_person_53 : decode cX8_person 53 = .ok (.isub, 1) := by decide +kernel
theorem dX8_person_54 : decode cX8_person 54 = .ok (.ireturn, 1) := by decide +kernel
set_option maxRecDepth 20000 in
theorem ggX8_set_X0_has : GoodIn wsX8_set wsX0_has := goodIn_r _ [7, 8, 37, 38, 39, 40, 41] (by decide +kernel) (by decide +kernel)
set_option maxRecDepth 20000 in
theorem gX8_set_X0_has : GoodIn wsX8_set (wsV RX8 108 RX0 yX0_has wsX0_has) := goodIn_app (goodIn_of _ (by decide +kernel)) ggX8_set_X0_has
set_option maxRecDepth 20000 in
theorem ggX8_set_X8_isSum : GoodIn wsX8_set wsX8_isSum := goodIn_r _ [12] (by decide +kernel) (by decide +kernel)
set_option maxRecDepth 20000 in
theorem gX8_set_X8_isSum : GoodIn wsX8_set (va_wsS RX8 94 yX8_isSum wsX8_isSum) := goodIn_app (goodIn_of _ (by decide +kernel)) ggX8_set_X8_isSum
set_option maxRecDepth 20000 in
theorem ggX8_set_X8_forgetFound : GoodIn wsX8_set wsX8_forgetFound := goodIn_r _ [16, 17, 18, 19, 20, 21, 22, 23, 24, 25, 26, 27, 28, 29, 30, 31, 32, 33, 34, 35, 36] (by decide +kernel) (by decide +kernel)
set_option maxRecDepth 20000 in
theorem gX8_set_X8_forgetFound : GoodIn wsX8_set (wsV RX8 101 RX8 yX8_forgetFound wsX8_forgetFound) := goodIn_app (goodIn_of _ (by decide +kernel)) ggX8_set_X8_forgetFound
theorem dX8_set_0 : decode cX8_set 0 = .ok (.aload_n 0, 1) := by decide +kernel
theorem dX8_set_1 : decode cX8_set 1 = .ok (.getfield 10, 3) := by decide +kernel
theorem dX8_set_4 : decode cX8_set 4 = .ok (.iload_n 1, 1) := by decide +kernel
theorem dX8_set_5 : decode cX8_set 5 = .ok (.invokevirtual 108, 3) := by decide +kernel
theorem dX8_set_8 : decode cX8_set 8 = .ok (.ifCond .eq 10, 3) := by decide +kernel
theorem dX8_set_11 : decode cX8_set 11 = .ok (.iload_n 2, 1) := by decide +kernel
theorem dX8_set_12 : decode cX8_set 12 = .ok (.invokestatic 94, 3) := by decide +kernel
theorem dX8_set_15 : decode cX8_set 15 = .ok (.ifCond .ne 5, 3) := by decide +kernel
theorem dX8_set_18 : decode cX8_set 18 = .ok (.iconst (-1), 1) := by decide +kernel
theorem dX8_set_19 : decode cX8_set 19 = .ok (.ireturn, 1) := by decide +kernel
theorem dX8_set_20 : decode cX8_set 20 = .ok (.aload_n 0, 1) := by decide +kernel
theorem dX8_set_21 : decode cX8_set 21 = .ok (.invokevirtual 101, 3) := by decide +kernel
theorem dX8_set_24 : decode cX8_set 24 = .ok (.aload_n 0, 1) := by decide +kernel
theorem dX8_set_25 : decode cX8_set 25 = .ok (.getfield 10, 3) := by decide +kernel
theorem dX8_set_28 : decode cX8_set 28 = .ok (.getfield 111, 3) := by decide +kernel
theorem dX8_set_31 : decode cX8_set 31 = .ok (.iload_n 1, 1) := by decide +kernel
theorem dX8_set_32 : decode cX8_set 32 = .ok (.iaload, 1) := by decide +kernel
theorem dX8_set_33 : decode cX8_set 33 = .ok (.istore_n 3, 1) := by decide +kernel
theorem dX8_set_34 : decode cX8_set 34 = .ok (.aload_n 0, 1) := by decide +kernel
theorem dX8_set_35 : decode cX8_set 35 = .ok (.getfield 10, 3) := by decide +kernel
theorem dX8_set_38 : decode cX8_set 38 = .ok (.getfield 111, 3) := by decide +kernel
theorem dX8_set_41 : decode cX8_set 41 = .ok (.iload_n 1, 1) := by decide +kernel
theorem dX8_set_42 : decode cX8_set 42 = .ok (.iload_n 2, 1) := by decide +kernel
theorem dX8_set_43 : decode cX8_set 43 = .ok (.iastore, 1) := by decide +kernel
theorem dX8_set_44 : decode cX8_set 44 = .ok (.iload_n 3, 1) := by decide +kernel
theorem dX8_set_45 : decode cX8_set 45 = .ok (.ireturn, 1) := by decide +kernel
set_option maxRecDepth 20000 in
theorem ggX8_told_X0_has : GoodIn wsX8_told wsX0_has := goodIn_r _ [10, 11, 39, 40, 41, 42, 43] (by decide +kernel) (by decide +kernel)
set_option maxRecDepth 20000 in
theorem gX8_told_X0_has : GoodIn wsX8_told (wsV RX8 108 RX0 yX0_has wsX0_has) := goodIn_app (goodIn_of _ (by decide +kernel)) ggX8_told_X0_has
theorem dX8_told_0 : decode cX8_told 0 = .ok (.aload_n 0, 1) := by decide +kernel
theorem dX8_told_1 : decode cX8_told 1 = .ok (.getfield 10, 3) := by decide +kernel
theorem dX8_told_4 : decode cX8_told 4 = .ok (.iload_n 1, 1) := by decide +kernel
theorem dX8_told_5 : decode cX8_told 5 = .ok (.invokevirtual 108, 3) := by decide +kernel
theorem dX8_told_8 : decode cX8_told 8 = .ok (.ifCond .ne 5, 3) := by decide +kernel
theorem dX8_told_11 : decode cX8_told 11 = .ok (.iconst (-1), 1) := by decide +kernel
theorem dX8_told_12 : decode cX8_told 12 = .ok (.ireturn, 1) := by decide +kernel
theorem dX8_told_13 : decode cX8_told 13 = .ok (.iload_n 2, 1) := by decide +kernel
theorem dX8_told_14 : decode cX8_told 14 = .ok (.tableswitch 95 0 4 #[34, 44, 54, 63, 79], 34) := by decide +kernel
theorem dX8_told_48 : decode cX8_told 48 = .ok (.aload_n 0, 1) := by decide +kernel
theorem dX8_told_49 : decode cX8_told 49 = .ok (.getfield 10, 3) := by decide +kernel
theorem dX8_told_52 : decode cX8_told 52 = .ok (.getfield 115, 3) := by decide +kernel
theorem dX8_told_55 : decode cX8_told 55 = .ok (.iload_n 1, 1) := by decide +kernel
theorem dX8_told_56 : decode cX8_told 56 = .ok (.iaload, 1) := by decide +kernel
theorem dX8_told_57 : decode cX8_told 57 = .ok (.ireturn, 1) := by decide +kernel
theorem dX8_told_58 : decode cX8_told 58 = .ok (.aload_n 0, 1) := by decide +kernel
theorem dX8_told_59 : decode cX8_told 59 = .ok (.getfield 10, 3) := by decide +kernel
theorem dX8_told_62 : decode cX8_told 62 = .ok (.getfield 111, 3) := by decide +kernel
theorem dX8_told_65 : decode cX8_told 65 = .ok (.iload_n 1, 1) := by decide +kernel

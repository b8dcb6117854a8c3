theorem dX0_init_0 : decode cX0_init 0 = .ok (.aload_n 0, 1) := by decide +kernel
theorem dX0_init_1 : decode cX0_init 1 = .ok (.invokespecial 3, 3) := by decide +kernel
theorem dX0_init_4 : decode cX0_init 4 = .ok (.aload_n 0, 1) := by decide +kernel
theorem dX0_init_5 : decode cX0_init 5 = .ok (.iconst 0, 1) := by decide +kernel
theorem dX0_init_6 : decode cX0_init 6 = .ok (.putfield 9, 3) := by decide +kernel
theorem dX0_init_9 : decode cX0_init 9 = .ok (.aload_n 0, 1) := by decide +kernel
theorem dX0_init_10 : decode cX0_init 10 = .ok (.ldc 15, 2) := by decide +kernel
theorem dX0_init_12 : decode cX0_init 12 = .ok (.putfield 16, 3) := by decide +kernel
theorem dX0_init_15 : decode cX0_init 15 = .ok (.aload_n 0, 1) := by decide +kernel
theorem dX0_init_16 : decode cX0_init 16 = .ok (.iconst 0, 1) := by decide +kernel
theorem dX0_init_17 : decode cX0_init 17 = .ok (.putfield 19, 3) := by decide +kernel
theorem dX0_init_20 : decode cX0_init 20 = .ok (.aload_n 0, 1) := by decide +kernel
theorem dX0_init_21 : decode cX0_init 21 = .ok (.iconst 5, 1) := by decide +kernel
theorem dX0_init_22 : decode cX0_init 22 = .ok (.newarray .int, 2) := by decide +kernel
theorem dX0_init_24 : decode cX0_init 24 = .ok (.putfield 22, 3) := by decide +kernel
theorem dX0_init_27 : decode cX0_init 27 = .ok (.aload_n 0, 1) := by decide +kernel
theorem dX0_init_28 : decode cX0_init 28 = .ok (.iconst 5, 1) := by decide +kernel
theorem dX0_init_29 : decode cX0_init 29 = .ok (.newarray .int, 2) := by decide +kernel
theorem dX0_init_31 : decode cX0_init 31 = .ok (.putfield 26, 3) := by decide +kernel
theorem dX0_init_34 : decode cX0_init 34 = .ok (.return_, 1) := by decide +kernel
set_option maxRecDepth 20000 in
theorem ggX0_newRow_X0_init : GoodIn wsX0_newRow wsX0_init := goodIn_r _ [10, 11, 12, 13, 14, 15, 16, 17, 18, 19, 20, 21, 22, 23, 24, 25] rfl (by decide +kernel)
set_option maxRecDepth 20000 in
theorem gX0_newRow_X0_init : GoodIn wsX0_newRow (wsX0_init) := ggX0_newRow_X0_init
theorem dX0_newRow_0 : decode cX0_newRow 0 = .ok (.iconst 0, 1) := by decide +kernel
theorem dX0_newRow_1 : decode cX0_newRow 1 = .ok (.iload_n 0, 1) := by decide +kernel
theorem dX0_newRow_2 : decode cX0_newRow 2 = .ok (.invokestatic 29, 3) := by decide +kernel
theorem dX0_newRow_5 : decode cX0_newRow 5 = .ok (.anewarray 10, 3) := by decide +kernel
theorem dX0_newRow_8 : decode cX0_newRow 8 = .ok (.astore_n 1, 1) := by decide +kernel
theorem dX0_newRow_9 : decode cX0_newRow 9 = .ok (.iconst 0, 1) := by decide +kernel
theorem dX0_newRow_10 : decode cX0_newRow 10 = .ok (.istore_n 2, 1) := by decide +kernel
theorem dX0_newRow_11 : decode cX0_newRow 11 = .ok (.iload_n 2, 1) := by decide +kernel
theorem dX0_newRow_12 : decode cX0_newRow 12 = .ok (.aload_n 1, 1) := by decide +kernel
theorem dX0_newRow_13 : decode cX0_newRow 13 = .ok (.arraylength, 1) := by decide +kernel
theorem dX0_newRow_14 : decode cX0_newRow 14 = .ok (.if_icmp .ge 19, 3) := by decide +kernel
theorem dX0_newRow_17 : decode cX0_newRow 17 = .ok (.aload_n 1, 1) := by decide +kernel
theorem dX0_newRow_18 : decode cX0_newRow 18 = .ok (.iload_n 2, 1) := by decide +kernel
theorem dX0_newRow_19 : decode cX0_newRow 19 = .ok (.new 10, 3) := by decide +kernel
theorem dX0_newRow_22 : decode cX0_newRow 22 = .ok (.dup, 1) := by decide +kernel
theorem dX0_newRow_23 : decode cX0_newRow 23 = .ok (.invokespecial 35, 3) := by decide +kernel
theorem dX0_newRow_26 : decode cX0_newRow 26 = .ok (.aastore, 1) := by decide +kernel
theorem dX0_newRow_27 : decode cX0_newRow 27 = .ok (.iinc 2 1, 3) := by decide +kernel
theorem dX0_newRow_30 : decode cX0_newRow 30 = .ok (.goto (-19), 3) := by decide +kernel
theorem dX0_newRow_33 : decode cX0_newRow 33 = .ok (.aload_n 1, 1) := by decide +kernel
theorem dX0_newRow_34 : decode cX0_newRow 34 = .ok (.areturn, 1) := by decide +kernel
theorem dX0_pair_0 : decode cX0_pair 0 = .ok (.iconst 1, 1) := by decide +kernel
theorem dX0_pair_1 : decode cX0_pair 1 = .ok (.iconst 5, 1) := by decide +kernel
theorem dX0_pair_2 : decode cX0_pair 2 = .ok (.iload_n 0, 1) := by decide +kernel
theorem dX0_pair_3 : decode cX0_pair 3 = .ok (.imul, 1) := by decide +kernel
theorem dX0_pair_4 : decode cX0_pair 4 = .ok (.iload_n 1, 1) := by decide +kernel
theorem dX0_pair_5 : decode cX0_pair 5 = .ok (.iadd, 1) := by decide +kernel
theorem dX0_pair_6 : decode cX0_pair 6 = .ok (.ishl, 1) := by decide +kernel
theorem dX0_pair_7 : decode cX0_pair 7 = .ok (.ireturn, 1) := by decide +kernel
theorem dX0_clear_0 : decode cX0_clear 0 = .ok (.aload_n 0, 1) := by decide +kernel
theorem dX0_clear_1 : decode cX0_clear 1 = .ok (.iconst 0, 1) := by decide +kernel
theorem dX0_clear_2 : decode cX0_clear 2 = .ok (.putfield 9, 3) := by decide +kernel
theorem dX0_clear_5 : decode cX0_clear 5 = .ok (.aload_n 0, 1) := by decide +kernel
theorem dX0_clear_6 : decode cX0_clear 6 = .ok (.ldc 15, 2) := by decide +kernel
theorem dX0_clear_8 : decode cX0_clear 8 = .ok (.putfield 16, 3) := by decide +kernel
theorem dX0_clear_11 : decode cX0_clear 11 = .ok (.aload_n 0, 1) := by decide +kernel
theorem dX0_clear_12 : decode cX0_clear 12 = .ok (.iconst 0, 1) := by decide +kernel
theorem dX0_clear_13 : decode cX0_clear 13 = .ok (.putfield 19, 3) := by decide +kernel
theorem dX0_clear_16 : decode cX0_clear 16 = .ok (.return_, 1) := by decide +kernel
theorem dX0_takeFrom_0 : decode cX0_takeFrom 0 = .ok (.aload_n 0, 1) := by decide +kernel
theorem dX0_takeFrom_1 : decode cX0_takeFrom 1 = .ok (.aload_n 1, 1) := by decide +kernel
theorem dX0_takeFrom_2 : decode cX0_takeFrom 2 = .ok (.getfield 9, 3) := by decide +kernel
theorem dX0_takeFrom_5 : decode cX0_takeFrom 5 = .ok (.putfield 9, 3) := by decide +kernel
theorem dX0_takeFrom_8 : decode cX0_takeFrom 8 = .ok (.aload_n 0, 1) := by decide +kernel
theorem dX0_takeFrom_9 : decode cX0_takeFrom 9 = .ok (.aload_n 1, 1) := by decide +kernel
theorem dX0_takeFrom_10 : decode cX0_takeFrom 10 = .ok (.getfield 16, 3) := by decide +kernel
theorem dX0_takeFrom_13 : decode cX0_takeFrom 13 = .ok (.putfield 16, 3) := by decide +kernel
theorem dX0_takeFrom_16 : decode cX0_takeFrom 16 = .ok (.aload_n 0, 1) := by decide +kernel
theorem dX0_takeFrom_17 : decode cX0_takeFrom 17 = .ok (.aload_n 1, 1) := by decide +kernel
theorem dX0_takeFrom_18 : decode cX0_takeFrom 18 = .ok (.getfield 19, 3) := by decide +kernel
theorem dX0_takeFrom_21 : decode cX0_takeFrom 21 = .ok (.putfield 19, 3) := by decide +kernel
theorem dX0_takeFrom_24 : decode cX0_takeFrom 24 = .ok (.aload_n 1, 1) := by decide +kernel
theorem dX0_takeFrom_25 : decode cX0_takeFrom 25 = .ok (.getfield 22, 3) := by decide +kernel
theorem dX0_takeFrom_28 : decode cX0_takeFrom 28 = .ok (.iconst 0, 1) := by decide +kernel
theorem dX0_takeFrom_29 : decode cX0_takeFrom 29 = .ok (.aload_n 0, 1) := by decide +kernel
theorem dX0_takeFrom_30 : decode cX0_takeFrom 30 = .ok (.getfield 22, 3) := by decide +kernel
theorem dX0_takeFrom_33 : decode cX0_takeFrom 33 = .ok (.iconst 0, 1) := by decide +kernel
theorem dX0_takeFrom_34 : decode cX0_takeFrom 34 = .ok (.iconst 5, 1) := by decide +kernel
theorem dX0_takeFrom_35 : decode cX0_takeFrom 35 = .ok (.invokestatic 36, 3) := by decide +kernel
theorem dX0_takeFrom_38 : decode cX0_takeFrom 38 = .ok (.aload_n 1, 1) := by decide +kernel
theorem dX0_takeFrom_39 : decode cX0_takeFrom 39 = .ok (.getfield 26, 3) := by decide +kernel
theorem dX0_takeFrom_42 : decode cX0_takeFrom 42 = .ok (.iconst 0, 1) := by decide +kernel
theorem dX0_takeFrom_43 : decode cX0_takeFrom 43 = .ok (.aload_n 0, 1) := by decide +kernel
theorem dX0_takeFrom_44 : decode cX0_takeFrom 44 = .ok (.getfield 26, 3) := by decide +kernel
theorem dX0_takeFrom_47 : decode cX0_takeFrom 47 = .ok (.iconst 0, 1) := by decide +kernel
theorem dX0_takeFrom_48 : decode cX0_takeFrom 48 = .ok (.iconst 5, 1) := by decide +kernel
theorem dX0_takeFrom_49 : decode cX0_takeFrom 49 = .ok (.invokestatic 36, 3) := by decide +kernel
theorem dX0_takeFrom_52 : decode cX0_takeFrom 52 = .ok (.return_, 1) := by decide +kernel
theorem dX0_add_0 : decode cX0_add 0 = .ok (.aload_n 0, 1) := by decide +kernel
theorem dX0_add_1 : decode cX0_add 1 = .ok (.getfield 9, 3) := by decide +kernel
theorem dX0_add_4 : decode cX0_add 4 = .ok (.iconst 5, 1) := by decide +kernel
theorem dX0_add_5 : decode cX0_add 5 = .ok (.if_icmp .ge 33, 3) := by decide +kernel
theorem dX0_add_8 : decode cX0_add 8 = .ok (.aload_n 0, 1) := by decide +kernel
theorem dX0_add_9 : decode cX0_add 9 = .ok (.getfield 22, 3) := by decide +kernel
theorem dX0_add_12 : decode cX0_add 12 = .ok (.aload_n 0, 1) := by decide +kernel
theorem dX0_add_13 : decode cX0_add 13 = .ok (.getfield 9, 3) := by decide +kernel
theorem dX0_add_16 : decode cX0_add 16 = .ok (.iload_n 1, 1) := by decide +kernel
theorem dX0_add_17 : decode cX0_add 17 = .ok (.iastore, 1) := by decide +kernel
theorem dX0_add_18 : decode cX0_add 18 = .ok (.aload_n 0, 1) := by decide +kernel
theorem dX0_add_19 : decode cX0_add 19 = .ok (.getfield 26, 3) := by decide +kernel
theorem dX0_add_22 : decode cX0_add 22 = .ok (.aload_n 0, 1) := by decide +kernel
theorem dX0_add_23 : decode cX0_add 23 = .ok (.getfield 9, 3) := by decide +kernel
theorem dX0_add_26 : decode cX0_add 26 = .ok (.iload_n 2, 1) := by decide +kernel
theorem dX0_add_27 : decode cX0_add 27 = .ok (.iastore, 1) := by decide +kernel
theorem dX0_add_28 : decode cX0_add 28 = .ok (.aload_n 0, 1) := by decide +kernel
theorem dX0_add_29 : decode cX0_add 29 = .ok (.dup, 1) := by decide +kernel
theorem dX0_add_30 : decode cX0_add 30 = .ok (.getfield 9, 3) := by decide +kernel
theorem dX0_add_33 : decode cX0_add 33 = .ok (.iconst 1, 1) := by decide +kernel
theorem dX0_add_34 : decode cX0_add 34 = .ok (.iadd, 1) := by decide +kernel
theorem dX0_add_35 : decode cX0_add 35 = .ok (.putfield 9, 3) := by decide +kernel
theorem dX0_add_38 : decode cX0_add 38 = .ok (.return_, 1) := by decide +kernel
theorem dX0_has_0 : decode cX0_has 0 = .ok (.iload_n 1, 1) := by decide +kernel
theorem dX0_has_1 : decode cX0_has 1 = .ok (.ifCond .lt 15, 3) := by decide +kernel
theorem dX0_has_4 : decode cX0_has 4 = .ok (.iload_n 1, 1) := by decide +kernel
theorem dX0_has_5 : decode cX0_has 5 = .ok (.aload_n 0, 1) := by decide +kernel
theorem dX0_has_6 : decode cX0_has 6 = .ok (.getfield 9, 3) := by decide +kernel
theorem dX0_has_9 : decode cX0_has 9 = .ok (.if_icmp .ge 7, 3) := by decide +kernel
theorem dX0_has_12 : decode cX0_has 12 = .ok (.iconst 1, 1) := by decide +kernel
theorem dX0_has_13 : decode cX0_has 13 = .ok (.goto 4, 3) := by decide +kernel
theorem dX0_has_16 : decode cX0_has 16 = .ok (.iconst 0, 1) := by decide +kernel
theorem dX0_has_17 : decode cX0_has 17 = .ok (.ireturn, 1) := by decide +kernel
set_option maxRecDepth 20000 in
theorem ggX0_isPair_X0_has : GoodIn wsX0_isPair wsX0_has := goodIn_r _ [5, 6, 7, 8, 9, 10, 11] rfl (by decide +kernel)
set_option maxRecDepth 20000 in
theorem gX0_isPair_X0_has : GoodIn wsX0_isPair (wsV RX0 42 RX0 yX0_has wsX0_has) := goodIn_app (goodIn_of _ (by decide +kernel)) ggX0_isPair_X0_has
theorem dX0_isPair_0 : decode cX0_isPair 0 = .ok (.aload_n 0, 1) := by decide +kernel
theorem dX0_isPair_1 : decode cX0_isPair 1 = .ok (.iload_n 1, 1) := by decide +kernel
theorem dX0_isPair_2 : decode cX0_isPair 2 = .ok (.invokevirtual 42, 3) := by decide +kernel
theorem dX0_isPair_5 : decode cX0_isPair 5 = .ok (.ifCond .eq 20, 3) := by decide +kernel
theorem dX0_isPair_8 : decode cX0_isPair 8 = .ok (.aload_n 0, 1) := by decide +kernel
theorem dX0_isPair_9 : decode cX0_isPair 9 = .ok (.iload_n 2, 1) := by decide +kernel
theorem dX0_isPair_10 : decode cX0_isPair 10 = .ok (.invokevirtual 42, 3) := by decide +kernel
theorem dX0_isPair_13 : decode cX0_isPair 13 = .ok (.ifCond .eq 12, 3) := by decide +kernel
theorem dX0_isPair_16 : decode cX0_isPair 16 = .ok (.iload_n 1, 1) := by decide +kernel
theorem dX0_isPair_17 : decode cX0_isPair 17 = .ok (.iload_n 2, 1) := by decide +kernel
theorem dX0_isPair_18 : decode cX0_isPair 18 = .ok (.if_icmp .eq 7, 3) := by decide +kernel
theorem dX0_isPair_21 : decode cX0_isPair 21 = .ok (.iconst 1, 1) := by decide +kernel
theorem dX0_isPair_22 : decode cX0_isPair 22 = .ok (.goto 4, 3) := by decide +kernel
theorem dX0_isPair_25 : decode cX0_isPair 25 = .ok (.iconst 0, 1) := by decide +kernel
theorem dX0_isPair_26 : decode cX0_isPair 26 = .ok (.ireturn, 1) := by decide +kernel
theorem dX0_others_0 : decode cX0_others 0 = .ok (.iload_n 1, 1) := by decide +kernel
theorem dX0_others_1 : decode cX0_others 1 = .ok (.iconst 5, 1) := by decide +kernel
theorem dX0_others_2 : decode cX0_others 2 = .ok (.iload_n 2, 1) := by decide +kernel
theorem dX0_others_3 : decode cX0_others 3 = .ok (.imul, 1) := by decide +kernel
theorem dX0_others_4 : decode cX0_others 4 = .ok (.ishr, 1) := by decide +kernel
theorem dX0_others_5 : decode cX0_others 5 = .ok (.iconst 1, 1) := by decide +kernel
theorem dX0_others_6 : decode cX0_others 6 = .ok (.aload_n 0, 1) := by decide +kernel
theorem dX0_others_7 : decode cX0_others 7 = .ok (.getfield 9, 3) := by decide +kernel
theorem dX0_others_10 : decode cX0_others 10 = .ok (.ishl, 1) := by decide +kernel
theorem dX0_others_11 : decode cX0_others 11 = .ok (.iconst 1, 1) := by decide +kernel
theorem dX0_others_12 : decode cX0_others 12 = .ok (.isub, 1) := by decide +kernel
theorem dX0_others_13 : decode cX0_others 13 = .ok (.iand, 1) := by decide +kernel
theorem dX0_others_14 : decode cX0_others 14 = .ok (.ireturn, 1) := by decide +kernel
set_option maxRecDepth 20000 in
theorem ggX0_askings_J6_bitCount_0f7a4 : GoodIn wsX0_askings wsJ6_bitCount_0f7a4 := goodIn_r _ [5, 6, 7, 8] rfl (by decide +kernel)
set_option maxRecDepth 20000 in
theorem gX0_askings_J6_bitCount_0f7a4 : GoodIn wsX0_askings (va_wsS RX0 46 yJ6_bitCount_0f7a4 wsJ6_bitCount_0f7a4) := goodIn_app (goodIn_of _ (by decide +kernel)) ggX0_askings_J6_bitCount_0f7a4
theorem dX0_askings_0 : decode cX0_askings 0 = .ok (.aload_n 0, 1) := by decide +kernel
theorem dX0_askings_1 : decode cX0_askings 1 = .ok (.getfield 19, 3) := by decide +kernel
theorem dX0_askings_4 : decode cX0_askings 4 = .ok (.invokestatic 46, 3) := by decide +kernel
theorem dX0_askings_7 : decode cX0_askings 7 = .ok (.ireturn, 1) := by decide +kernel
theorem dX0_penceOfAll_0 : decode cX0_penceOfAll 0 = .ok (.iconst 0, 1) := by decide +kernel
theorem dX0_penceOfAll_1 : decode cX0_penceOfAll 1 = .ok (.istore_n 1, 1) := by decide +kernel
theorem dX0_penceOfAll_2 : decode cX0_penceOfAll 2 = .ok (.iconst 0, 1) := by decide +kernel
theorem dX0_penceOfAll_3 : decode cX0_penceOfAll 3 = .ok (.istore_n 2, 1) := by decide +kernel
theorem dX0_penceOfAll_4 : decode cX0_penceOfAll 4 = .ok (.iload_n 2, 1) := by decide +kernel
theorem dX0_penceOfAll_5 : decode cX0_penceOfAll 5 = .ok (.aload_n 0, 1) := by decide +kernel
theorem dX0_penceOfAll_6 : decode cX0_penceOfAll 6 = .ok (.getfield 9, 3) := by decide +kernel
theorem dX0_penceOfAll_9 : decode cX0_penceOfAll 9 = .ok (.if_icmp .ge 18, 3) := by decide +kernel
theorem dX0_penceOfAll_12 : decode cX0_penceOfAll 12 = .ok (.iload_n 1, 1) := by decide +kernel
theorem dX0_penceOfAll_13 : decode cX0_penceOfAll 13 = .ok (.aload_n 0, 1) := by decide +kernel
theorem dX0_penceOfAll_14 : decode cX0_penceOfAll 14 = .ok (.getfield 26, 3) := by decide +kernel
theorem dX0_penceOfAll_17 : decode cX0_penceOfAll 17 = .ok (.iload_n 2, 1) := by decide +kernel
theorem dX0_penceOfAll_18 : decode cX0_penceOfAll 18 = .ok (.iaload, 1) := by decide +kernel
theorem dX0_penceOfAll_19 : decode cX0_penceOfAll 19 = .ok (.iadd, 1) := by decide +kernel
theorem dX0_penceOfAll_20 : decode cX0_penceOfAll 20 = .ok (.istore_n 1, 1) := by decide +kernel
theorem dX0_penceOfAll_21 : decode cX0_penceOfAll 21 = .ok (.iinc 2 1, 3) := by decide +kernel
theorem dX0_penceOfAll_24 : decode cX0_penceOfAll 24 = .ok (.goto (-20), 3) := by decide +kernel
theorem dX0_penceOfAll_27 : decode cX0_penceOfAll 27 = .ok (.iload_n 1, 1) := by decide +kernel
theorem dX0_penceOfAll_28 : decode cX0_penceOfAll 28 = .ok (.ireturn, 1) := by decide +kernel
theorem dX0_gives_0 : decode cX0_gives 0 = .ok (.aload_n 0, 1) := by decide +kernel
theorem dX0_gives_1 : decode cX0_gives 1 = .ok (.getfield 26, 3) := by decide +kernel
theorem dX0_gives_4 : decode cX0_gives 4 = .ok (.iload_n 1, 1) := by decide +kernel
theorem dX0_gives_5 : decode cX0_gives 5 = .ok (.iaload, 1) := by decide +kernel
theorem dX0_gives_6 : decode cX0_gives 6 = .ok (.istore_n 2, 1) := by decide +kernel
theorem dX0_gives_7 : decode cX0_gives 7 = .ok (.aload_n 0, 1) := by decide +kernel
theorem dX0_gives_8 : decode cX0_gives 8 = .ok (.getfield 22, 3) := by decide +kernel
theorem dX0_gives_11 : decode cX0_gives 11 = .ok (.iload_n 1, 1) := by decide +kernel
theorem dX0_gives_12 : decode cX0_gives 12 = .ok (.iaload, 1) := by decide +kernel
theorem dX0_gives_13 : decode cX0_gives 13 = .ok (.tableswitch 50 1 3 #[27, 31, 35], 27) := by decide +kernel
theorem dX0_gives_40 : decode cX0_gives 40 = .ok (.iload_n 2, 1) := by decide +kernel
theorem dX0_gives_41 : decode cX0_gives 41 = .ok (.iconst 2, 1) := by decide +kernel
theorem dX0_gives_42 : decode cX0_gives 42 = .ok (.idiv, 1) := by decide +kernel
theorem dX0_gives_43 : decode cX0_gives 43 = .ok (.ireturn, 1) := by decide +kernel
theorem dX0_gives_44 : decode cX0_gives 44 = .ok (.iload_n 2, 1) := by decide +kernel
theorem dX0_gives_45 : decode cX0_gives 45 = .ok (.iconst 3, 1) := by decide +kernel
theorem dX0_gives_46 : decode cX0_gives 46 = .ok (.idiv, 1) := by decide +kernel
theorem dX0_gives_47 : decode cX0_gives 47 = .ok (.ireturn, 1) := by decide +kernel
theorem dX0_gives_48 : decode cX0_gives 48 = .ok (.iload_n 2, 1) := by decide +kernel
theorem dX0_gives_49 : decode cX0_gives 49 = .ok (.bipush 9, 2) := by decide +kernel
theorem dX0_gives_51 : decode cX0_gives 51 = .ok (.if_icmp .le 10, 3) := by decide +kernel
theorem dX0_gives_54 : decode cX0_gives 54 = .ok (.iload_n 2, 1) := by decide +kernel
theorem dX0_gives_55 : decode cX0_gives 55 = .ok (.bipush 9, 2) := by decide +kernel
theorem dX0_gives_57 : decode cX0_gives 57 = .ok (.isub, 1) := by decide +kernel
theorem dX0_gives_58 : decode cX0_gives 58 = .ok (.goto 4, 3) := by decide +kernel
theorem dX0_gives_61 : decode cX0_gives 61 = .ok (.iconst 0, 1) := by decide +kernel
theorem dX0_gives_62 : decode cX0_gives 62 = .ok (.ireturn, 1) := by decide +kernel
theorem dX0_gives_63 : decode cX0_gives 63 = .ok (.iload_n 2, 1) := by decide +kernel
theorem dX0_gives_64 : decode cX0_gives 64 = .ok (.iload_n 2, 1) := by decide +kernel
theorem dX0_gives_65 : decode cX0_gives 65 = .ok (.iconst 2, 1) := by decide +kernel
theorem dX0_gives_66 : decode cX0_gives 66 = .ok (.idiv, 1) := by decide +kernel
theorem dX0_gives_67 : decode cX0_gives 67 = .ok (.isub, 1) := by decide +kernel
theorem dX0_gives_68 : decode cX0_gives 68 = .ok (.ireturn, 1) := by decide +kernel
set_option maxRecDepth 20000 in
theorem ggX0_tryAsking_X0_pair : GoodIn wsX0_tryAsking wsX0_pair := goodIn_r _ [7] rfl (by decide +kernel)
set_option maxRecDepth 20000 in
theorem gX0_tryAsking_X0_pair : GoodIn wsX0_tryAsking (va_wsS RX0 52 yX0_pair wsX0_pair) := goodIn_app (goodIn_of _ (by decide +kernel)) ggX0_tryAsking_X0_pair
set_option maxRecDepth 20000 in
theorem ggX0_tryAsking_X0_gives : GoodIn wsX0_tryAsking wsX0_gives := goodIn_r _ [11, 3, 12, 13, 14, 15, 16, 17] rfl (by decide +kernel)
set_option maxRecDepth 20000 in
theorem gX0_tryAsking_X0_gives : GoodIn wsX0_tryAsking (wsV RX0 55 RX0 yX0_gives wsX0_gives) := goodIn_app (goodIn_of _ (by decide +kernel)) ggX0_tryAsking_X0_gives
theorem dX0_tryAsking_0 : decode cX0_tryAsking 0 = .ok (.iload_n 1, 1) := by decide +kernel
theorem dX0_tryAsking_1 : decode cX0_tryAsking 1 = .ok (.iload_n 2, 1) := by decide +kernel
theorem dX0_tryAsking_2 : decode cX0_tryAsking 2 = .ok (.invokestatic 52, 3) := by decide +kernel
theorem dX0_tryAsking_5 : decode cX0_tryAsking 5 = .ok (.istore_n 3, 1) := by decide +kernel
theorem dX0_tryAsking_6 : decode cX0_tryAsking 6 = .ok (.aload_n 0, 1) := by decide +kernel
theorem dX0_tryAsking_7 : decode cX0_tryAsking 7 = .ok (.getfield 16, 3) := by decide +kernel
theorem dX0_tryAsking_10 : decode cX0_tryAsking 10 = .ok (.iload_n 3, 1) := by decide +kernel
theorem dX0_tryAsking_11 : decode cX0_tryAsking 11 = .ok (.iand, 1) := by decide +kernel
theorem dX0_tryAsking_12 : decode cX0_tryAsking 12 = .ok (.ifCond .eq 21, 3) := by decide +kernel
theorem dX0_tryAsking_15 : decode cX0_tryAsking 15 = .ok (.aload_n 0, 1) := by decide +kernel
theorem dX0_tryAsking_16 : decode cX0_tryAsking 16 = .ok (.getfield 19, 3) := by decide +kernel
theorem dX0_tryAsking_19 : decode cX0_tryAsking 19 = .ok (.iload_n 3, 1) := by decide +kernel
theorem dX0_tryAsking_20 : decode cX0_tryAsking 20 = .ok (.iand, 1) := by decide +kernel
theorem dX0_tryAsking_21 : decode cX0_tryAsking 21 = .ok (.ifCond .ne 12, 3) := by decide +kernel
theorem dX0_tryAsking_24 : decode cX0_tryAsking 24 = .ok (.aload_n 0, 1) := by decide +kernel
theorem dX0_tryAsking_25 : decode cX0_tryAsking 25 = .ok (.getfield 26, 3) := by decide +kernel
theorem dX0_tryAsking_28 : decode cX0_tryAsking 28 = .ok (.iload_n 2, 1) := by decide +kernel
theorem dX0_tryAsking_29 : decode cX0_tryAsking 29 = .ok (.iaload, 1) := by decide +kernel
theorem dX0_tryAsking_30 : decode cX0_tryAsking 30 = .ok (.ifCond .gt 6, 3) := by decide +kernel
theorem dX0_tryAsking_33 : decode cX0_tryAsking 33 = .ok (.bipush (-2), 2) := by decide +kernel
theorem dX0_tryAsking_35 : decode cX0_tryAsking 35 = .ok (.ireturn, 1) := by decide +kernel
theorem dX0_tryAsking_36 : decode cX0_tryAsking 36 = .ok (.aload_n 0, 1) := by decide +kernel
theorem dX0_tryAsking_37 : decode cX0_tryAsking 37 = .ok (.iload_n 2, 1) := by decide +kernel
theorem dX0_tryAsking_38 : decode cX0_tryAsking 38 = .ok (.invokevirtual 55, 3) := by decide +kernel
theorem dX0_tryAsking_41 : decode cX0_tryAsking 41 = .ok (.istore 4, 2) := by decide +kernel
theorem dX0_tryAsking_43 : decode cX0_tryAsking 43 = .ok (.aload_n 0, 1) := by decide +kernel
theorem dX0_tryAsking_44 : decode cX0_tryAsking 44 = .ok (.getfield 26, 3) := by decide +kernel
theorem dX0_tryAsking_47 : decode cX0_tryAsking 47 = .ok (.iload_n 2, 1) := by decide +kernel
theorem dX0_tryAsking_48 : decode cX0_tryAsking 48 = .ok (.dup2, 1) := by decide +kernel
theorem dX0_tryAsking_49 : decode cX0_tryAsking 49 = .ok (.iaload, 1) := by decide +kernel
theorem dX0_tryAsking_50 : decode cX0_tryAsking 50 = .ok (.iload 4, 2) := by decide +kernel
theorem dX0_tryAsking_52 : decode cX0_tryAsking 52 = .ok (.isub, 1) := by decide +kernel
theorem dX0_tryAsking_53 : decode cX0_tryAsking 53 = .ok (.iastore, 1) := by decide +kernel
theorem dX0_tryAsking_54 : decode cX0_tryAsking 54 = .ok (.aload_n 0, 1) := by decide +kernel
theorem dX0_tryAsking_55 : decode cX0_tryAsking 55 = .ok (.getfield 26, 3) := by decide +kernel
theorem dX0_tryAsking_58 : decode cX0_tryAsking 58 = .ok (.iload_n 1, 1) := by decide +kernel
theorem dX0_tryAsking_59 : decode cX0_tryAsking 59 = .ok (.dup2, 1) := by decide +kernel
theorem dX0_tryAsking_60 : decode cX0_tryAsking 60 = .ok (.iaload, 1) := by decide +kernel
theorem dX0_tryAsking_61 : decode cX0_tryAsking 61 = .ok (.iload 4, 2) := by decide +kernel
theorem dX0_tryAsking_63 : decode cX0_tryAsking 63 = .ok (.iadd, 1) := by decide +kernel
theorem dX0_tryAsking_64 : decode cX0_tryAsking 64 = .ok (.iastore, 1) := by decide +kernel
theorem dX0_tryAsking_65 : decode cX0_tryAsking 65 = .ok (.aload_n 0, 1) := by decide +kernel
theorem dX0_tryAsking_66 : decode cX0_tryAsking 66 = .ok (.dup, 1) := by decide +kernel
theorem dX0_tryAsking_67 : decode cX0_tryAsking 67 = .ok (.getfield 19, 3) := by decide +kernel
theorem dX0_tryAsking_70 : decode cX0_tryAsking 70 = .ok (.iload_n 3, 1) := by decide +kernel
theorem dX0_tryAsking_71 : decode cX0_tryAsking 71 = .ok (.ior, 1) := by decide +kernel
theorem dX0_tryAsking_72 : decode cX0_tryAsking 72 = .ok (.putfield 19, 3) := by decide +kernel
theorem dX0_tryAsking_75 : decode cX0_tryAsking 75 = .ok (.iload 4, 2) := by decide +kernel
theorem dX0_tryAsking_77 : decode cX0_tryAsking 77 = .ok (.ireturn, 1) := by decide +kernel
set_option maxRecDepth 20000 in
theorem ggX1_init_X2_init : GoodIn wsX1_init wsX2_init := goodIn_r _ [17, 18, 2, 3, 19, 20, 6, 21, 22, 51, 52, 53, 54] rfl (by decide +kernel)
set_option maxRecDepth 20000 in
theorem gX1_init_X2_init_n33 : GoodIn wsX1_init (wsX2_init) := ggX1_init_X2_init
set_option maxRecDepth 20000 in
theorem ggX1_init_X0_newRow : GoodIn wsX1_init wsX0_newRow := goodIn_r _ [26, 27, 28, 29, 30, 31, 32, 25, 33, 34, 35, 36, 2, 3, 37, 38, 39, 40, 6, 41, 42, 55, 56, 57, 58, 59] rfl (by decide +kernel)
set_option maxRecDepth 20000 in
theorem gX1_init_X0_newRow : GoodIn wsX1_init (va_wsS RX1 38 yX0_newRow wsX0_newRow) := goodIn_app (goodIn_of _ (by decide +kernel)) ggX1_init_X0_newRow
theorem dX1_init_0 : decode cX1_init 0 = .ok (.aload_n 0, 1) := by decide +kernel
theorem dX1_init_1 : decode cX1_init 1 = .ok (.invokespecial 3, 3) := by decide +kernel
theorem dX1_init_4 : decode cX1_init 4 = .ok (.aload_n 0, 1) := by decide +kernel
theorem dX1_init_5 : decode cX1_init 5 = .ok (.iconst (-1), 1) := by decide +kernel
theorem dX1_init_6 : decode cX1_init 6 = .ok (.putfield 9, 3) := by decide +kernel
theorem dX1_init_9 : decode cX1_init 9 = .ok (.aload_n 0, 1) := by decide +kernel
theorem dX1_init_10 : decode cX1_init 10 = .ok (.iconst 0, 1) := by decide +kernel
theorem dX1_init_11 : decode cX1_init 11 = .ok (.putfield 15, 3) := by decide +kernel
theorem dX1_init_14 : decode cX1_init 14 = .ok (.aload_n 0, 1) := by decide +kernel
theorem dX1_init_15 : decode cX1_init 15 = .ok (.bipush 6, 2) := by decide +kernel
theorem dX1_init_17 : decode cX1_init 17 = .ok (.newarray .int, 2) := by decide +kernel
theorem dX1_init_19 : decode cX1_init 19 = .ok (.putfield 18, 3) := by decide +kernel
theorem dX1_init_22 : decode cX1_init 22 = .ok (.aload_n 0, 1) := by decide +kernel
theorem dX1_init_23 : decode cX1_init 23 = .ok (.bipush 6, 2) := by decide +kernel
theorem dX1_init_25 : decode cX1_init 25 = .ok (.newarray .int, 2) := by decide +kernel
theorem dX1_init_27 : decode cX1_init 27 = .ok (.putfield 22, 3) := by decide +kernel
theorem dX1_init_30 : decode cX1_init 30 = .ok (.aload_n 0, 1) := by decide +kernel
theorem dX1_init_31 : decode cX1_init 31 = .ok (.iconst 0, 1) := by decide +kernel
theorem dX1_init_32 : decode cX1_init 32 = .ok (.putfield 25, 3) := by decide +kernel
theorem dX1_init_35 : decode cX1_init 35 = .ok (.aload_n 0, 1) := by decide +kernel
theorem dX1_init_36 : decode cX1_init 36 = .ok (.iconst 0, 1) := by decide +kernel
theorem dX1_init_37 : decode cX1_init 37 = .ok (.putfield 28, 3) := by decide +kernel
theorem dX1_init_40 : decode cX1_init 40 = .ok (.aload_n 0, 1) := by decide +kernel
theorem dX1_init_41 : decode cX1_init 41 = .ok (.new 31, 3) := by decide +kernel
theorem dX1_init_44 : decode cX1_init 44 = .ok (.dup, 1) := by decide +kernel
theorem dX1_init_45 : decode cX1_init 45 = .ok (.invokespecial 33, 3) := by decide +kernel
theorem dX1_init_48 : decode cX1_init 48 = .ok (.putfield 34, 3) := by decide +kernel
theorem dX1_init_51 : decode cX1_init 51 = .ok (.aload_n 0, 1) := by decide +kernel
theorem dX1_init_52 : decode cX1_init 52 = .ok (.bipush 7, 2) := by decide +kernel
theorem dX1_init_54 : decode cX1_init 54 = .ok (.invokestatic 38, 3) := by decide +kernel
theorem dX1_init_57 : decode cX1_init 57 = .ok (.putfield 44, 3) := by decide +kernel
theorem dX1_init_60 : decode cX1_init 60 = .ok (.return_, 1) := by decide +kernel
set_option maxRecDepth 20000 in
theorem ggX1_search_X2_takeFrom : GoodIn wsX1_search wsX2_takeFrom := goodIn_r _ [11, 12, 13, 14, 15, 16, 17, 18, 19, 74, 75, 76, 77] rfl (by decide +kernel)
set_option maxRecDepth 20000 in
theorem gX1_search_X2_takeFrom : GoodIn wsX1_search (wsV RX1 48 RX2 yX2_takeFrom wsX2_takeFrom) := goodIn_app (goodIn_of _ (by decide +kernel)) ggX1_search_X2_takeFrom
set_option maxRecDepth 20000 in
theorem ggX1_search_X0_takeFrom : GoodIn wsX1_search wsX0_takeFrom := goodIn_r _ [24, 25, 26, 27, 28, 29, 16, 17, 18, 30, 78, 79, 80, 81, 82] rfl (by decide +kernel)
set_option maxRecDepth 20000 in
theorem gX1_search_X0_takeFrom : GoodIn wsX1_search (wsV RX1 52 RX0 yX0_takeFrom wsX0_takeFrom) := goodIn_app (goodIn_of _ (by decide +kernel)) ggX1_search_X0_takeFrom
set_option maxRecDepth 20000 in
theorem ggX1_search_X1_extend : GoodIn wsX1_search wsX1_extend := goodIn_r _ [35, 1, 36, 6, 37, 38, 39, 40, 41, 42, 34, 43, 44, 45, 46, 47, 48, 49, 50, 51, 52, 2, 3, 5, 4, 53, 54, 16, 17, 18, 20, 21, 22, 23, 24, 25, 26, 27, 28, 29, 30, 55, 56, 57, 58, 59, 60, 61, 62, 63, 64, 65, 31, 32, 33, 66, 67, 68, 69, 70, 71, 72, 73, 74, 75, 76, 77, 78, 79, 80, 81, 82] rfl (by decide +kernel)
set_option maxRecDepth 20000 in
theorem gX1_search_X1_extend : GoodIn wsX1_search (wsV RX1 55 RX1 yX1_extend wsX1_extend) := goodIn_app (goodIn_of _ (by decide +kernel)) ggX1_search_X1_extend
theorem dX1_search_0 : decode cX1_search 0 = .ok (.aload_n 0, 1) := by decide +kernel
theorem dX1_search_1 : decode cX1_search 1 = .ok (.getfield 34, 3) := by decide +kernel
theorem dX1_search_4 : decode cX1_search 4 = .ok (.aload_n 2, 1) := by decide +kernel
theorem dX1_search_5 : decode cX1_search 5 = .ok (.invokevirtual 48, 3) := by decide +kernel
theorem dX1_search_8 : decode cX1_search 8 = .ok (.aload_n 0, 1) := by decide +kernel
theorem dX1_search_9 : decode cX1_search 9 = .ok (.iload_n 3, 1) := by decide +kernel
theorem dX1_search_10 : decode cX1_search 10 = .ok (.putfield 25, 3) := by decide +kernel
theorem dX1_search_13 : decode cX1_search 13 = .ok (.aload_n 0, 1) := by decide +kernel
theorem dX1_search_14 : decode cX1_search 14 = .ok (.iload 4, 2) := by decide +kernel
theorem dX1_search_16 : decode cX1_search 16 = .ok (.putfield 28, 3) := by decide +kernel
theorem dX1_search_19 : decode cX1_search 19 = .ok (.aload_n 0, 1) := by decide +kernel
theorem dX1_search_20 : decode cX1_search 20 = .ok (.iconst (-1), 1) := by decide +kernel
theorem dX1_search_21 : decode cX1_search 21 = .ok (.putfield 9, 3) := by decide +kernel
theorem dX1_search_24 : decode cX1_search 24 = .ok (.aload_n 0, 1) := by decide +kernel
theorem dX1_search_25 : decode cX1_search 25 = .ok (.iconst 0, 1) := by decide +kernel
theorem dX1_search_26 : decode cX1_search 26 = .ok (.putfield 15, 3) := by decide +kernel
theorem dX1_search_29 : decode cX1_search 29 = .ok (.aload_n 0, 1) := by decide +kernel
theorem dX1_search_30 : decode cX1_search 30 = .ok (.getfield 44, 3) := by decide +kernel
theorem dX1_search_33 : decode cX1_search 33 = .ok (.iconst 0, 1) := by decide +kernel
theorem dX1_search_34 : decode cX1_search 34 = .ok (.aaload, 1) := by decide +kernel
theorem dX1_search_35 : decode cX1_search 35 = .ok (.aload_n 1, 1) := by decide +kernel
theorem dX1_search_36 : decode cX1_search 36 = .ok (.invokevirtual 52, 3) := by decide +kernel
theorem dX1_search_39 : decode cX1_search 39 = .ok (.aload_n 0, 1) := by decide +kernel
theorem dX1_search_40 : decode cX1_search 40 = .ok (.iconst 0, 1) := by decide +kernel
theorem dX1_search_41 : decode cX1_search 41 = .ok (.iconst 0, 1) := by decide +kernel
theorem dX1_search_42 : decode cX1_search 42 = .ok (.invokevirtual 55, 3) := by decide +kernel
theorem dX1_search_45 : decode cX1_search 45 = .ok (.return_, 1) := by decide +kernel
set_option maxRecDepth 20000 in
theorem ggX1_extend_X1_weigh : GoodIn wsX1_extend wsX1_weigh := goodIn_r _ [11, 12, 13, 14, 15, 16, 17, 18, 19, 20, 21, 22, 23, 24, 4, 25, 26, 27, 28, 29, 67, 68, 69, 70, 71, 55, 56, 57, 58, 59, 60, 61, 62] rfl (by decide +kernel)
set_option maxRecDepth 20000 in
theorem gX1_extend_X1_weigh : GoodIn wsX1_extend (wsV RX1 62 RX1 yX1_weigh wsX1_weigh) := goodIn_app (goodIn_of _ (by decide +kernel)) ggX1_extend_X1_weigh
set_option maxRecDepth 20000 in
theorem ggX1_extend_X0_takeFrom : GoodIn wsX1_extend wsX0_takeFrom := goodIn_r _ [34, 35, 36, 37, 38, 39, 27, 28, 29, 40, 67, 68, 69, 70, 71] rfl (by decide +kernel)
set_option maxRecDepth 20000 in
theorem gX1_extend_X0_takeFrom : GoodIn wsX1_extend (wsV RX1 52 RX0 yX0_takeFrom wsX0_takeFrom) := goodIn_app (goodIn_of _ (by decide +kernel)) ggX1_extend_X0_takeFrom
set_option maxRecDepth 20000 in
theorem ggX1_extend_X0_tryAsking : GoodIn wsX1_extend wsX0_tryAsking := goodIn_r _ [44, 36, 37, 40, 45, 46, 33, 47, 48, 49, 50, 51, 38, 67, 68, 69, 70, 71] rfl (by decide +kernel)
set_option maxRecDepth 20000 in
theorem gX1_extend_X0_tryAsking : GoodIn wsX1_extend (wsV RX1 71 RX0 yX0_tryAsking wsX0_tryAsking) := goodIn_app (goodIn_of _ (by decide +kernel)) ggX1_extend_X0_tryAsking
set_option maxRecDepth 20000 in
theorem ggX1_extend_X1_extend : GoodIn wsX1_extend wsX1_extend := goodIn_r _ [0, 1, 2, 3, 4, 5, 6, 7, 8, 9, 10, 11, 12, 13, 14, 15, 16, 17, 18, 19, 20, 21, 22, 23, 24, 25, 26, 27, 28, 29, 30, 31, 32, 33, 34, 35, 36, 37, 38, 39, 40, 41, 42, 43, 44, 45, 46, 47, 48, 49, 50, 51, 52, 53, 54, 55, 56, 57, 58, 59, 60, 61, 62, 63, 64, 65, 66, 67, 68, 69, 70, 71] rfl (by decide +kernel)
set_option maxRecDepth 20000 in
theorem gX1_extend_X1_extend : GoodIn wsX1_extend (wsV RX1 55 RX1 yX1_extend wsX1_extend) := goodIn_app (goodIn_of _ (by decide +kernel)) ggX1_extend_X1_extend
theorem dX1_extend_0 : decode cX1_extend 0 = .ok (.iload_n 1, 1) := by decide +kernel
theorem dX1_extend_1 : decode cX1_extend 1 = .ok (.aload_n 0, 1) := by decide +kernel
theorem dX1_extend_2 : decode cX1_extend 2 = .ok (.getfield 34, 3) := by decide +kernel
theorem dX1_extend_5 : decode cX1_extend 5 = .ok (.getfield 59, 3) := by decide +kernel
theorem dX1_extend_8 : decode cX1_extend 8 = .ok (.if_icmp .ge 9, 3) := by decide +kernel
theorem dX1_extend_11 : decode cX1_extend 11 = .ok (.iload_n 1, 1) := by decide +kernel
theorem dX1_extend_12 : decode cX1_extend 12 = .ok (.bipush 6, 2) := by decide +kernel
theorem dX1_extend_14 : decode cX1_extend 14 = .ok (.if_icmp .lt 14, 3) := by decide +kernel
theorem dX1_extend_17 : decode cX1_extend 17 = .ok (.aload_n 0, 1) := by decide +kernel
theorem dX1_extend_18 : decode cX1_extend 18 = .ok (.aload_n 0, 1) := by decide +kernel
theorem dX1_extend_19 : decode cX1_extend 19 = .ok (.getfield 44, 3) := by decide +kernel
theorem dX1_extend_22 : decode cX1_extend 22 = .ok (.iload_n 1, 1) := by decide +kernel
theorem dX1_extend_23 : decode cX1_extend 23 = .ok (.aaload, 1) := by decide +kernel
theorem dX1_extend_24 : decode cX1_extend 24 = .ok (.invokevirtual 62, 3) := by decide +kernel
theorem dX1_extend_27 : decode cX1_extend 27 = .ok (.return_, 1) := by decide +kernel
theorem dX1_extend_28 : decode cX1_extend 28 = .ok (.aload_n 0, 1) := by decide +kernel
theorem dX1_extend_29 : decode cX1_extend 29 = .ok (.getfield 44, 3) := by decide +kernel
theorem dX1_extend_32 : decode cX1_extend 32 = .ok (.iload_n 1, 1) := by decide +kernel
theorem dX1_extend_33 : decode cX1_extend 33 = .ok (.iconst 1, 1) := by decide +kernel
theorem dX1_extend_34 : decode cX1_extend 34 = .ok (.iadd, 1) := by decide +kernel
theorem dX1_extend_35 : decode cX1_extend 35 = .ok (.aaload, 1) := by decide +kernel
theorem dX1_extend_36 : decode cX1_extend 36 = .ok (.astore_n 3, 1) := by decide +kernel
theorem dX1_extend_37 : decode cX1_extend 37 = .ok (.iconst 0, 1) := by decide +kernel
theorem dX1_extend_38 : decode cX1_extend 38 = .ok (.istore 4, 2) := by decide +kernel
theorem dX1_extend_40 : decode cX1_extend 40 = .ok (.iload 4, 2) := by decide +kernel
theorem dX1_extend_42 : decode cX1_extend 42 = .ok (.aload_n 0, 1) := by decide +kernel
theorem dX1_extend_43 : decode cX1_extend 43 = .ok (.getfield 34, 3) := by decide +kernel
theorem dX1_extend_46 : decode cX1_extend 46 = .ok (.getfield 59, 3) := by decide +kernel
theorem dX1_extend_49 : decode cX1_extend 49 = .ok (.if_icmp .ge 74, 3) := by decide +kernel
theorem dX1_extend_52 : decode cX1_extend 52 = .ok (.iload_n 2, 1) := by decide +kernel
theorem dX1_extend_53 : decode cX1_extend 53 = .ok (.iconst 1, 1) := by decide +kernel
theorem dX1_extend_54 : decode cX1_extend 54 = .ok (.iload 4, 2) := by decide +kernel
theorem dX1_extend_56 : decode cX1_extend 56 = .ok (.ishl, 1) := by decide +kernel
theorem dX1_extend_57 : decode cX1_extend 57 = .ok (.iand, 1) := by decide +kernel
theorem dX1_extend_58 : decode cX1_extend 58 = .ok (.ifCond .ne 59, 3) := by decide +kernel
theorem dX1_extend_61 : decode cX1_extend 61 = .ok (.aload_n 0, 1) := by decide +kernel
theorem dX1_extend_62 : decode cX1_extend 62 = .ok (.getfield 22, 3) := by decide +kernel
theorem dX1_extend_65 : decode cX1_extend 65 = .ok (.iload_n 1, 1) := by decide +kernel
theorem dX1_extend_66 : decode cX1_extend 66 = .ok (.iload 4, 2) := by decide +kernel
theorem dX1_extend_68 : decode cX1_extend 68 = .ok (.iastore, 1) := by decide +kernel
theorem dX1_extend_69 : decode cX1_extend 69 = .ok (.aload_n 3, 1) := by decide +kernel
theorem dX1_extend_70 : decode cX1_extend 70 = .ok (.aload_n 0, 1) := by decide +kernel
theorem dX1_extend_71 : decode cX1_extend 71 = .ok (.getfield 44, 3) := by decide +kernel
theorem dX1_extend_74 : decode cX1_extend 74 = .ok (.iload_n 1, 1) := by decide +kernel
theorem dX1_extend_75 : decode cX1_extend 75 = .ok (.aaload, 1) := by decide +kernel
theorem dX1_extend_76 : decode cX1_extend 76 = .ok (.invokevirtual 52, 3) := by decide +kernel
theorem dX1_extend_79 : decode cX1_extend 79 = .ok (.aload_n 3, 1) := by decide +kernel
theorem dX1_extend_80 : decode cX1_extend 80 = .ok (.aload_n 0, 1) := by decide +kernel
theorem dX1_extend_81 : decode cX1_extend 81 = .ok (.getfield 34, 3) := by decide +kernel
theorem dX1_extend_84 : decode cX1_extend 84 = .ok (.getfield 65, 3) := by decide +kernel
theorem dX1_extend_87 : decode cX1_extend 87 = .ok (.iload 4, 2) := by decide +kernel
theorem dX1_extend_89 : decode cX1_extend 89 = .ok (.iaload, 1) := by decide +kernel
theorem dX1_extend_90 : decode cX1_extend 90 = .ok (.aload_n 0, 1) := by decide +kernel
theorem dX1_extend_91 : decode cX1_extend 91 = .ok (.getfield 34, 3) := by decide +kernel
theorem dX1_extend_94 : decode cX1_extend 94 = .ok (.getfield 68, 3) := by decide +kernel
theorem dX1_extend_97 : decode cX1_extend 97 = .ok (.iload 4, 2) := by decide +kernel
theorem dX1_extend_99 : decode cX1_extend 99 = .ok (.iaload, 1) := by decide +kernel
theorem dX1_extend_100 : decode cX1_extend 100 = .ok (.invokevirtual 71, 3) := by decide +kernel
theorem dX1_extend_103 : decode cX1_extend 103 = .ok (.pop, 1) := by decide +kernel
theorem dX1_extend_104 : decode cX1_extend 104 = .ok (.aload_n 0, 1) := by decide +kernel
theorem dX1_extend_105 : decode cX1_extend 105 = .ok (.iload_n 1, 1) := by decide +kernel
theorem dX1_extend_106 : decode cX1_extend 106 = .ok (.iconst 1, 1) := by decide +kernel
theorem dX1_extend_107 : decode cX1_extend 107 = .ok (.iadd, 1) := by decide +kernel
theorem dX1_extend_108 : decode cX1_extend 108 = .ok (.iload_n 2, 1) := by decide +kernel
theorem dX1_extend_109 : decode cX1_extend 109 = .ok (.iconst 1, 1) := by decide +kernel
theorem dX1_extend_110 : decode cX1_extend 110 = .ok (.iload 4, 2) := by decide +kernel
theorem dX1_extend_112 : decode cX1_extend 112 = .ok (.ishl, 1) := by decide +kernel
theorem dX1_extend_113 : decode cX1_extend 113 = .ok (.ior, 1) := by decide +kernel
theorem dX1_extend_114 : decode cX1_extend 114 = .ok (.invokevirtual 55, 3) := by decide +kernel
theorem dX1_extend_117 : decode cX1_extend 117 = .ok (.iinc 4 1, 3) := by decide +kernel
theorem dX1_extend_120 : decode cX1_extend 120 = .ok (.goto (-80), 3) := by decide +kernel
theorem dX1_extend_123 : decode cX1_extend 123 = .ok (.return_, 1) := by decide +kernel
theorem dX1_weigh_0 : decode cX1_weigh 0 = .ok (.aload_n 1, 1) := by decide +kernel
theorem dX1_weigh_1 : decode cX1_weigh 1 = .ok (.getfield 75, 3) := by decide +kernel
theorem dX1_weigh_4 : decode cX1_weigh 4 = .ok (.iconst 0, 1) := by decide +kernel
theorem dX1_weigh_5 : decode cX1_weigh 5 = .ok (.iaload, 1) := by decide +kernel
theorem dX1_weigh_6 : decode cX1_weigh 6 = .ok (.istore_n 2, 1) := by decide +kernel
theorem dX1_weigh_7 : decode cX1_weigh 7 = .ok (.aload_n 1, 1) := by decide +kernel
theorem dX1_weigh_8 : decode cX1_weigh 8 = .ok (.getfield 75, 3) := by decide +kernel
theorem dX1_weigh_11 : decode cX1_weigh 11 = .ok (.iconst 0, 1) := by decide +kernel
theorem dX1_weigh_12 : decode cX1_weigh 12 = .ok (.iaload, 1) := by decide +kernel
theorem dX1_weigh_13 : decode cX1_weigh 13 = .ok (.istore_n 3, 1) := by decide +kernel
theorem dX1_weigh_14 : decode cX1_weigh 14 = .ok (.iconst 1, 1) := by decide +kernel
theorem dX1_weigh_15 : decode cX1_weigh 15 = .ok (.istore 4, 2) := by decide +kernel
theorem dX1_weigh_17 : decode cX1_weigh 17 = .ok (.iconst 0, 1) := by decide +kernel
theorem dX1_weigh_18 : decode cX1_weigh 18 = .ok (.istore 5, 2) := by decide +kernel
theorem dX1_weigh_20 : decode cX1_weigh 20 = .ok (.iload 5, 2) := by decide +kernel
theorem dX1_weigh_22 : decode cX1_weigh 22 = .ok (.aload_n 1, 1) := by decide +kernel
theorem dX1_weigh_23 : decode cX1_weigh 23 = .ok (.getfield 78, 3) := by decide +kernel
theorem dX1_weigh_26 : decode cX1_weigh 26 = .ok (.if_icmp .ge 71, 3) := by decide +kernel
theorem dX1_weigh_29 : decode cX1_weigh 29 = .ok (.iload_n 2, 1) := by decide +kernel
theorem dX1_weigh_30 : decode cX1_weigh 30 = .ok (.aload_n 1, 1) := by decide +kernel
theorem dX1_weigh_31 : decode cX1_weigh 31 = .ok (.getfield 75, 3) := by decide +kernel
theorem dX1_weigh_34 : decode cX1_weigh 34 = .ok (.iload 5, 2) := by decide +kernel
theorem dX1_weigh_36 : decode cX1_weigh 36 = .ok (.iaload, 1) := by decide +kernel
theorem dX1_weigh_37 : decode cX1_weigh 37 = .ok (.invokestatic 79, 3) := by decide +kernel
theorem dX1_weigh_40 : decode cX1_weigh 40 = .ok (.istore_n 2, 1) := by decide +kernel
theorem dX1_weigh_41 : decode cX1_weigh 41 = .ok (.iload_n 3, 1) := by decide +kernel
theorem dX1_weigh_42 : decode cX1_weigh 42 = .ok (.aload_n 1, 1) := by decide +kernel
theorem dX1_weigh_43 : decode cX1_weigh 43 = .ok (.getfield 75, 3) := by decide +kernel
theorem dX1_weigh_46 : decode cX1_weigh 46 = .ok (.iload 5, 2) := by decide +kernel
theorem dX1_weigh_48 : decode cX1_weigh 48 = .ok (.iaload, 1) := by decide +kernel
theorem dX1_weigh_49 : decode cX1_weigh 49 = .ok (.invokestatic 84, 3) := by decide +kernel
theorem dX1_weigh_52 : decode cX1_weigh 52 = .ok (.istore_n 3, 1) := by decide +kernel
theorem dX1_weigh_53 : decode cX1_weigh 53 = .ok (.iload 4, 2) := by decide +kernel
theorem dX1_weigh_55 : decode cX1_weigh 55 = .ok (.ifCond .eq 33, 3) := by decide +kernel
theorem dX1_weigh_58 : decode cX1_weigh 58 = .ok (.aload_n 0, 1) := by decide +kernel
theorem dX1_weigh_59 : decode cX1_weigh 59 = .ok (.getfield 25, 3) := by decide +kernel
theorem dX1_weigh_62 : decode cX1_weigh 62 = .ok (.iconst 1, 1) := by decide +kernel
theorem dX1_weigh_63 : decode cX1_weigh 63 = .ok (.iload 5, 2) := by decide +kernel
theorem dX1_weigh_65 : decode cX1_weigh 65 = .ok (.ishl, 1) := by decide +kernel
theorem dX1_weigh_66 : decode cX1_weigh 66 = .ok (.iand, 1) := by decide +kernel
theorem dX1_weigh_67 : decode cX1_weigh 67 = .ok (.ifCond .eq 17, 3) := by decide +kernel
theorem dX1_weigh_70 : decode cX1_weigh 70 = .ok (.aload_n 1, 1) := by decide +kernel
theorem dX1_weigh_71 : decode cX1_weigh 71 = .ok (.getfield 75, 3) := by decide +kernel
theorem dX1_weigh_74 : decode cX1_weigh 74 = .ok (.iload 5, 2) := by decide +kernel
theorem dX1_weigh_76 : decode cX1_weigh 76 = .ok (.iaload, 1) := by decide +kernel
theorem dX1_weigh_77 : decode cX1_weigh 77 = .ok (.aload_n 0, 1) := by decide +kernel
theorem dX1_weigh_78 : decode cX1_weigh 78 = .ok (.getfield 28, 3) := by decide +kernel
theorem dX1_weigh_81 : decode cX1_weigh 81 = .ok (.if_icmp .ne 7, 3) := by decide +kernel
theorem dX1_weigh_84 : decode cX1_weigh 84 = .ok (.iconst 1, 1) := by decide +kernel
theorem dX1_weigh_85 : decode cX1_weigh 85 = .ok (.goto 4, 3) := by decide +kernel
theorem dX1_weigh_88 : decode cX1_weigh 88 = .ok (.iconst 0, 1) := by decide +kernel
theorem dX1_weigh_89 : decode cX1_weigh 89 = .ok (.istore 4, 2) := by decide +kernel
theorem dX1_weigh_91 : decode cX1_weigh 91 = .ok (.iinc 5 1, 3) := by decide +kernel
theorem dX1_weigh_94 : decode cX1_weigh 94 = .ok (.goto (-74), 3) := by decide +kernel
theorem dX1_weigh_97 : decode cX1_weigh 97 = .ok (.iload 4, 2) := by decide +kernel
theorem dX1_weigh_99 : decode cX1_weigh 99 = .ok (.ifCond .eq 13, 3) := by decide +kernel
theorem dX1_weigh_102 : decode cX1_weigh 102 = .ok (.aload_n 0, 1) := by decide +kernel
theorem dX1_weigh_103 : decode cX1_weigh 103 = .ok (.dup, 1) := by decide +kernel
theorem dX1_weigh_104 : decode cX1_weigh 104 = .ok (.getfield 15, 3) := by decide +kernel
theorem dX1_weigh_107 : decode cX1_weigh 107 = .ok (.iconst 1, 1) := by decide +kernel
theorem dX1_weigh_108 : decode cX1_weigh 108 = .ok (.iadd, 1) := by decide +kernel
theorem dX1_weigh_109 : decode cX1_weigh 109 = .ok (.putfield 15, 3) := by decide +kernel
theorem dX1_weigh_112 : decode cX1_weigh 112 = .ok (.aload_n 0, 1) := by decide +kernel
theorem dX1_weigh_113 : decode cX1_weigh 113 = .ok (.getfield 9, 3) := by decide +kernel
theorem dX1_weigh_116 : decode cX1_weigh 116 = .ok (.ifCond .lt 13, 3) := by decide +kernel
theorem dX1_weigh_119 : decode cX1_weigh 119 = .ok (.iload_n 3, 1) := by decide +kernel
theorem dX1_weigh_120 : decode cX1_weigh 120 = .ok (.iload_n 2, 1) := by decide +kernel
theorem dX1_weigh_121 : decode cX1_weigh 121 = .ok (.isub, 1) := by decide +kernel
theorem dX1_weigh_122 : decode cX1_weigh 122 = .ok (.aload_n 0, 1) := by decide +kernel
theorem dX1_weigh_123 : decode cX1_weigh 123 = .ok (.getfield 9, 3) := by decide +kernel
theorem dX1_weigh_126 : decode cX1_weigh 126 = .ok (.if_icmp .ge 25, 3) := by decide +kernel
theorem dX1_weigh_129 : decode cX1_weigh 129 = .ok (.aload_n 0, 1) := by decide +kernel
theorem dX1_weigh_130 : decode cX1_weigh 130 = .ok (.iload_n 3, 1) := by decide +kernel
theorem dX1_weigh_131 : decode cX1_weigh 131 = .ok (.iload_n 2, 1) := by decide +kernel
theorem dX1_weigh_132 : decode cX1_weigh 132 = .ok (.isub, 1) := by decide +kernel
theorem dX1_weigh_133 : decode cX1_weigh 133 = .ok (.putfield 9, 3) := by decide +kernel
theorem dX1_weigh_136 : decode cX1_weigh 136 = .ok (.aload_n 0, 1) := by decide +kernel
theorem dX1_weigh_137 : decode cX1_weigh 137 = .ok (.getfield 22, 3) := by decide +kernel
theorem dX1_weigh_140 : decode cX1_weigh 140 = .ok (.iconst 0, 1) := by decide +kernel
theorem dX1_weigh_141 : decode cX1_weigh 141 = .ok (.aload_n 0, 1) := by decide +kernel
theorem dX1_weigh_142 : decode cX1_weigh 142 = .ok (.getfield 18, 3) := by decide +kernel
theorem dX1_weigh_145 : decode cX1_weigh 145 = .ok (.iconst 0, 1) := by decide +kernel
theorem dX1_weigh_146 : decode cX1_weigh 146 = .ok (.bipush 6, 2) := by decide +kernel
theorem dX1_weigh_148 : decode cX1_weigh 148 = .ok (.invokestatic 87, 3) := by decide +kernel
theorem dX1_weigh_151 : decode cX1_weigh 151 = .ok (.return_, 1) := by decide +kernel
theorem dX2_init_0 : decode cX2_init 0 = .ok (.aload_n 0, 1) := by decide +kernel
theorem dX2_init_1 : decode cX2_init 1 = .ok (.invokespecial 3, 3) := by decide +kernel
theorem dX2_init_4 : decode cX2_init 4 = .ok (.aload_n 0, 1) := by decide +kernel
theorem dX2_init_5 : decode cX2_init 5 = .ok (.iconst 0, 1) := by decide +kernel
theorem dX2_init_6 : decode cX2_init 6 = .ok (.putfield 9, 3) := by decide +kernel
theorem dX2_init_9 : decode cX2_init 9 = .ok (.aload_n 0, 1) := by decide +kernel
theorem dX2_init_10 : decode cX2_init 10 = .ok (.iconst 0, 1) := by decide +kernel
theorem dX2_init_11 : decode cX2_init 11 = .ok (.putfield 15, 3) := by decide +kernel
theorem dX2_init_14 : decode cX2_init 14 = .ok (.aload_n 0, 1) := by decide +kernel
theorem dX2_init_15 : decode cX2_init 15 = .ok (.bipush 8, 2) := by decide +kernel
theorem dX2_init_17 : decode cX2_init 17 = .ok (.newarray .int, 2) := by decide +kernel
theorem dX2_init_19 : decode cX2_init 19 = .ok (.putfield 18, 3) := by decide +kernel
theorem dX2_init_22 : decode cX2_init 22 = .ok (.aload_n 0, 1) := by decide +kernel
theorem dX2_init_23 : decode cX2_init 23 = .ok (.bipush 8, 2) := by decide +kernel
theorem dX2_init_25 : decode cX2_init 25 = .ok (.newarray .int, 2) := by decide +kernel
theorem dX2_init_27 : decode cX2_init 27 = .ok (.putfield 22, 3) := by decide +kernel
theorem dX2_init_30 : decode cX2_init 30 = .ok (.return_, 1) := by decide +kernel
theorem dX2_clear_0 : decode cX2_clear 0 = .ok (.aload_n 0, 1) := by decide +kernel
theorem dX2_clear_1 : decode cX2_clear 1 = .ok (.iconst 0, 1) := by decide +kernel
theorem dX2_clear_2 : decode cX2_clear 2 = .ok (.putfield 9, 3) := by decide +kernel
theorem dX2_clear_5 : decode cX2_clear 5 = .ok (.aload_n 0, 1) := by decide +kernel
theorem dX2_clear_6 : decode cX2_clear 6 = .ok (.iconst 0, 1) := by decide +kernel
theorem dX2_clear_7 : decode cX2_clear 7 = .ok (.putfield 15, 3) := by decide +kernel
theorem dX2_clear_10 : decode cX2_clear 10 = .ok (.return_, 1) := by decide +kernel
theorem dX2_takeFrom_0 : decode cX2_takeFrom 0 = .ok (.aload_n 0, 1) := by decide +kernel
theorem dX2_takeFrom_1 : decode cX2_takeFrom 1 = .ok (.aload_n 1, 1) := by decide +kernel
theorem dX2_takeFrom_2 : decode cX2_takeFrom 2 = .ok (.getfield 9, 3) := by decide +kernel
theorem dX2_takeFrom_5 : decode cX2_takeFrom 5 = .ok (.putfield 9, 3) := by decide +kernel
theorem dX2_takeFrom_8 : decode cX2_takeFrom 8 = .ok (.aload_n 0, 1) := by decide +kernel
theorem dX2_takeFrom_9 : decode cX2_takeFrom 9 = .ok (.aload_n 1, 1) := by decide +kernel
theorem dX2_takeFrom_10 : decode cX2_takeFrom 10 = .ok (.getfield 15, 3) := by decide +kernel
theorem dX2_takeFrom_13 : decode cX2_takeFrom 13 = .ok (.putfield 15, 3) := by decide +kernel
theorem dX2_takeFrom_16 : decode cX2_takeFrom 16 = .ok (.aload_n 1, 1) := by decide +kernel
theorem dX2_takeFrom_17 : decode cX2_takeFrom 17 = .ok (.getfield 18, 3) := by decide +kernel
theorem dX2_takeFrom_20 : decode cX2_takeFrom 20 = .ok (.iconst 0, 1) := by decide +kernel
theorem dX2_takeFrom_21 : decode cX2_takeFrom 21 = .ok (.aload_n 0, 1) := by decide +kernel
theorem dX2_takeFrom_22 : decode cX2_takeFrom 22 = .ok (.getfield 18, 3) := by decide +kernel
theorem dX2_takeFrom_25 : decode cX2_takeFrom 25 = .ok (.iconst 0, 1) := by decide +kernel
theorem dX2_takeFrom_26 : decode cX2_takeFrom 26 = .ok (.bipush 8, 2) := by decide +kernel
theorem dX2_takeFrom_28 : decode cX2_takeFrom 28 = .ok (.invokestatic 25, 3) := by decide +kernel
theorem dX2_takeFrom_31 : decode cX2_takeFrom 31 = .ok (.aload_n 1, 1) := by decide +kernel
theorem dX2_takeFrom_32 : decode cX2_takeFrom 32 = .ok (.getfield 22, 3) := by decide +kernel
theorem dX2_takeFrom_35 : decode cX2_takeFrom 35 = .ok (.iconst 0, 1) := by decide +kernel
theorem dX2_takeFrom_36 : decode cX2_takeFrom 36 = .ok (.aload_n 0, 1) := by decide +kernel
theorem dX2_takeFrom_37 : decode cX2_takeFrom 37 = .ok (.getfield 22, 3) := by decide +kernel
theorem dX2_takeFrom_40 : decode cX2_takeFrom 40 = .ok (.iconst 0, 1) := by decide +kernel
theorem dX2_takeFrom_41 : decode cX2_takeFrom 41 = .ok (.bipush 8, 2) := by decide +kernel
theorem dX2_takeFrom_43 : decode cX2_takeFrom 43 = .ok (.invokestatic 25, 3) := by decide +kernel
theorem dX2_takeFrom_46 : decode cX2_takeFrom 46 = .ok (.return_, 1) := by decide +kernel
theorem dX2_add_0 : decode cX2_add 0 = .ok (.aload_n 0, 1) := by decide +kernel
theorem dX2_add_1 : decode cX2_add 1 = .ok (.getfield 9, 3) := by decide +kernel
theorem dX2_add_4 : decode cX2_add 4 = .ok (.bipush 8, 2) := by decide +kernel
theorem dX2_add_6 : decode cX2_add 6 = .ok (.if_icmp .ge 33, 3) := by decide +kernel
theorem dX2_add_9 : decode cX2_add 9 = .ok (.aload_n 0, 1) := by decide +kernel
theorem dX2_add_10 : decode cX2_add 10 = .ok (.getfield 18, 3) := by decide +kernel
theorem dX2_add_13 : decode cX2_add 13 = .ok (.aload_n 0, 1) := by decide +kernel
theorem dX2_add_14 : decode cX2_add 14 = .ok (.getfield 9, 3) := by decide +kernel
theorem dX2_add_17 : decode cX2_add 17 = .ok (.iload_n 1, 1) := by decide +kernel
theorem dX2_add_18 : decode cX2_add 18 = .ok (.iastore, 1) := by decide +kernel
theorem dX2_add_19 : decode cX2_add 19 = .ok (.aload_n 0, 1) := by decide +kernel
theorem dX2_add_20 : decode cX2_add 20 = .ok (.getfield 22, 3) := by decide +kernel
theorem dX2_add_23 : decode cX2_add 23 = .ok (.aload_n 0, 1) := by decide +kernel
theorem dX2_add_24 : decode cX2_add 24 = .ok (.getfield 9, 3) := by decide +kernel
theorem dX2_add_27 : decode cX2_add 27 = .ok (.iload_n 2, 1) := by decide +kernel
theorem dX2_add_28 : decode cX2_add 28 = .ok (.iastore, 1) := by decide +kernel
theorem dX2_add_29 : decode cX2_add 29 = .ok (.aload_n 0, 1) := by decide +kernel
theorem dX2_add_30 : decode cX2_add 30 = .ok (.dup, 1) := by decide +kernel
theorem dX2_add_31 : decode cX2_add 31 = .ok (.getfield 9, 3) := by decide +kernel
theorem dX2_add_34 : decode cX2_add 34 = .ok (.iconst 1, 1) := by decide +kernel
theorem dX2_add_35 : decode cX2_add 35 = .ok (.iadd, 1) := by decide +kernel
theorem dX2_add_36 : decode cX2_add 36 = .ok (.putfield 9, 3) := by decide +kernel
theorem dX2_add_39 : decode cX2_add 39 = .ok (.return_, 1) := by decide +kernel
set_option maxRecDepth 20000 in
theorem ggX2_goOn_X0_tryAsking : GoodIn wsX2_goOn wsX0_tryAsking := goodIn_r _ [7, 8, 9, 10, 11, 12, 6, 13, 14, 15, 16, 17, 18, 34, 35, 36, 37, 38] rfl (by decide +kernel)
set_option maxRecDepth 20000 in
theorem gX2_goOn_X0_tryAsking : GoodIn wsX2_goOn (wsV RX2 31 RX0 yX0_tryAsking wsX0_tryAsking) := goodIn_app (goodIn_of _ (by decide +kernel)) ggX2_goOn_X0_tryAsking
set_option maxRecDepth 20000 in
theorem ggX2_goOn_X2_endWeekIfDue : GoodIn wsX2_goOn wsX2_endWeekIfDue := goodIn_r _ [23, 24, 25, 26, 27, 22, 28, 29, 34, 35, 36, 37, 38, 30, 31, 32, 33] rfl (by decide +kernel)
set_option maxRecDepth 20000 in
theorem gX2_goOn_X2_endWeekIfDue : GoodIn wsX2_goOn (wsV RX2 37 RX2 yX2_endWeekIfDue wsX2_endWeekIfDue) := goodIn_app (goodIn_of _ (by decide +kernel)) ggX2_goOn_X2_endWeekIfDue
theorem dX2_goOn_0 : decode cX2_goOn 0 = .ok (.aload_n 1, 1) := by decide +kernel
theorem dX2_goOn_1 : decode cX2_goOn 1 = .ok (.aload_n 0, 1) := by decide +kernel
theorem dX2_goOn_2 : decode cX2_goOn 2 = .ok (.getfield 18, 3) := by decide +kernel
theorem dX2_goOn_5 : decode cX2_goOn 5 = .ok (.iload_n 2, 1) := by decide +kernel
theorem dX2_goOn_6 : decode cX2_goOn 6 = .ok (.iaload, 1) := by decide +kernel
theorem dX2_goOn_7 : decode cX2_goOn 7 = .ok (.aload_n 0, 1) := by decide +kernel
theorem dX2_goOn_8 : decode cX2_goOn 8 = .ok (.getfield 22, 3) := by decide +kernel
theorem dX2_goOn_11 : decode cX2_goOn 11 = .ok (.iload_n 2, 1) := by decide +kernel
theorem dX2_goOn_12 : decode cX2_goOn 12 = .ok (.iaload, 1) := by decide +kernel
theorem dX2_goOn_13 : decode cX2_goOn 13 = .ok (.invokevirtual 31, 3) := by decide +kernel
theorem dX2_goOn_16 : decode cX2_goOn 16 = .ok (.pop, 1) := by decide +kernel
theorem dX2_goOn_17 : decode cX2_goOn 17 = .ok (.aload_n 0, 1) := by decide +kernel
theorem dX2_goOn_18 : decode cX2_goOn 18 = .ok (.aload_n 1, 1) := by decide +kernel
theorem dX2_goOn_19 : decode cX2_goOn 19 = .ok (.iload_n 2, 1) := by decide +kernel
theorem dX2_goOn_20 : decode cX2_goOn 20 = .ok (.invokevirtual 37, 3) := by decide +kernel
theorem dX2_goOn_23 : decode cX2_goOn 23 = .ok (.return_, 1) := by decide +kernel
theorem dX2_endsWeek_0 : decode cX2_endsWeek 0 = .ok (.aload_n 0, 1) := by decide +kernel
theorem dX2_endsWeek_1 : decode cX2_endsWeek 1 = .ok (.getfield 15, 3) := by decide +kernel
theorem dX2_endsWeek_4 : decode cX2_endsWeek 4 = .ok (.iconst 1, 1) := by decide +kernel
theorem dX2_endsWeek_5 : decode cX2_endsWeek 5 = .ok (.iload_n 1, 1) := by decide +kernel
theorem dX2_endsWeek_6 : decode cX2_endsWeek 6 = .ok (.ishl, 1) := by decide +kernel
theorem dX2_endsWeek_7 : decode cX2_endsWeek 7 = .ok (.iand, 1) := by decide +kernel
theorem dX2_endsWeek_8 : decode cX2_endsWeek 8 = .ok (.ifCond .eq 7, 3) := by decide +kernel
theorem dX2_endsWeek_11 : decode cX2_endsWeek 11 = .ok (.iconst 1, 1) := by decide +kernel
theorem dX2_endsWeek_12 : decode cX2_endsWeek 12 = .ok (.goto 4, 3) := by decide +kernel
theorem dX2_endsWeek_15 : decode cX2_endsWeek 15 = .ok (.iconst 0, 1) := by decide +kernel
theorem dX2_endsWeek_16 : decode cX2_endsWeek 16 = .ok (.ireturn, 1) := by decide +kernel
set_option maxRecDepth 20000 in
theorem ggX2_endWeekIfDue_X2_endsWeek : GoodIn wsX2_endWeekIfDue wsX2_endsWeek := goodIn_r _ [6, 7, 13, 14, 15, 16] rfl (by decide +kernel)
set_option maxRecDepth 20000 in
theorem gX2_endWeekIfDue_X2_endsWeek : GoodIn wsX2_endWeekIfDue (wsV RX2 41 RX2 yX2_endsWeek wsX2_endsWeek) := goodIn_app (goodIn_of _ (by decide +kernel)) ggX2_endWeekIfDue_X2_endsWeek
theorem dX2_endWeekIfDue_0 : decode cX2_endWeekIfDue 0 = .ok (.aload_n 0, 1) := by decide +kernel
theorem dX2_endWeekIfDue_1 : decode cX2_endWeekIfDue 1 = .ok (.iload_n 2, 1) := by decide +kernel
theorem dX2_endWeekIfDue_2 : decode cX2_endWeekIfDue 2 = .ok (.invokevirtual 41, 3) := by decide +kernel
theorem dX2_endWeekIfDue_5 : decode cX2_endWeekIfDue 5 = .ok (.ifCond .eq 8, 3) := by decide +kernel
theorem dX2_endWeekIfDue_8 : decode cX2_endWeekIfDue 8 = .ok (.aload_n 1, 1) := by decide +kernel
theorem dX2_endWeekIfDue_9 : decode cX2_endWeekIfDue 9 = .ok (.iconst 0, 1) := by decide +kernel
theorem dX2_endWeekIfDue_10 : decode cX2_endWeekIfDue 10 = .ok (.putfield 45, 3) := by decide +kernel
theorem dX2_endWeekIfDue_13 : decode cX2_endWeekIfDue 13 = .ok (.return_, 1) := by decide +kernel
set_option maxRecDepth 20000 in
theorem ggX3_init_X0_newRow : GoodIn wsX3_init wsX0_newRow := goodIn_r _ [14, 15, 16, 17, 18, 19, 20, 13, 21, 22, 23, 24, 2, 3, 25, 26, 27, 28, 5, 29, 30, 37, 38, 39, 40, 41] rfl (by decide +kernel)
set_option maxRecDepth 20000 in
theorem gX3_init_X0_newRow : GoodIn wsX3_init (va_wsS RX3 28 yX0_newRow wsX0_newRow) := goodIn_app (goodIn_of _ (by decide +kernel)) ggX3_init_X0_newRow
theorem dX3_init_0 : decode cX3_init 0 = .ok (.aload_n 0, 1) := by decide +kernel
theorem dX3_init_1 : decode cX3_init 1 = .ok (.invokespecial 3, 3) := by decide +kernel
theorem dX3_init_4 : decode cX3_init 4 = .ok (.aload_n 0, 1) := by decide +kernel
theorem dX3_init_5 : decode cX3_init 5 = .ok (.iconst 0, 1) := by decide +kernel
theorem dX3_init_6 : decode cX3_init 6 = .ok (.putfield 9, 3) := by decide +kernel
theorem dX3_init_9 : decode cX3_init 9 = .ok (.aload_n 0, 1) := by decide +kernel
theorem dX3_init_10 : decode cX3_init 10 = .ok (.iconst 3, 1) := by decide +kernel
theorem dX3_init_11 : decode cX3_init 11 = .ok (.newarray .int, 2) := by decide +kernel
theorem dX3_init_13 : decode cX3_init 13 = .ok (.putfield 15, 3) := by decide +kernel
theorem dX3_init_16 : decode cX3_init 16 = .ok (.aload_n 0, 1) := by decide +kernel
theorem dX3_init_17 : decode cX3_init 17 = .ok (.iconst 3, 1) := by decide +kernel
theorem dX3_init_18 : decode cX3_init 18 = .ok (.newarray .int, 2) := by decide +kernel
theorem dX3_init_20 : decode cX3_init 20 = .ok (.putfield 19, 3) := by decide +kernel
theorem dX3_init_23 : decode cX3_init 23 = .ok (.aload_n 0, 1) := by decide +kernel
theorem dX3_init_24 : decode cX3_init 24 = .ok (.iconst 5, 1) := by decide +kernel
theorem dX3_init_25 : decode cX3_init 25 = .ok (.newarray .int, 2) := by decide +kernel
theorem dX3_init_27 : decode cX3_init 27 = .ok (.putfield 22, 3) := by decide +kernel
theorem dX3_init_30 : decode cX3_init 30 = .ok (.aload_n 0, 1) := by decide +kernel
theorem dX3_init_31 : decode cX3_init 31 = .ok (.iconst 0, 1) := by decide +kernel
theorem dX3_init_32 : decode cX3_init 32 = .ok (.putfield 25, 3) := by decide +kernel
theorem dX3_init_35 : decode cX3_init 35 = .ok (.aload_n 0, 1) := by decide +kernel
theorem dX3_init_36 : decode cX3_init 36 = .ok (.iconst 4, 1) := by decide +kernel
theorem dX3_init_37 : decode cX3_init 37 = .ok (.invokestatic 28, 3) := by decide +kernel
theorem dX3_init_40 : decode cX3_init 40 = .ok (.putfield 34, 3) := by decide +kernel
theorem dX3_init_43 : decode cX3_init 43 = .ok (.return_, 1) := by decide +kernel
set_option maxRecDepth 20000 in
theorem ggX3_search_X0_takeFrom : GoodIn wsX3_search wsX0_takeFrom := goodIn_r _ [13, 14, 15, 16, 17, 18, 19, 20, 21, 22, 56, 57, 58, 59, 60] rfl (by decide +kernel)
set_option maxRecDepth 20000 in
theorem gX3_search_X0_takeFrom : GoodIn wsX3_search (wsV RX3 38 RX0 yX0_takeFrom wsX0_takeFrom) := goodIn_app (goodIn_of _ (by decide +kernel)) ggX3_search_X0_takeFrom
set_option maxRecDepth 20000 in
theorem ggX3_search_X3_trace : GoodIn wsX3_search wsX3_trace := goodIn_r _ [27, 3, 2, 5, 28, 29, 30, 31, 26, 32, 6, 8, 33, 34, 35, 36, 1, 37, 38, 19, 20, 21, 9, 10, 11, 12, 13, 14, 15, 16, 17, 18, 22, 39, 40, 41, 42, 43, 44, 45, 46, 47, 48, 49, 23, 24, 25, 50, 51, 52, 53, 54, 55, 56, 57, 58, 59, 60] rfl (by decide +kernel)
set_option maxRecDepth 20000 in
theorem gX3_search_X3_trace : GoodIn wsX3_search (wsV RX3 57 RX3 yX3_trace wsX3_trace) := goodIn_app (goodIn_of _ (by decide +kernel)) ggX3_search_X3_trace
theorem dX3_search_0 : decode cX3_search 0 = .ok (.aload_n 0, 1) := by decide +kernel
theorem dX3_search_1 : decode cX3_search 1 = .ok (.iconst 0, 1) := by decide +kernel
theorem dX3_search_2 : decode cX3_search 2 = .ok (.putfield 9, 3) := by decide +kernel
theorem dX3_search_5 : decode cX3_search 5 = .ok (.aload_n 0, 1) := by decide +kernel
theorem dX3_search_6 : decode cX3_search 6 = .ok (.iload 4, 2) := by decide +kernel
theorem dX3_search_8 : decode cX3_search 8 = .ok (.putfield 25, 3) := by decide +kernel
theorem dX3_search_11 : decode cX3_search 11 = .ok (.aload_n 0, 1) := by decide +kernel
theorem dX3_search_12 : decode cX3_search 12 = .ok (.getfield 34, 3) := by decide +kernel
theorem dX3_search_15 : decode cX3_search 15 = .ok (.iconst 0, 1) := by decide +kernel
theorem dX3_search_16 : decode cX3_search 16 = .ok (.aaload, 1) := by decide +kernel
theorem dX3_search_17 : decode cX3_search 17 = .ok (.astore 5, 2) := by decide +kernel
theorem dX3_search_19 : decode cX3_search 19 = .ok (.aload 5, 2) := by decide +kernel
theorem dX3_search_21 : decode cX3_search 21 = .ok (.aload_n 1, 1) := by decide +kernel
theorem dX3_search_22 : decode cX3_search 22 = .ok (.invokevirtual 38, 3) := by decide +kernel
theorem dX3_search_25 : decode cX3_search 25 = .ok (.aload 5, 2) := by decide +kernel
theorem dX3_search_27 : decode cX3_search 27 = .ok (.iconst 0, 1) := by decide +kernel
theorem dX3_search_28 : decode cX3_search 28 = .ok (.putfield 42, 3) := by decide +kernel
theorem dX3_search_31 : decode cX3_search 31 = .ok (.iconst 0, 1) := by decide +kernel
theorem dX3_search_32 : decode cX3_search 32 = .ok (.istore 6, 2) := by decide +kernel
theorem dX3_search_34 : decode cX3_search 34 = .ok (.iload 6, 2) := by decide +kernel
theorem dX3_search_36 : decode cX3_search 36 = .ok (.aload 5, 2) := by decide +kernel
theorem dX3_search_38 : decode cX3_search 38 = .ok (.getfield 45, 3) := by decide +kernel
theorem dX3_search_41 : decode cX3_search 41 = .ok (.if_icmp .ge 50, 3) := by decide +kernel
theorem dX3_search_44 : decode cX3_search 44 = .ok (.aload 5, 2) := by decide +kernel
theorem dX3_search_46 : decode cX3_search 46 = .ok (.getfield 48, 3) := by decide +kernel
theorem dX3_search_49 : decode cX3_search 49 = .ok (.iload 6, 2) := by decide +kernel
theorem dX3_search_51 : decode cX3_search 51 = .ok (.aload_n 2, 1) := by decide +kernel
theorem dX3_search_52 : decode cX3_search 52 = .ok (.getfield 51, 3) := by decide +kernel
theorem dX3_search_55 : decode cX3_search 55 = .ok (.iload_n 3, 1) := by decide +kernel
theorem dX3_search_56 : decode cX3_search 56 = .ok (.iload 6, 2) := by decide +kernel
theorem dX3_search_58 : decode cX3_search 58 = .ok (.iadd, 1) := by decide +kernel
theorem dX3_search_59 : decode cX3_search 59 = .ok (.laload, 1) := by decide +kernel
theorem dX3_search_60 : decode cX3_search 60 = .ok (.l2i, 1) := by decide +kernel
theorem dX3_search_61 : decode cX3_search 61 = .ok (.iastore, 1) := by decide +kernel
theorem dX3_search_62 : decode cX3_search 62 = .ok (.aload_n 0, 1) := by decide +kernel
theorem dX3_search_63 : decode cX3_search 63 = .ok (.getfield 22, 3) := by decide +kernel
theorem dX3_search_66 : decode cX3_search 66 = .ok (.iload 6, 2) := by decide +kernel
theorem dX3_search_68 : decode cX3_search 68 = .ok (.aload_n 2, 1) := by decide +kernel
theorem dX3_search_69 : decode cX3_search 69 = .ok (.getfield 51, 3) := by decide +kernel
theorem dX3_search_72 : decode cX3_search 72 = .ok (.iload_n 3, 1) := by decide +kernel
theorem dX3_search_73 : decode cX3_search 73 = .ok (.aload 5, 2) := by decide +kernel
theorem dX3_search_75 : decode cX3_search 75 = .ok (.getfield 45, 3) := by decide +kernel
theorem dX3_search_78 : decode cX3_search 78 = .ok (.iadd, 1) := by decide +kernel
theorem dX3_search_79 : decode cX3_search 79 = .ok (.iload 6, 2) := by decide +kernel
theorem dX3_search_81 : decode cX3_search 81 = .ok (.iadd, 1) := by decide +kernel
theorem dX3_search_82 : decode cX3_search 82 = .ok (.laload, 1) := by decide +kernel
theorem dX3_search_83 : decode cX3_search 83 = .ok (.l2i, 1) := by decide +kernel
theorem dX3_search_84 : decode cX3_search 84 = .ok (.iastore, 1) := by decide +kernel
theorem dX3_search_85 : decode cX3_search 85 = .ok (.iinc 6 1, 3) := by decide +kernel
theorem dX3_search_88 : decode cX3_search 88 = .ok (.goto (-54), 3) := by decide +kernel
theorem dX3_search_91 : decode cX3_search 91 = .ok (.aload_n 0, 1) := by decide +kernel
theorem dX3_search_92 : decode cX3_search 92 = .ok (.iconst 0, 1) := by decide +kernel
theorem dX3_search_93 : decode cX3_search 93 = .ok (.invokevirtual 57, 3) := by decide +kernel
theorem dX3_search_96 : decode cX3_search 96 = .ok (.return_, 1) := by decide +kernel
set_option maxRecDepth 20000 in
theorem ggX3_trace_X3_unlike : GoodIn wsX3_trace wsX3_unlike := goodIn_r _ [9, 3, 10, 11, 53, 54, 55, 56, 57, 47, 48, 49, 50, 51, 52] rfl (by decide +kernel)
set_option maxRecDepth 20000 in
theorem gX3_trace_X3_unlike : GoodIn wsX3_trace (wsV RX3 61 RX3 yX3_unlike wsX3_unlike) := goodIn_app (goodIn_of _ (by decide +kernel)) ggX3_trace_X3_unlike
set_option maxRecDepth 20000 in
theorem ggX3_trace_X3_keep : GoodIn wsX3_trace wsX3_keep := goodIn_r _ [15, 16, 4, 17, 18, 19, 20, 21, 47, 48, 49, 50, 51, 52] rfl (by decide +kernel)
set_option maxRecDepth 20000 in
theorem gX3_trace_X3_keep : GoodIn wsX3_trace (wsV RX3 65 RX3 yX3_keep wsX3_keep) := goodIn_app (goodIn_of _ (by decide +kernel)) ggX3_trace_X3_keep
set_option maxRecDepth 20000 in
theorem ggX3_trace_X0_takeFrom : GoodIn wsX3_trace wsX0_takeFrom := goodIn_r _ [26, 27, 28, 29, 30, 31, 19, 20, 21, 32, 53, 54, 55, 56, 57] rfl (by decide +kernel)
set_option maxRecDepth 20000 in
theorem gX3_trace_X0_takeFrom : GoodIn wsX3_trace (wsV RX3 38 RX0 yX0_takeFrom wsX0_takeFrom) := goodIn_app (goodIn_of _ (by decide +kernel)) ggX3_trace_X0_takeFrom
set_option maxRecDepth 20000 in
theorem ggX3_trace_X0_tryAsking : GoodIn wsX3_trace wsX0_tryAsking := goodIn_r _ [36, 28, 29, 32, 37, 38, 25, 39, 40, 41, 42, 43, 30, 53, 54, 55, 56, 57] rfl (by decide +kernel)
set_option maxRecDepth 20000 in
theorem gX3_trace_X0_tryAsking : GoodIn wsX3_trace (wsV RX3 68 RX0 yX0_tryAsking wsX0_tryAsking) := goodIn_app (goodIn_of _ (by decide +kernel)) ggX3_trace_X0_tryAsking
set_option maxRecDepth 20000 in
theorem ggX3_trace_X3_trace : GoodIn wsX3_trace wsX3_trace := goodIn_r _ [0, 1, 2, 3, 4, 5, 6, 7, 8, 9, 10, 11, 12, 13, 14, 15, 16, 17, 18, 19, 20, 21, 22, 23, 24, 25, 26, 27, 28, 29, 30, 31, 32, 33, 34, 35, 36, 37, 38, 39, 40, 41, 42, 43, 44, 45, 46, 47, 48, 49, 50, 51, 52, 53, 54, 55, 56, 57] rfl (by decide +kernel)
set_option maxRecDepth 20000 in
theorem gX3_trace_X3_trace : GoodIn wsX3_trace (wsV RX3 57 RX3 yX3_trace wsX3_trace) := goodIn_app (goodIn_of _ (by decide +kernel)) ggX3_trace_X3_trace
theorem dX3_trace_0 : decode cX3_trace 0 = .ok (.aload_n 0, 1) := by decide +kernel
theorem dX3_trace_1 : decode cX3_trace 1 = .ok (.getfield 34, 3) := by decide +kernel
theorem dX3_trace_4 : decode cX3_trace 4 = .ok (.iload_n 1, 1) := by decide +kernel
theorem dX3_trace_5 : decode cX3_trace 5 = .ok (.aaload, 1) := by decide +kernel
theorem dX3_trace_6 : decode cX3_trace 6 = .ok (.astore_n 2, 1) := by decide +kernel
theorem dX3_trace_7 : decode cX3_trace 7 = .ok (.aload_n 0, 1) := by decide +kernel
theorem dX3_trace_8 : decode cX3_trace 8 = .ok (.aload_n 2, 1) := by decide +kernel
theorem dX3_trace_9 : decode cX3_trace 9 = .ok (.invokevirtual 61, 3) := by decide +kernel
theorem dX3_trace_12 : decode cX3_trace 12 = .ok (.istore_n 3, 1) := by decide +kernel
theorem dX3_trace_13 : decode cX3_trace 13 = .ok (.iload_n 1, 1) := by decide +kernel
theorem dX3_trace_14 : decode cX3_trace 14 = .ok (.aload_n 0, 1) := by decide +kernel
theorem dX3_trace_15 : decode cX3_trace 15 = .ok (.getfield 25, 3) := by decide +kernel
theorem dX3_trace_18 : decode cX3_trace 18 = .ok (.if_icmp .ge 8, 3) := by decide +kernel
theorem dX3_trace_21 : decode cX3_trace 21 = .ok (.iload_n 1, 1) := by decide +kernel
theorem dX3_trace_22 : decode cX3_trace 22 = .ok (.iconst 3, 1) := by decide +kernel
theorem dX3_trace_23 : decode cX3_trace 23 = .ok (.if_icmp .lt 12, 3) := by decide +kernel
theorem dX3_trace_26 : decode cX3_trace 26 = .ok (.iload_n 3, 1) := by decide +kernel
theorem dX3_trace_27 : decode cX3_trace 27 = .ok (.ifCond .ne 7, 3) := by decide +kernel
theorem dX3_trace_30 : decode cX3_trace 30 = .ok (.aload_n 0, 1) := by decide +kernel
theorem dX3_trace_31 : decode cX3_trace 31 = .ok (.invokevirtual 65, 3) := by decide +kernel
theorem dX3_trace_34 : decode cX3_trace 34 = .ok (.return_, 1) := by decide +kernel
theorem dX3_trace_35 : decode cX3_trace 35 = .ok (.iload_n 3, 1) := by decide +kernel
theorem dX3_trace_36 : decode cX3_trace 36 = .ok (.iconst 2, 1) := by decide +kernel
theorem dX3_trace_37 : decode cX3_trace 37 = .ok (.aload_n 0, 1) := by decide +kernel
theorem dX3_trace_38 : decode cX3_trace 38 = .ok (.getfield 25, 3) := by decide +kernel
theorem dX3_trace_41 : decode cX3_trace 41 = .ok (.iload_n 1, 1) := by decide +kernel
theorem dX3_trace_42 : decode cX3_trace 42 = .ok (.isub, 1) := by decide +kernel
theorem dX3_trace_43 : decode cX3_trace 43 = .ok (.imul, 1) := by decide +kernel
theorem dX3_trace_44 : decode cX3_trace 44 = .ok (.if_icmp .le 4, 3) := by decide +kernel
theorem dX3_trace_47 : decode cX3_trace 47 = .ok (.return_, 1) := by decide +kernel
theorem dX3_trace_48 : decode cX3_trace 48 = .ok (.aload_n 0, 1) := by decide +kernel
theorem dX3_trace_49 : decode cX3_trace 49 = .ok (.getfield 34, 3) := by decide +kernel
theorem dX3_trace_52 : decode cX3_trace 52 = .ok (.iload_n 1, 1) := by decide +kernel
theorem dX3_trace_53 : decode cX3_trace 53 = .ok (.iconst 1, 1) := by decide +kernel
theorem dX3_trace_54 : decode cX3_trace 54 = .ok (.iadd, 1) := by decide +kernel
theorem dX3_trace_55 : decode cX3_trace 55 = .ok (.aaload, 1) := by decide +kernel
theorem dX3_trace_56 : decode cX3_trace 56 = .ok (.astore 4, 2) := by decide +kernel
theorem dX3_trace_58 : decode cX3_trace 58 = .ok (.iconst 0, 1) := by decide +kernel
theorem dX3_trace_59 : decode cX3_trace 59 = .ok (.istore 5, 2) := by decide +kernel
theorem dX3_trace_61 : decode cX3_trace 61 = .ok (.iload 5, 2) := by decide +kernel
theorem dX3_trace_63 : decode cX3_trace 63 = .ok (.aload_n 2, 1) := by decide +kernel
theorem dX3_trace_64 : decode cX3_trace 64 = .ok (.getfield 45, 3) := by decide +kernel
theorem dX3_trace_67 : decode cX3_trace 67 = .ok (.if_icmp .ge 75, 3) := by decide +kernel
theorem dX3_trace_70 : decode cX3_trace 70 = .ok (.iconst 0, 1) := by decide +kernel
theorem dX3_trace_71 : decode cX3_trace 71 = .ok (.istore 6, 2) := by decide +kernel
theorem dX3_trace_73 : decode cX3_trace 73 = .ok (.iload 6, 2) := by decide +kernel
theorem dX3_trace_75 : decode cX3_trace 75 = .ok (.aload_n 2, 1) := by decide +kernel
theorem dX3_trace_76 : decode cX3_trace 76 = .ok (.getfield 45, 3) := by decide +kernel
theorem dX3_trace_79 : decode cX3_trace 79 = .ok (.if_icmp .ge 57, 3) := by decide +kernel
theorem dX3_trace_82 : decode cX3_trace 82 = .ok (.aload 4, 2) := by decide +kernel
theorem dX3_trace_84 : decode cX3_trace 84 = .ok (.aload_n 2, 1) := by decide +kernel
theorem dX3_trace_85 : decode cX3_trace 85 = .ok (.invokevirtual 38, 3) := by decide +kernel
theorem dX3_trace_88 : decode cX3_trace 88 = .ok (.iload 5, 2) := by decide +kernel
theorem dX3_trace_90 : decode cX3_trace 90 = .ok (.iload 6, 2) := by decide +kernel
theorem dX3_trace_92 : decode cX3_trace 92 = .ok (.if_icmp .eq 38, 3) := by decide +kernel
theorem dX3_trace_95 : decode cX3_trace 95 = .ok (.aload 4, 2) := by decide +kernel
theorem dX3_trace_97 : decode cX3_trace 97 = .ok (.iload 5, 2) := by decide +kernel
theorem dX3_trace_99 : decode cX3_trace 99 = .ok (.iload 6, 2) := by decide +kernel
theorem dX3_trace_101 : decode cX3_trace 101 = .ok (.invokevirtual 68, 3) := by decide +kernel
theorem dX3_trace_104 : decode cX3_trace 104 = .ok (.bipush (-2), 2) := by decide +kernel
theorem dX3_trace_106 : decode cX3_trace 106 = .ok (.if_icmp .eq 24, 3) := by decide +kernel
theorem dX3_trace_109 : decode cX3_trace 109 = .ok (.aload_n 0, 1) := by decide +kernel
theorem dX3_trace_110 : decode cX3_trace 110 = .ok (.getfield 19, 3) := by decide +kernel
theorem dX3_trace_113 : decode cX3_trace 113 = .ok (.iload_n 1, 1) := by decide +kernel
theorem dX3_trace_114 : decode cX3_trace 114 = .ok (.bipush 10, 2) := by decide +kernel
theorem dX3_trace_116 : decode cX3_trace 116 = .ok (.iload 5, 2) := by decide +kernel
theorem dX3_trace_118 : decode cX3_trace 118 = .ok (.imul, 1) := by decide +kernel
theorem dX3_trace_119 : decode cX3_trace 119 = .ok (.iload 6, 2) := by decide +kernel
theorem dX3_trace_121 : decode cX3_trace 121 = .ok (.iadd, 1) := by decide +kernel
theorem dX3_trace_122 : decode cX3_trace 122 = .ok (.iastore, 1) := by decide +kernel
theorem dX3_trace_123 : decode cX3_trace 123 = .ok (.aload_n 0, 1) := by decide +kernel
theorem dX3_trace_124 : decode cX3_trace 124 = .ok (.iload_n 1, 1) := by decide +kernel
theorem dX3_trace_125 : decode cX3_trace 125 = .ok (.iconst 1, 1) := by decide +kernel
theorem dX3_trace_126 : decode cX3_trace 126 = .ok (.iadd, 1) := by decide +kernel
theorem dX3_trace_127 : decode cX3_trace 127 = .ok (.invokevirtual 57, 3) := by decide +kernel
theorem dX3_trace_130 : decode cX3_trace 130 = .ok (.iinc 6 1, 3) := by decide +kernel
theorem dX3_trace_133 : decode cX3_trace 133 = .ok (.goto (-60), 3) := by decide +kernel
theorem dX3_trace_136 : decode cX3_trace 136 = .ok (.iinc 5 1, 3) := by decide +kernel
theorem dX3_trace_139 : decode cX3_trace 139 = .ok (.goto (-78), 3) := by decide +kernel
theorem dX3_trace_142 : decode cX3_trace 142 = .ok (.return_, 1) := by decide +kernel
theorem dX3_unlike_0 : decode cX3_unlike 0 = .ok (.iconst 0, 1) := by decide +kernel
theorem dX3_unlike_1 : decode cX3_unlike 1 = .ok (.istore_n 2, 1) := by decide +kernel
theorem dX3_unlike_2 : decode cX3_unlike 2 = .ok (.iconst 0, 1) := by decide +kernel
theorem dX3_unlike_3 : decode cX3_unlike 3 = .ok (.istore_n 3, 1) := by decide +kernel
theorem dX3_unlike_4 : decode cX3_unlike 4 = .ok (.iload_n 3, 1) := by decide +kernel
theorem dX3_unlike_5 : decode cX3_unlike 5 = .ok (.aload_n 1, 1) := by decide +kernel
theorem dX3_unlike_6 : decode cX3_unlike 6 = .ok (.getfield 45, 3) := by decide +kernel
theorem dX3_unlike_9 : decode cX3_unlike 9 = .ok (.if_icmp .ge 27, 3) := by decide +kernel
theorem dX3_unlike_12 : decode cX3_unlike 12 = .ok (.aload_n 1, 1) := by decide +kernel
theorem dX3_unlike_13 : decode cX3_unlike 13 = .ok (.getfield 48, 3) := by decide +kernel
theorem dX3_unlike_16 : decode cX3_unlike 16 = .ok (.iload_n 3, 1) := by decide +kernel
theorem dX3_unlike_17 : decode cX3_unlike 17 = .ok (.iaload, 1) := by decide +kernel
theorem dX3_unlike_18 : decode cX3_unlike 18 = .ok (.aload_n 0, 1) := by decide +kernel
theorem dX3_unlike_19 : decode cX3_unlike 19 = .ok (.getfield 22, 3) := by decide +kernel
theorem dX3_unlike_22 : decode cX3_unlike 22 = .ok (.iload_n 3, 1) := by decide +kernel
theorem dX3_unlike_23 : decode cX3_unlike 23 = .ok (.iaload, 1) := by decide +kernel
theorem dX3_unlike_24 : decode cX3_unlike 24 = .ok (.if_icmp .eq 6, 3) := by decide +kernel
theorem dX3_unlike_27 : decode cX3_unlike 27 = .ok (.iinc 2 1, 3) := by decide +kernel
theorem dX3_unlike_30 : decode cX3_unlike 30 = .ok (.iinc 3 1, 3) := by decide +kernel
theorem dX3_unlike_33 : decode cX3_unlike 33 = .ok (.goto (-29), 3) := by decide +kernel
theorem dX3_unlike_36 : decode cX3_unlike 36 = .ok (.iload_n 2, 1) := by decide +kernel
theorem dX3_unlike_37 : decode cX3_unlike 37 = .ok (.ireturn, 1) := by decide +kernel
theorem dX3_keep_0 : decode cX3_keep 0 = .ok (.aload_n 0, 1) := by decide +kernel
theorem dX3_keep_1 : decode cX3_keep 1 = .ok (.getfield 9, 3) := by decide +kernel
theorem dX3_keep_4 : decode cX3_keep 4 = .ok (.ifCond .ne 17, 3) := by decide +kernel
theorem dX3_keep_7 : decode cX3_keep 7 = .ok (.aload_n 0, 1) := by decide +kernel
theorem dX3_keep_8 : decode cX3_keep 8 = .ok (.getfield 19, 3) := by decide +kernel
theorem dX3_keep_11 : decode cX3_keep 11 = .ok (.iconst 0, 1) := by decide +kernel
theorem dX3_keep_12 : decode cX3_keep 12 = .ok (.aload_n 0, 1) := by decide +kernel
theorem dX3_keep_13 : decode cX3_keep 13 = .ok (.getfield 15, 3) := by decide +kernel
theorem dX3_keep_16 : decode cX3_keep 16 = .ok (.iconst 0, 1) := by decide +kernel
theorem dX3_keep_17 : decode cX3_keep 17 = .ok (.iconst 3, 1) := by decide +kernel
theorem dX3_keep_18 : decode cX3_keep 18 = .ok (.invokestatic 72, 3) := by decide +kernel
theorem dX3_keep_21 : decode cX3_keep 21 = .ok (.aload_n 0, 1) := by decide +kernel
theorem dX3_keep_22 : decode cX3_keep 22 = .ok (.dup, 1) := by decide +kernel
theorem dX3_keep_23 : decode cX3_keep 23 = .ok (.getfield 9, 3) := by decide +kernel
theorem dX3_keep_26 : decode cX3_keep 26 = .ok (.iconst 1, 1) := by decide +kernel
theorem dX3_keep_27 : decode cX3_keep 27 = .ok (.iadd, 1) := by decide +kernel
theorem dX3_keep_28 : decode cX3_keep 28 = .ok (.putfield 9, 3) := by decide +kernel
theorem dX3_keep_31 : decode cX3_keep 31 = .ok (.return_, 1) := by decide +kernel
theorem dX4_init_0 : decode cX4_init 0 = .ok (.aload_n 0, 1) := by decide +kernel
theorem dX4_init_1 : decode cX4_init 1 = .ok (.invokespecial 3, 3) := by decide +kernel
theorem dX4_init_4 : decode cX4_init 4 = .ok (.aload_n 0, 1) := by decide +kernel
theorem dX4_init_5 : decode cX4_init 5 = .ok (.iload_n 1, 1) := by decide +kernel
theorem dX4_init_6 : decode cX4_init 6 = .ok (.putfield 9, 3) := by decide +kernel
theorem dX4_init_9 : decode cX4_init 9 = .ok (.aload_n 0, 1) := by decide +kernel
theorem dX4_init_10 : decode cX4_init 10 = .ok (.iconst 0, 1) := by decide +kernel
theorem dX4_init_11 : decode cX4_init 11 = .ok (.iload_n 2, 1) := by decide +kernel
theorem dX4_init_12 : decode cX4_init 12 = .ok (.bipush 24, 2) := by decide +kernel
theorem dX4_init_14 : decode cX4_init 14 = .ok (.invokestatic 15, 3) := by decide +kernel
theorem dX4_init_17 : decode cX4_init 17 = .ok (.invokestatic 21, 3) := by decide +kernel
theorem dX4_init_20 : decode cX4_init 20 = .ok (.newarray .long, 2) := by decide +kernel
theorem dX4_init_22 : decode cX4_init 22 = .ok (.putfield 24, 3) := by decide +kernel
theorem dX4_init_25 : decode cX4_init 25 = .ok (.return_, 1) := by decide +kernel
theorem dX4_reaches_0 : decode cX4_reaches 0 = .ok (.iload_n 2, 1) := by decide +kernel
theorem dX4_reaches_1 : decode cX4_reaches 1 = .ok (.ifCond .lt 31, 3) := by decide +kernel
theorem dX4_reaches_4 : decode cX4_reaches 4 = .ok (.iload_n 1, 1) := by decide +kernel
theorem dX4_reaches_5 : decode cX4_reaches 5 = .ok (.ifCond .lt 27, 3) := by decide +kernel
theorem dX4_reaches_8 : decode cX4_reaches 8 = .ok (.iload_n 1, 1) := by decide +kernel
theorem dX4_reaches_9 : decode cX4_reaches 9 = .ok (.aload_n 0, 1) := by decide +kernel
theorem dX4_reaches_10 : decode cX4_reaches 10 = .ok (.getfield 24, 3) := by decide +kernel
theorem dX4_reaches_13 : decode cX4_reaches 13 = .ok (.arraylength, 1) := by decide +kernel
theorem dX4_reaches_14 : decode cX4_reaches 14 = .ok (.if_icmp .gt 18, 3) := by decide +kernel
theorem dX4_reaches_17 : decode cX4_reaches 17 = .ok (.iload_n 2, 1) := by decide +kernel

theorem dX9_people_14 : decode cX9_people 14 = .ok (.aload_n 0, 1) := by decide +kernel
theorem dX9_people_15 : decode cX9_people 15 = .ok (.iconst 0, 1) := by decide +kernel
theorem dX9_people_16 : decode cX9_people 16 = .ok (.putfield 150, 3) := by decide +kernel
theorem dX9_people_19 : decode cX9_people 19 = .ok (.iload_n 1, 1) := by decide +kernel
theorem dX9_people_20 : decode cX9_people 20 = .ok (.ifCond .ne 11, 3) := by decide +kernel
theorem dX9_people_23 : decode cX9_people 23 = .ok (.bipush (-20), 2) := by decide +kernel
theorem dX9_people_25 : decode cX9_people 25 = .ok (.aload_n 0, 1) := by decide +kernel
theorem dX9_people_26 : decode cX9_people 26 = .ok (.getfield 153, 3) := by decide +kernel
theorem dX9_people_29 : decode cX9_people 29 = .ok (.isub, 1) := by decide +kernel
theorem dX9_people_30 : decode cX9_people 30 = .ok (.ireturn, 1) := by decide +kernel
theorem dX9_people_31 : decode cX9_people 31 = .ok (.aload_n 0, 1) := by decide +kernel
theorem dX9_people_32 : decode cX9_people 32 = .ok (.iconst 0, 1) := by decide +kernel
theorem dX9_people_33 : decode cX9_people 33 = .ok (.putfield 86, 3) := by decide +kernel
theorem dX9_people_36 : decode cX9_people 36 = .ok (.aload_n 0, 1) := by decide +kernel
theorem dX9_people_37 : decode cX9_people 37 = .ok (.iconst 0, 1) := by decide +kernel
theorem dX9_people_38 : decode cX9_people 38 = .ok (.putfield 139, 3) := by decide +kernel
theorem dX9_people_41 : decode cX9_people 41 = .ok (.iconst 0, 1) := by decide +kernel
theorem dX9_people_42 : decode cX9_people 42 = .ok (.istore_n 2, 1) := by decide +kernel
theorem dX9_people_43 : decode cX9_people 43 = .ok (.iload_n 2, 1) := by decide +kernel
theorem dX9_people_44 : decode cX9_people 44 = .ok (.aload_n 0, 1) := by decide +kernel
theorem dX9_people_45 : decode cX9_people 45 = .ok (.getfield 170, 3) := by decide +kernel
theorem dX9_people_48 : decode cX9_people 48 = .ok (.if_icmp .ge 31, 3) := by decide +kernel
theorem dX9_people_51 : decode cX9_people 51 = .ok (.aload_n 0, 1) := by decide +kernel
theorem dX9_people_52 : decode cX9_people 52 = .ok (.aload_n 0, 1) := by decide +kernel
theorem dX9_people_53 : decode cX9_people 53 = .ok (.getfield 34, 3) := by decide +kernel
theorem dX9_people_56 : decode cX9_people 56 = .ok (.iconst 2, 1) := by decide +kernel
theorem dX9_people_57 : decode cX9_people 57 = .ok (.iload_n 2, 1) := by decide +kernel
theorem dX9_people_58 : decode cX9_people 58 = .ok (.imul, 1) := by decide +kernel
theorem dX9_people_59 : decode cX9_people 59 = .ok (.iaload, 1) := by decide +kernel
theorem dX9_people_60 : decode cX9_people 60 = .ok (.aload_n 0, 1) := by decide +kernel
theorem dX9_people_61 : decode cX9_people 61 = .ok (.getfield 34, 3) := by decide +kernel
theorem dX9_people_64 : decode cX9_people 64 = .ok (.iconst 2, 1) := by decide +kernel
theorem dX9_people_65 : decode cX9_people 65 = .ok (.iload_n 2, 1) := by decide +kernel
theorem dX9_people_66 : decode cX9_people 66 = .ok (.imul, 1) := by decide +kernel
theorem dX9_people_67 : decode cX9_people 67 = .ok (.iconst 1, 1) := by decide +kernel
theorem dX9_people_68 : decode cX9_people 68 = .ok (.iadd, 1) := by decide +kernel
theorem dX9_people_69 : decode cX9_people 69 = .ok (.iaload, 1) := by decide +kernel
theorem dX9_people_70 : decode cX9_people 70 = .ok (.invokevirtual 102, 3) := by decide +kernel
theorem dX9_people_73 : decode cX9_people 73 = .ok (.iinc 2 1, 3) := by decide +kernel
theorem dX9_people_76 : decode cX9_people 76 = .ok (.goto (-33), 3) := by decide +kernel
theorem dX9_people_79 : decode cX9_people 79 = .ok (.aload_n 0, 1) := by decide +kernel
theorem dX9_people_80 : decode cX9_people 80 = .ok (.getfield 86, 3) := by decide +kernel
theorem dX9_people_83 : decode cX9_people 83 = .ok (.ireturn, 1) := by decide +kernel
set_option maxRecDepth 20000 in
theorem ggX9_readAsking_X9_nextByte : GoodIn wsX9_readAsking wsX9_nextByte := goodIn_r _ [7, 1, 8, 9, 18, 19, 20, 21, 22, 23, 24, 25, 26, 27, 28, 29, 30, 31, 32, 33, 34, 35, 36, 37, 38, 39, 40, 41, 42, 43, 44, 45, 46, 47, 48] (by decide +kernel) (by decide +kernel)
set_option maxRecDepth 20000 in
theorem gX9_readAsking_X9_nextByte : GoodIn wsX9_readAsking (wsV RX9 156 RX9 yX9_nextByte wsX9_nextByte) := goodIn_app (goodIn_of _ (by decide +kernel)) ggX9_readAsking_X9_nextByte
set_option maxRecDepth 20000 in
theorem ggX9_readAsking_X9_isOne : GoodIn wsX9_readAsking wsX9_isOne := goodIn_r _ [13, 14, 15, 16, 6, 17, 18, 19, 20, 21, 22, 23, 24, 25, 26, 27, 28, 29, 30, 31, 32, 33, 34, 35, 36, 37, 38, 39, 40, 41, 42, 43, 44, 45, 46, 47, 48] (by decide +kernel) (by decide +kernel)
set_option maxRecDepth 20000 in
theorem gX9_readAsking_X9_isOne : GoodIn wsX9_readAsking (wsV RX9 94 RX9 yX9_isOne wsX9_isOne) := goodIn_app (goodIn_of _ (by decide +kernel)) ggX9_readAsking_X9_isOne
theorem dX9_readAsking_0 : decode cX9_readAsking 0 = .ok (.aload_n 0, 1) := by decide +kernel
theorem dX9_readAsking_1 : decode cX9_readAsking 1 = .ok (.invokevirtual 156, 3) := by decide +kernel
theorem dX9_readAsking_4 : decode cX9_readAsking 4 = .ok (.bipush 48, 2) := by decide +kernel
theorem dX9_readAsking_6 : decode cX9_readAsking 6 = .ok (.isub, 1) := by decide +kernel
theorem dX9_readAsking_7 : decode cX9_readAsking 7 = .ok (.istore_n 2, 1) := by decide +kernel
theorem dX9_readAsking_8 : decode cX9_readAsking 8 = .ok (.aload_n 0, 1) := by decide +kernel
theorem dX9_readAsking_9 : decode cX9_readAsking 9 = .ok (.iload_n 2, 1) := by decide +kernel
theorem dX9_readAsking_10 : decode cX9_readAsking 10 = .ok (.invokevirtual 94, 3) := by decide +kernel
theorem dX9_readAsking_13 : decode cX9_readAsking 13 = .ok (.ifCond .ne 5, 3) := by decide +kernel
theorem dX9_readAsking_16 : decode cX9_readAsking 16 = .ok (.iconst 0, 1) := by decide +kernel
theorem dX9_readAsking_17 : decode cX9_readAsking 17 = .ok (.ireturn, 1) := by decide +kernel
theorem dX9_readAsking_18 : decode cX9_readAsking 18 = .ok (.aload_n 0, 1) := by decide +kernel
theorem dX9_readAsking_19 : decode cX9_readAsking 19 = .ok (.dup, 1) := by decide +kernel
theorem dX9_readAsking_20 : decode cX9_readAsking 20 = .ok (.getfield 153, 3) := by decide +kernel
theorem dX9_readAsking_23 : decode cX9_readAsking 23 = .ok (.iconst 1, 1) := by decide +kernel
theorem dX9_readAsking_24 : decode cX9_readAsking 24 = .ok (.iadd, 1) := by decide +kernel
theorem dX9_readAsking_25 : decode cX9_readAsking 25 = .ok (.putfield 153, 3) := by decide +kernel
theorem dX9_readAsking_28 : decode cX9_readAsking 28 = .ok (.aload_n 0, 1) := by decide +kernel
theorem dX9_readAsking_29 : decode cX9_readAsking 29 = .ok (.invokevirtual 156, 3) := by decide +kernel
theorem dX9_readAsking_32 : decode cX9_readAsking 32 = .ok (.bipush 62, 2) := by decide +kernel
theorem dX9_readAsking_34 : decode cX9_readAsking 34 = .ok (.if_icmp .eq 5, 3) := by decide +kernel
theorem dX9_readAsking_37 : decode cX9_readAsking 37 = .ok (.iconst 0, 1) := by decide +kernel
theorem dX9_readAsking_38 : decode cX9_readAsking 38 = .ok (.ireturn, 1) := by decide +kernel
theorem dX9_readAsking_39 : decode cX9_readAsking 39 = .ok (.aload_n 0, 1) := by decide +kernel
theorem dX9_readAsking_40 : decode cX9_readAsking 40 = .ok (.dup, 1) := by decide +kernel
theorem dX9_readAsking_41 : decode cX9_readAsking 41 = .ok (.getfield 153, 3) := by decide +kernel
theorem dX9_readAsking_44 : decode cX9_readAsking 44 = .ok (.iconst 1, 1) := by decide +kernel
theorem dX9_readAsking_45 : decode cX9_readAsking 45 = .ok (.iadd, 1) := by decide +kernel
theorem dX9_readAsking_46 : decode cX9_readAsking 46 = .ok (.putfield 153, 3) := by decide +kernel
theorem dX9_readAsking_49 : decode cX9_readAsking 49 = .ok (.aload_n 0, 1) := by decide +kernel
theorem dX9_readAsking_50 : decode cX9_readAsking 50 = .ok (.invokevirtual 156, 3) := by decide +kernel
theorem dX9_readAsking_53 : decode cX9_readAsking 53 = .ok (.bipush 48, 2) := by decide +kernel
theorem dX9_readAsking_55 : decode cX9_readAsking 55 = .ok (.isub, 1) := by decide +kernel
theorem dX9_readAsking_56 : decode cX9_readAsking 56 = .ok (.istore_n 3, 1) := by decide +kernel
theorem dX9_readAsking_57 : decode cX9_readAsking 57 = .ok (.aload_n 0, 1) := by decide +kernel
theorem dX9_readAsking_58 : decode cX9_readAsking 58 = .ok (.iload_n 3, 1) := by decide +kernel
theorem dX9_readAsking_59 : decode cX9_readAsking 59 = .ok (.invokevirtual 94, 3) := by decide +kernel
theorem dX9_readAsking_62 : decode cX9_readAsking 62 = .ok (.ifCond .eq 8, 3) := by decide +kernel
theorem dX9_readAsking_65 : decode cX9_readAsking 65 = .ok (.iload_n 3, 1) := by decide +kernel
theorem dX9_readAsking_66 : decode cX9_readAsking 66 = .ok (.iload_n 2, 1) := by decide +kernel
theorem dX9_readAsking_67 : decode cX9_readAsking 67 = .ok (.if_icmp .ne 5, 3) := by decide +kernel
theorem dX9_readAsking_70 : decode cX9_readAsking 70 = .ok (.iconst 0, 1) := by decide +kernel
theorem dX9_readAsking_71 : decode cX9_readAsking 71 = .ok (.ireturn, 1) := by decide +kernel
theorem dX9_readAsking_72 : decode cX9_readAsking 72 = .ok (.aload_n 0, 1) := by decide +kernel
theorem dX9_readAsking_73 : decode cX9_readAsking 73 = .ok (.dup, 1) := by decide +kernel
theorem dX9_readAsking_74 : decode cX9_readAsking 74 = .ok (.getfield 153, 3) := by decide +kernel
theorem dX9_readAsking_77 : decode cX9_readAsking 77 = .ok (.iconst 1, 1) := by decide +kernel
theorem dX9_readAsking_78 : decode cX9_readAsking 78 = .ok (.iadd, 1) := by decide +kernel
theorem dX9_readAsking_79 : decode cX9_readAsking 79 = .ok (.putfield 153, 3) := by decide +kernel
theorem dX9_readAsking_82 : decode cX9_readAsking 82 = .ok (.aload_n 0, 1) := by decide +kernel
theorem dX9_readAsking_83 : decode cX9_readAsking 83 = .ok (.getfield 34, 3) := by decide +kernel
theorem dX9_readAsking_86 : decode cX9_readAsking 86 = .ok (.iload_n 1, 1) := by decide +kernel
theorem dX9_readAsking_87 : decode cX9_readAsking 87 = .ok (.iload_n 2, 1) := by decide +kernel
theorem dX9_readAsking_88 : decode cX9_readAsking 88 = .ok (.iastore, 1) := by decide +kernel
theorem dX9_readAsking_89 : decode cX9_readAsking 89 = .ok (.aload_n 0, 1) := by decide +kernel
theorem dX9_readAsking_90 : decode cX9_readAsking 90 = .ok (.getfield 34, 3) := by decide +kernel
theorem dX9_readAsking_93 : decode cX9_readAsking 93 = .ok (.iload_n 1, 1) := by decide +kernel
theorem dX9_readAsking_94 : decode cX9_readAsking 94 = .ok (.iconst 1, 1) := by decide +kernel
theorem dX9_readAsking_95 : decode cX9_readAsking 95 = .ok (.iadd, 1) := by decide +kernel
theorem dX9_readAsking_96 : decode cX9_readAsking 96 = .ok (.iload_n 3, 1) := by decide +kernel
theorem dX9_readAsking_97 : decode cX9_readAsking 97 = .ok (.iastore, 1) := by decide +kernel
theorem dX9_readAsking_98 : decode cX9_readAsking 98 = .ok (.aload_n 0, 1) := by decide +kernel
theorem dX9_readAsking_99 : decode cX9_readAsking 99 = .ok (.getfield 34, 3) := by decide +kernel
theorem dX9_readAsking_102 : decode cX9_readAsking 102 = .ok (.iload_n 1, 1) := by decide +kernel
theorem dX9_readAsking_103 : decode cX9_readAsking 103 = .ok (.iconst 2, 1) := by decide +kernel
theorem dX9_readAsking_104 : decode cX9_readAsking 104 = .ok (.iadd, 1) := by decide +kernel
theorem dX9_readAsking_105 : decode cX9_readAsking 105 = .ok (.iconst 0, 1) := by decide +kernel
theorem dX9_readAsking_106 : decode cX9_readAsking 106 = .ok (.iastore, 1) := by decide +kernel
theorem dX9_readAsking_107 : decode cX9_readAsking 107 = .ok (.iconst 1, 1) := by decide +kernel
theorem dX9_readAsking_108 : decode cX9_readAsking 108 = .ok (.ireturn, 1) := by decide +kernel
set_option maxRecDepth 20000 in
theorem ggX9_readPlan_X9_readAsking : GoodIn wsX9_readPlan wsX9_readAsking := goodIn_r _ [8, 1, 3, 9, 10, 11, 7, 12, 13, 14, 15, 16, 17, 18, 19, 20, 21, 22, 23, 24, 25, 26, 27, 28, 29, 30, 31, 32, 33, 34, 35, 36, 37, 38, 39, 40, 41, 42, 43, 44, 45, 46, 47, 48, 49, 50, 51, 52, 53] (by decide +kernel) (by decide +kernel)
set_option maxRecDepth 20000 in
theorem gX9_readPlan_X9_readAsking : GoodIn wsX9_readPlan (wsV RX9 177 RX9 yX9_readAsking wsX9_readAsking) := goodIn_app (goodIn_of _ (by decide +kernel)) ggX9_readPlan_X9_readAsking
set_option maxRecDepth 20000 in
theorem ggX9_readPlan_X9_nextByte : GoodIn wsX9_readPlan wsX9_nextByte := goodIn_r _ [12, 1, 13, 14, 23, 24, 25, 26, 27, 28, 29, 30, 31, 32, 33, 34, 35, 36, 37, 38, 39, 40, 41, 42, 43, 44, 45, 46, 47, 48, 49, 50, 51, 52, 53] (by decide +kernel) (by decide +kernel)
set_option maxRecDepth 20000 in
theorem gX9_readPlan_X9_nextByte : GoodIn wsX9_readPlan (wsV RX9 156 RX9 yX9_nextByte wsX9_nextByte) := goodIn_app (goodIn_of _ (by decide +kernel)) ggX9_readPlan_X9_nextByte
theorem dX9_readPlan_0 : decode cX9_readPlan 0 = .ok (.aload_n 0, 1) := by decide +kernel
theorem dX9_readPlan_1 : decode cX9_readPlan 1 = .ok (.iconst 0, 1) := by decide +kernel
theorem dX9_readPlan_2 : decode cX9_readPlan 2 = .ok (.putfield 153, 3) := by decide +kernel
theorem dX9_readPlan_5 : decode cX9_readPlan 5 = .ok (.iconst 0, 1) := by decide +kernel
theorem dX9_readPlan_6 : decode cX9_readPlan 6 = .ok (.istore_n 1, 1) := by decide +kernel
theorem dX9_readPlan_7 : decode cX9_readPlan 7 = .ok (.iload_n 1, 1) := by decide +kernel
theorem dX9_readPlan_8 : decode cX9_readPlan 8 = .ok (.bipush 8, 2) := by decide +kernel
theorem dX9_readPlan_10 : decode cX9_readPlan 10 = .ok (.if_icmp .ge 102, 3) := by decide +kernel
theorem dX9_readPlan_13 : decode cX9_readPlan 13 = .ok (.aload_n 0, 1) := by decide +kernel
theorem dX9_readPlan_14 : decode cX9_readPlan 14 = .ok (.iconst 3, 1) := by decide +kernel
theorem dX9_readPlan_15 : decode cX9_readPlan 15 = .ok (.iload_n 1, 1) := by decide +kernel
theorem dX9_readPlan_16 : decode cX9_readPlan 16 = .ok (.imul, 1) := by decide +kernel
theorem dX9_readPlan_17 : decode cX9_readPlan 17 = .ok (.invokevirtual 177, 3) := by decide +kernel
theorem dX9_readPlan_20 : decode cX9_readPlan 20 = .ok (.ifCond .ne 5, 3) := by decide +kernel
theorem dX9_readPlan_23 : decode cX9_readPlan 23 = .ok (.iconst 0, 1) := by decide +kernel
theorem dX9_readPlan_24 : decode cX9_readPlan 24 = .ok (.ireturn, 1) := by decide +kernel
theorem dX9_readPlan_25 : decode cX9_readPlan 25 = .ok (.aload_n 0, 1) := by decide +kernel
theorem dX9_readPlan_26 : decode cX9_readPlan 26 = .ok (.iload_n 1, 1) := by decide +kernel
theorem dX9_readPlan_27 : decode cX9_readPlan 27 = .ok (.iconst 1, 1) := by decide +kernel
theorem dX9_readPlan_28 : decode cX9_readPlan 28 = .ok (.iadd, 1) := by decide +kernel
theorem dX9_readPlan_29 : decode cX9_readPlan 29 = .ok (.putfield 170, 3) := by decide +kernel
theorem dX9_readPlan_32 : decode cX9_readPlan 32 = .ok (.aload_n 0, 1) := by decide +kernel
theorem dX9_readPlan_33 : decode cX9_readPlan 33 = .ok (.invokevirtual 156, 3) := by decide +kernel
theorem dX9_readPlan_36 : decode cX9_readPlan 36 = .ok (.istore_n 2, 1) := by decide +kernel
theorem dX9_readPlan_37 : decode cX9_readPlan 37 = .ok (.iload_n 2, 1) := by decide +kernel
theorem dX9_readPlan_38 : decode cX9_readPlan 38 = .ok (.bipush 59, 2) := by decide +kernel
theorem dX9_readPlan_40 : decode cX9_readPlan 40 = .ok (.if_icmp .ne 33, 3) := by decide +kernel
theorem dX9_readPlan_43 : decode cX9_readPlan 43 = .ok (.aload_n 0, 1) := by decide +kernel
theorem dX9_readPlan_44 : decode cX9_readPlan 44 = .ok (.getfield 34, 3) := by decide +kernel
theorem dX9_readPlan_47 : decode cX9_readPlan 47 = .ok (.iconst 3, 1) := by decide +kernel
theorem dX9_readPlan_48 : decode cX9_readPlan 48 = .ok (.iload_n 1, 1) := by decide +kernel
theorem dX9_readPlan_49 : decode cX9_readPlan 49 = .ok (.imul, 1) := by decide +kernel
theorem dX9_readPlan_50 : decode cX9_readPlan 50 = .ok (.iconst 2, 1) := by decide +kernel
theorem dX9_readPlan_51 : decode cX9_readPlan 51 = .ok (.iadd, 1) := by decide +kernel
theorem dX9_readPlan_52 : decode cX9_readPlan 52 = .ok (.iconst 1, 1) := by decide +kernel
theorem dX9_readPlan_53 : decode cX9_readPlan 53 = .ok (.iastore, 1) := by decide +kernel
theorem dX9_readPlan_54 : decode cX9_readPlan 54 = .ok (.aload_n 0, 1) := by decide +kernel
theorem dX9_readPlan_55 : decode cX9_readPlan 55 = .ok (.dup, 1) := by decide +kernel
theorem dX9_readPlan_56 : decode cX9_readPlan 56 = .ok (.getfield 153, 3) := by decide +kernel
theorem dX9_readPlan_59 : decode cX9_readPlan 59 = .ok (.iconst 1, 1) := by decide +kernel
theorem dX9_readPlan_60 : decode cX9_readPlan 60 = .ok (.iadd, 1) := by decide +kernel
theorem dX9_readPlan_61 : decode cX9_readPlan 61 = .ok (.putfield 153, 3) := by decide +kernel
theorem dX9_readPlan_64 : decode cX9_readPlan 64 = .ok (.aload_n 0, 1) := by decide +kernel
theorem dX9_readPlan_65 : decode cX9_readPlan 65 = .ok (.invokevirtual 156, 3) := by decide +kernel
theorem dX9_readPlan_68 : decode cX9_readPlan 68 = .ok (.ifCond .ge 38, 3) := by decide +kernel
theorem dX9_readPlan_71 : decode cX9_readPlan 71 = .ok (.iconst 1, 1) := by decide +kernel
theorem dX9_readPlan_72 : decode cX9_readPlan 72 = .ok (.ireturn, 1) := by decide +kernel
theorem dX9_readPlan_73 : decode cX9_readPlan 73 = .ok (.iload_n 2, 1) := by decide +kernel
theorem dX9_readPlan_74 : decode cX9_readPlan 74 = .ok (.ifCond .ge 5, 3) := by decide +kernel
theorem dX9_readPlan_77 : decode cX9_readPlan 77 = .ok (.iconst 1, 1) := by decide +kernel
theorem dX9_readPlan_78 : decode cX9_readPlan 78 = .ok (.ireturn, 1) := by decide +kernel
theorem dX9_readPlan_79 : decode cX9_readPlan 79 = .ok (.iload_n 2, 1) := by decide +kernel
theorem dX9_readPlan_80 : decode cX9_readPlan 80 = .ok (.bipush 44, 2) := by decide +kernel
theorem dX9_readPlan_82 : decode cX9_readPlan 82 = .ok (.if_icmp .ne 22, 3) := by decide +kernel
theorem dX9_readPlan_85 : decode cX9_readPlan 85 = .ok (.iload_n 1, 1) := by decide +kernel
theorem dX9_readPlan_86 : decode cX9_readPlan 86 = .ok (.bipush 7, 2) := by decide +kernel
theorem dX9_readPlan_88 : decode cX9_readPlan 88 = .ok (.if_icmp .ge 16, 3) := by decide +kernel
theorem dX9_readPlan_91 : decode cX9_readPlan 91 = .ok (.aload_n 0, 1) := by decide +kernel
theorem dX9_readPlan_92 : decode cX9_readPlan 92 = .ok (.dup, 1) := by decide +kernel
theorem dX9_readPlan_93 : decode cX9_readPlan 93 = .ok (.getfield 153, 3) := by decide +kernel
theorem dX9_readPlan_96 : decode cX9_readPlan 96 = .ok (.iconst 1, 1) := by decide +kernel
theorem dX9_readPlan_97 : decode cX9_readPlan 97 = .ok (.iadd, 1) := by decide +kernel
theorem dX9_readPlan_98 : decode cX9_readPlan 98 = .ok (.putfield 153, 3) := by decide +kernel
theorem dX9_readPlan_101 : decode cX9_readPlan 101 = .ok (.goto 5, 3) := by decide +kernel
theorem dX9_readPlan_104 : decode cX9_readPlan 104 = .ok (.iconst 0, 1) := by decide +kernel
theorem dX9_readPlan_105 : decode cX9_readPlan 105 = .ok (.ireturn, 1) := by decide +kernel
theorem dX9_readPlan_106 : decode cX9_readPlan 106 = .ok (.iinc 1 1, 3) := by decide +kernel
theorem dX9_readPlan_109 : decode cX9_readPlan 109 = .ok (.goto (-102), 3) := by decide +kernel
theorem dX9_readPlan_112 : decode cX9_readPlan 112 = .ok (.iconst 0, 1) := by decide +kernel
theorem dX9_readPlan_113 : decode cX9_readPlan 113 = .ok (.ireturn, 1) := by decide +kernel
set_option maxRecDepth 20000 in
theorem ggX9_plan_X9_readPlan : GoodIn wsX9_plan wsX9_readPlan := goodIn_r _ [11, 2, 3, 6, 12, 13, 14, 10, 15, 16, 17, 18, 19, 1, 20, 21, 22, 23, 24, 25, 26, 27, 28, 29, 30, 31, 32, 33, 34, 35, 36, 37, 38, 39, 40, 41, 42, 43, 44, 45, 46, 47, 48, 49, 50, 51, 52, 53, 54, 55, 56, 57, 58, 59] (by decide +kernel) (by decide +kernel)
set_option maxRecDepth 20000 in
theorem gX9_plan_X9_readPlan : GoodIn wsX9_plan (wsV RX9 180 RX9 yX9_readPlan wsX9_readPlan) := goodIn_app (goodIn_of _ (by decide +kernel)) ggX9_plan_X9_readPlan
set_option maxRecDepth 20000 in
theorem ggX9_plan_X9_nextByte : GoodIn wsX9_plan wsX9_nextByte := goodIn_r _ [19, 2, 1, 20, 29, 30, 31, 32, 33, 34, 35, 36, 37, 38, 39, 40, 41, 42, 43, 44, 45, 46, 47, 48, 49, 50, 51, 52, 53, 54, 55, 56, 57, 58, 59] (by decide +kernel) (by decide +kernel)
set_option maxRecDepth 20000 in
theorem gX9_plan_X9_nextByte : GoodIn wsX9_plan (wsV RX9 156 RX9 yX9_nextByte wsX9_nextByte) := goodIn_app (goodIn_of _ (by decide +kernel)) ggX9_plan_X9_nextByte
theorem dX9_plan_0 : decode cX9_plan 0 = .ok (.aload_n 0, 1) := by decide +kernel
theorem dX9_plan_1 : decode cX9_plan 1 = .ok (.invokevirtual 180, 3) := by decide +kernel
theorem dX9_plan_4 : decode cX9_plan 4 = .ok (.istore_n 1, 1) := by decide +kernel
theorem dX9_plan_5 : decode cX9_plan 5 = .ok (.iload_n 1, 1) := by decide +kernel
theorem dX9_plan_6 : decode cX9_plan 6 = .ok (.ifCond .ne 8, 3) := by decide +kernel
theorem dX9_plan_9 : decode cX9_plan 9 = .ok (.aload_n 0, 1) := by decide +kernel
theorem dX9_plan_10 : decode cX9_plan 10 = .ok (.invokevirtual 156, 3) := by decide +kernel
theorem dX9_plan_13 : decode cX9_plan 13 = .ok (.pop, 1) := by decide +kernel
theorem dX9_plan_14 : decode cX9_plan 14 = .ok (.aload_n 0, 1) := by decide +kernel
theorem dX9_plan_15 : decode cX9_plan 15 = .ok (.iconst 0, 1) := by decide +kernel
theorem dX9_plan_16 : decode cX9_plan 16 = .ok (.putfield 150, 3) := by decide +kernel
theorem dX9_plan_19 : decode cX9_plan 19 = .ok (.iload_n 1, 1) := by decide +kernel
theorem dX9_plan_20 : decode cX9_plan 20 = .ok (.ifCond .ne 11, 3) := by decide +kernel
theorem dX9_plan_23 : decode cX9_plan 23 = .ok (.bipush (-20), 2) := by decide +kernel
theorem dX9_plan_25 : decode cX9_plan 25 = .ok (.aload_n 0, 1) := by decide +kernel
theorem dX9_plan_26 : decode cX9_plan 26 = .ok (.getfield 153, 3) := by decide +kernel
theorem dX9_plan_29 : decode cX9_plan 29 = .ok (.isub, 1) := by decide +kernel
theorem dX9_plan_30 : decode cX9_plan 30 = .ok (.ireturn, 1) := by decide +kernel
theorem dX9_plan_31 : decode cX9_plan 31 = .ok (.aload_n 0, 1) := by decide +kernel
theorem dX9_plan_32 : decode cX9_plan 32 = .ok (.aload_n 0, 1) := by decide +kernel
theorem dX9_plan_33 : decode cX9_plan 33 = .ok (.getfield 170, 3) := by decide +kernel
theorem dX9_plan_36 : decode cX9_plan 36 = .ok (.putfield 139, 3) := by decide +kernel
theorem dX9_plan_39 : decode cX9_plan 39 = .ok (.iconst 0, 1) := by decide +kernel
theorem dX9_plan_40 : decode cX9_plan 40 = .ok (.istore_n 2, 1) := by decide +kernel
theorem dX9_plan_41 : decode cX9_plan 41 = .ok (.iload_n 2, 1) := by decide +kernel
theorem dX9_plan_42 : decode cX9_plan 42 = .ok (.iconst 3, 1) := by decide +kernel
theorem dX9_plan_43 : decode cX9_plan 43 = .ok (.aload_n 0, 1) := by decide +kernel
theorem dX9_plan_44 : decode cX9_plan 44 = .ok (.getfield 170, 3) := by decide +kernel
theorem dX9_plan_47 : decode cX9_plan 47 = .ok (.imul, 1) := by decide +kernel
theorem dX9_plan_48 : decode cX9_plan 48 = .ok (.if_icmp .ge 21, 3) := by decide +kernel
theorem dX9_plan_51 : decode cX9_plan 51 = .ok (.aload_n 0, 1) := by decide +kernel
theorem dX9_plan_52 : decode cX9_plan 52 = .ok (.getfield 22, 3) := by decide +kernel
theorem dX9_plan_55 : decode cX9_plan 55 = .ok (.iload_n 2, 1) := by decide +kernel
theorem dX9_plan_56 : decode cX9_plan 56 = .ok (.aload_n 0, 1) := by decide +kernel
theorem dX9_plan_57 : decode cX9_plan 57 = .ok (.getfield 34, 3) := by decide +kernel
theorem dX9_plan_60 : decode cX9_plan 60 = .ok (.iload_n 2, 1) := by decide +kernel
theorem dX9_plan_61 : decode cX9_plan 61 = .ok (.iaload, 1) := by decide +kernel
theorem dX9_plan_62 : decode cX9_plan 62 = .ok (.iastore, 1) := by decide +kernel
theorem dX9_plan_63 : decode cX9_plan 63 = .ok (.iinc 2 1, 3) := by decide +kernel
theorem dX9_plan_66 : decode cX9_plan 66 = .ok (.goto (-25), 3) := by decide +kernel
theorem dX9_plan_69 : decode cX9_plan 69 = .ok (.aload_n 0, 1) := by decide +kernel
theorem dX9_plan_70 : decode cX9_plan 70 = .ok (.getfield 139, 3) := by decide +kernel
theorem dX9_plan_73 : decode cX9_plan 73 = .ok (.ireturn, 1) := by decide +kernel
set_option maxRecDepth 20000 in
theorem ggX9_run_X9_begin : GoodIn wsX9_run wsX9_begin := goodIn_r _ [7, 8, 9, 10, 11, 33, 34, 35, 36, 37, 38, 39, 40, 41, 42, 43, 44, 45, 46, 47, 48, 49, 50, 51, 52, 53, 54, 55, 56, 57, 58, 59, 60, 61, 62, 63] (by decide +kernel) (by decide +kernel)
set_option maxRecDepth 20000 in
theorem gX9_run_X9_begin : GoodIn wsX9_run (wsV RX9 119 RX9 yX9_begin wsX9_begin) := goodIn_app (goodIn_of _ (by decide +kernel)) ggX9_run_X9_begin
set_option maxRecDepth 20000 in
theorem ggX9_run_X9_newWeek : GoodIn wsX9_run wsX9_newWeek := goodIn_r _ [28, 10, 33, 34, 35, 36, 37, 38, 39, 40, 41, 42, 43, 44, 45, 46, 47, 48, 49, 50, 51, 52, 53, 54, 55, 56, 57, 58, 59, 60, 61, 62, 63] (by decide +kernel) (by decide +kernel)
set_option maxRecDepth 20000 in
theorem gX9_run_X9_newWeek : GoodIn wsX9_run (wsV RX9 136 RX9 yX9_newWeek wsX9_newWeek) := goodIn_app (goodIn_of _ (by decide +kernel)) ggX9_run_X9_newWeek
set_option maxRecDepth 20000 in
theorem ggX9_run_X9_keep : GoodIn wsX9_run wsX9_keep := goodIn_r _ [32, 9, 8, 11, 10, 33, 34, 35, 36, 37, 38, 39, 40, 41, 42, 43, 44, 45, 46, 47, 48, 49, 50, 51, 52, 53, 54, 55, 56, 57, 58, 59, 60, 61, 62, 63] (by decide +kernel) (by decide +kernel)
set_option maxRecDepth 20000 in
theorem gX9_run_X9_keep : GoodIn wsX9_run (wsV RX9 125 RX9 yX9_keep wsX9_keep) := goodIn_app (goodIn_of _ (by decide +kernel)) ggX9_run_X9_keep
theorem dX9_run_0 : decode cX9_run 0 = .ok (.aload_n 0, 1) := by decide +kernel
theorem dX9_run_1 : decode cX9_run 1 = .ok (.invokevirtual 119, 3) := by decide +kernel
theorem dX9_run_4 : decode cX9_run 4 = .ok (.iconst 0, 1) := by decide +kernel
theorem dX9_run_5 : decode cX9_run 5 = .ok (.istore_n 1, 1) := by decide +kernel
theorem dX9_run_6 : decode cX9_run 6 = .ok (.iload_n 1, 1) := by decide +kernel
theorem dX9_run_7 : decode cX9_run 7 = .ok (.aload_n 0, 1) := by decide +kernel
theorem dX9_run_8 : decode cX9_run 8 = .ok (.getfield 139, 3) := by decide +kernel
theorem dX9_run_11 : decode cX9_run 11 = .ok (.if_icmp .ge 52, 3) := by decide +kernel
theorem dX9_run_14 : decode cX9_run 14 = .ok (.aload_n 0, 1) := by decide +kernel
theorem dX9_run_15 : decode cX9_run 15 = .ok (.aload_n 0, 1) := by decide +kernel
theorem dX9_run_16 : decode cX9_run 16 = .ok (.getfield 22, 3) := by decide +kernel
theorem dX9_run_19 : decode cX9_run 19 = .ok (.iconst 3, 1) := by decide +kernel
theorem dX9_run_20 : decode cX9_run 20 = .ok (.iload_n 1, 1) := by decide +kernel
theorem dX9_run_21 : decode cX9_run 21 = .ok (.imul, 1) := by decide +kernel
theorem dX9_run_22 : decode cX9_run 22 = .ok (.iaload, 1) := by decide +kernel
theorem dX9_run_23 : decode cX9_run 23 = .ok (.aload_n 0, 1) := by decide +kernel
theorem dX9_run_24 : decode cX9_run 24 = .ok (.getfield 22, 3) := by decide +kernel
theorem dX9_run_27 : decode cX9_run 27 = .ok (.iconst 3, 1) := by decide +kernel
theorem dX9_run_28 : decode cX9_run 28 = .ok (.iload_n 1, 1) := by decide +kernel
theorem dX9_run_29 : decode cX9_run 29 = .ok (.imul, 1) := by decide +kernel
theorem dX9_run_30 : decode cX9_run 30 = .ok (.iconst 1, 1) := by decide +kernel
theorem dX9_run_31 : decode cX9_run 31 = .ok (.iadd, 1) := by decide +kernel
theorem dX9_run_32 : decode cX9_run 32 = .ok (.iaload, 1) := by decide +kernel
theorem dX9_run_33 : decode cX9_run 33 = .ok (.invokevirtual 122, 3) := by decide +kernel
theorem dX9_run_36 : decode cX9_run 36 = .ok (.ifCond .lt 27, 3) := by decide +kernel
theorem dX9_run_39 : decode cX9_run 39 = .ok (.aload_n 0, 1) := by decide +kernel
theorem dX9_run_40 : decode cX9_run 40 = .ok (.getfield 22, 3) := by decide +kernel
theorem dX9_run_43 : decode cX9_run 43 = .ok (.iconst 3, 1) := by decide +kernel
theorem dX9_run_44 : decode cX9_run 44 = .ok (.iload_n 1, 1) := by decide +kernel
theorem dX9_run_45 : decode cX9_run 45 = .ok (.imul, 1) := by decide +kernel
theorem dX9_run_46 : decode cX9_run 46 = .ok (.iconst 2, 1) := by decide +kernel
theorem dX9_run_47 : decode cX9_run 47 = .ok (.iadd, 1) := by decide +kernel
theorem dX9_run_48 : decode cX9_run 48 = .ok (.iaload, 1) := by decide +kernel
theorem dX9_run_49 : decode cX9_run 49 = .ok (.iconst 1, 1) := by decide +kernel
theorem dX9_run_50 : decode cX9_run 50 = .ok (.if_icmp .ne 7, 3) := by decide +kernel
theorem dX9_run_53 : decode cX9_run 53 = .ok (.aload_n 0, 1) := by decide +kernel
theorem dX9_run_54 : decode cX9_run 54 = .ok (.invokevirtual 136, 3) := by decide +kernel
theorem dX9_run_57 : decode cX9_run 57 = .ok (.iinc 1 1, 3) := by decide +kernel
theorem dX9_run_60 : decode cX9_run 60 = .ok (.goto (-54), 3) := by decide +kernel
theorem dX9_run_63 : decode cX9_run 63 = .ok (.aload_n 0, 1) := by decide +kernel
theorem dX9_run_64 : decode cX9_run 64 = .ok (.invokevirtual 125, 3) := by decide +kernel
theorem dX9_run_67 : decode cX9_run 67 = .ok (.iload_n 1, 1) := by decide +kernel
theorem dX9_run_68 : decode cX9_run 68 = .ok (.ireturn, 1) := by decide +kernel
set_option maxRecDepth 20000 in
theorem ggX9_most_X9_isOne : GoodIn wsX9_most wsX9_isOne := goodIn_r _ [5, 6, 7, 8, 4, 9, 55, 56, 57, 58, 59, 60, 61, 62, 63, 64, 65, 66, 67, 68, 69, 70, 71, 72, 73, 74, 75, 76, 77, 78, 79, 80, 81, 82, 83, 84, 85] (by decide +kernel) (by decide +kernel)
set_option maxRecDepth 20000 in
theorem gX9_most_X9_isOne : GoodIn wsX9_most (wsV RX9 94 RX9 yX9_isOne wsX9_isOne) := goodIn_app (goodIn_of _ (by decide +kernel)) ggX9_most_X9_isOne
theorem dX9_most_0 : decode cX9_most 0 = .ok (.aload_n 0, 1) := by decide +kernel
theorem dX9_most_1 : decode cX9_most 1 = .ok (.iload_n 1, 1) := by decide +kernel
theorem dX9_most_2 : decode cX9_most 2 = .ok (.invokevirtual 94, 3) := by decide +kernel
theorem dX9_most_5 : decode cX9_most 5 = .ok (.ifCond .eq 11, 3) := by decide +kernel
theorem dX9_most_8 : decode cX9_most 8 = .ok (.aload_n 0, 1) := by decide +kernel
theorem dX9_most_9 : decode cX9_most 9 = .ok (.iload_n 1, 1) := by decide +kernel
theorem dX9_most_10 : decode cX9_most 10 = .ok (.invokevirtual 192, 3) := by decide +kernel
theorem dX9_most_13 : decode cX9_most 13 = .ok (.goto 4, 3) := by decide +kernel
theorem dX9_most_16 : decode cX9_most 16 = .ok (.iconst (-1), 1) := by decide +kernel
theorem dX9_most_17 : decode cX9_most 17 = .ok (.ireturn, 1) := by decide +kernel
set_option maxRecDepth 20000 in
theorem ggX9_when_X9_areTwo : GoodIn wsX9_when wsX9_areTwo := goodIn_r _ [6, 7, 8, 9, 5, 10, 11, 12, 13, 14, 59, 60, 61, 62, 63, 64, 65, 66, 67, 68, 69, 70, 71, 72, 73, 74, 75, 76, 77, 78, 79, 80, 81, 82, 83, 84, 85, 86, 87, 88, 89] (by decide +kernel) (by decide +kernel)
set_option maxRecDepth 20000 in
theorem gX9_when_X9_areTwo : GoodIn wsX9_when (wsV RX9 112 RX9 yX9_areTwo wsX9_areTwo) := goodIn_app (goodIn_of _ (by decide +kernel)) ggX9_when_X9_areTwo
theorem dX9_when_0 : decode cX9_when 0 = .ok (.aload_n 0, 1) := by decide +kernel
theorem dX9_when_1 : decode cX9_when 1 = .ok (.iload_n 1, 1) := by decide +kernel
theorem dX9_when_2 : decode cX9_when 2 = .ok (.iload_n 2, 1) := by decide +kernel
theorem dX9_when_3 : decode cX9_when 3 = .ok (.invokevirtual 112, 3) := by decide +kernel
theorem dX9_when_6 : decode cX9_when 6 = .ok (.ifCond .ne 5, 3) := by decide +kernel
theorem dX9_when_9 : decode cX9_when 9 = .ok (.iconst (-1), 1) := by decide +kernel
theorem dX9_when_10 : decode cX9_when 10 = .ok (.ireturn, 1) := by decide +kernel
theorem dX9_when_11 : decode cX9_when 11 = .ok (.aload_n 0, 1) := by decide +kernel
theorem dX9_when_12 : decode cX9_when 12 = .ok (.iload_n 1, 1) := by decide +kernel
theorem dX9_when_13 : decode cX9_when 13 = .ok (.invokevirtual 192, 3) := by decide +kernel
theorem dX9_when_16 : decode cX9_when 16 = .ok (.pop, 1) := by decide +kernel
theorem dX9_when_17 : decode cX9_when 17 = .ok (.aload_n 0, 1) := by decide +kernel
theorem dX9_when_18 : decode cX9_when 18 = .ok (.getfield 40, 3) := by decide +kernel
theorem dX9_when_21 : decode cX9_when 21 = .ok (.iload_n 2, 1) := by decide +kernel
theorem dX9_when_22 : decode cX9_when 22 = .ok (.iaload, 1) := by decide +kernel
theorem dX9_when_23 : decode cX9_when 23 = .ok (.ireturn, 1) := by decide +kernel
set_option maxRecDepth 20000 in
theorem ggX9_turns_X9_isOne : GoodIn wsX9_turns wsX9_isOne := goodIn_r _ [6, 7, 8, 9, 5, 10, 47, 48, 49, 50, 51, 52, 53, 54, 55, 56, 57, 58, 59, 60, 61, 62, 63, 64, 65, 66, 67, 68, 69, 70, 71, 72, 73, 74, 75, 76, 77] (by decide +kernel) (by decide +kernel)
set_option maxRecDepth 20000 in
theorem gX9_turns_X9_isOne : GoodIn wsX9_turns (wsV RX9 94 RX9 yX9_isOne wsX9_isOne) := goodIn_app (goodIn_of _ (by decide +kernel)) ggX9_turns_X9_isOne
theorem dX9_turns_0 : decode cX9_turns 0 = .ok (.aload_n 0, 1) := by decide +kernel
theorem dX9_turns_1 : decode cX9_turns 1 = .ok (.iload_n 1, 1) := by decide +kernel
theorem dX9_turns_2 : decode cX9_turns 2 = .ok (.invokevirtual 94, 3) := by decide +kernel
theorem dX9_turns_5 : decode cX9_turns 5 = .ok (.ifCond .ne 5, 3) := by decide +kernel
theorem dX9_turns_8 : decode cX9_turns 8 = .ok (.iconst (-1), 1) := by decide +kernel
theorem dX9_turns_9 : decode cX9_turns 9 = .ok (.ireturn, 1) := by decide +kernel
theorem dX9_turns_10 : decode cX9_turns 10 = .ok (.aload_n 0, 1) := by decide +kernel
theorem dX9_turns_11 : decode cX9_turns 11 = .ok (.invokevirtual 205, 3) := by decide +kernel
theorem dX9_turns_14 : decode cX9_turns 14 = .ok (.aload_n 0, 1) := by decide +kernel
theorem dX9_turns_15 : decode cX9_turns 15 = .ok (.getfield 52, 3) := by decide +kernel
theorem dX9_turns_18 : decode cX9_turns 18 = .ok (.iload_n 1, 1) := by decide +kernel
theorem dX9_turns_19 : decode cX9_turns 19 = .ok (.iaload, 1) := by decide +kernel
theorem dX9_turns_20 : decode cX9_turns 20 = .ok (.ifCond .ne 8, 3) := by decide +kernel
theorem dX9_turns_23 : decode cX9_turns 23 = .ok (.bipush 9, 2) := by decide +kernel
theorem dX9_turns_25 : decode cX9_turns 25 = .ok (.goto 11, 3) := by decide +kernel
theorem dX9_turns_28 : decode cX9_turns 28 = .ok (.aload_n 0, 1) := by decide +kernel
theorem dX9_turns_29 : decode cX9_turns 29 = .ok (.getfield 52, 3) := by decide +kernel
theorem dX9_turns_32 : decode cX9_turns 32 = .ok (.iload_n 1, 1) := by decide +kernel
theorem dX9_turns_33 : decode cX9_turns 33 = .ok (.iaload, 1) := by decide +kernel
theorem dX9_turns_34 : decode cX9_turns 34 = .ok (.iconst 1, 1) := by decide +kernel
theorem dX9_turns_35 : decode cX9_turns 35 = .ok (.isub, 1) := by decide +kernel
theorem dX9_turns_36 : decode cX9_turns 36 = .ok (.ireturn, 1) := by decide +kernel
set_option maxRecDepth 20000 in
theorem ggX9_ends_X9_isOne : GoodIn wsX9_ends wsX9_isOne := goodIn_r _ [6, 7, 8, 9, 5, 10, 47, 48, 49, 50, 51, 52, 53, 54, 55, 56, 57, 58, 59, 60, 61, 62, 63, 64, 65, 66, 67, 68, 69, 70, 71, 72, 73, 74, 75, 76, 77] (by decide +kernel) (by decide +kernel)
set_option maxRecDepth 20000 in
theorem gX9_ends_X9_isOne : GoodIn wsX9_ends (wsV RX9 94 RX9 yX9_isOne wsX9_isOne) := goodIn_app (goodIn_of _ (by decide +kernel)) ggX9_ends_X9_isOne
theorem dX9_ends_0 : decode cX9_ends 0 = .ok (.aload_n 0, 1) := by decide +kernel
theorem dX9_ends_1 : decode cX9_ends 1 = .ok (.iload_n 1, 1) := by decide +kernel
theorem dX9_ends_2 : decode cX9_ends 2 = .ok (.invokevirtual 94, 3) := by decide +kernel
theorem dX9_ends_5 : decode cX9_ends 5 = .ok (.ifCond .ne 5, 3) := by decide +kernel
theorem dX9_ends_8 : decode cX9_ends 8 = .ok (.iconst (-1), 1) := by decide +kernel
theorem dX9_ends_9 : decode cX9_ends 9 = .ok (.ireturn, 1) := by decide +kernel
theorem dX9_ends_10 : decode cX9_ends 10 = .ok (.aload_n 0, 1) := by decide +kernel
theorem dX9_ends_11 : decode cX9_ends 11 = .ok (.invokevirtual 205, 3) := by decide +kernel
theorem dX9_ends_14 : decode cX9_ends 14 = .ok (.aload_n 0, 1) := by decide +kernel
theorem dX9_ends_15 : decode cX9_ends 15 = .ok (.getfield 49, 3) := by decide +kernel
theorem dX9_ends_18 : decode cX9_ends 18 = .ok (.iload_n 1, 1) := by decide +kernel
theorem dX9_ends_19 : decode cX9_ends 19 = .ok (.iaload, 1) := by decide +kernel
theorem dX9_ends_20 : decode cX9_ends 20 = .ok (.ireturn, 1) := by decide +kernel
set_option maxRecDepth 20000 in
theorem ggX9_order_X9_in : GoodIn wsX9_order wsX9_in := goodIn_r _ [11] (by decide +kernel) (by decide +kernel)
set_option maxRecDepth 20000 in
theorem gX9_order_X9_in : GoodIn wsX9_order (va_wsS RX9 90 yX9_in wsX9_in) := goodIn_app (goodIn_of _ (by decide +kernel)) ggX9_order_X9_in
theorem dX9_order_0 : decode cX9_order 0 = .ok (.iload_n 1, 1) := by decide +kernel
theorem dX9_order_1 : decode cX9_order 1 = .ok (.i2l, 1) := by decide +kernel
theorem dX9_order_2 : decode cX9_order 2 = .ok (.ldc2_w 208, 3) := by decide +kernel
theorem dX9_order_5 : decode cX9_order 5 = .ok (.ldc2_w 210, 3) := by decide +kernel
theorem dX9_order_8 : decode cX9_order 8 = .ok (.invokestatic 90, 3) := by decide +kernel
theorem dX9_order_11 : decode cX9_order 11 = .ok (.ifCond .ne 5, 3) := by decide +kernel
theorem dX9_order_14 : decode cX9_order 14 = .ok (.iconst (-1), 1) := by decide +kernel
theorem dX9_order_15 : decode cX9_order 15 = .ok (.ireturn, 1) := by decide +kernel
theorem dX9_order_16 : decode cX9_order 16 = .ok (.aload_n 0, 1) := by decide +kernel
theorem dX9_order_17 : decode cX9_order 17 = .ok (.getfield 139, 3) := by decide +kernel
theorem dX9_order_20 : decode cX9_order 20 = .ok (.bipush 6, 2) := by decide +kernel
theorem dX9_order_22 : decode cX9_order 22 = .ok (.if_icmp .le 6, 3) := by decide +kernel
theorem dX9_order_25 : decode cX9_order 25 = .ok (.bipush (-3), 2) := by decide +kernel
theorem dX9_order_27 : decode cX9_order 27 = .ok (.ireturn, 1) := by decide +kernel
theorem dX9_order_28 : decode cX9_order 28 = .ok (.aload_n 0, 1) := by decide +kernel
theorem dX9_order_29 : decode cX9_order 29 = .ok (.getfield 86, 3) := by decide +kernel
theorem dX9_order_32 : decode cX9_order 32 = .ok (.ifCond .eq 11, 3) := by decide +kernel
theorem dX9_order_35 : decode cX9_order 35 = .ok (.iload_n 1, 1) := by decide +kernel
theorem dX9_order_36 : decode cX9_order 36 = .ok (.aload_n 0, 1) := by decide +kernel
theorem dX9_order_37 : decode cX9_order 37 = .ok (.getfield 139, 3) := by decide +kernel
theorem dX9_order_40 : decode cX9_order 40 = .ok (.if_icmp .lt 6, 3) := by decide +kernel
theorem dX9_order_43 : decode cX9_order 43 = .ok (.bipush (-4), 2) := by decide +kernel
theorem dX9_order_45 : decode cX9_order 45 = .ok (.ireturn, 1) := by decide +kernel
theorem dX9_order_46 : decode cX9_order 46 = .ok (.aload_n 0, 1) := by decide +kernel
theorem dX9_order_47 : decode cX9_order 47 = .ok (.invokevirtual 212, 3) := by decide +kernel
theorem dX9_order_50 : decode cX9_order 50 = .ok (.ldc 215, 2) := by decide +kernel
theorem dX9_order_52 : decode cX9_order 52 = .ok (.istore_n 2, 1) := by decide +kernel
theorem dX9_order_53 : decode cX9_order 53 = .ok (.iconst 1, 1) := by decide +kernel
theorem dX9_order_54 : decode cX9_order 54 = .ok (.istore_n 3, 1) := by decide +kernel
theorem dX9_order_55 : decode cX9_order 55 = .ok (.iload_n 3, 1) := by decide +kernel
theorem dX9_order_56 : decode cX9_order 56 = .ok (.ifCond .eq 72, 3) := by decide +kernel
theorem dX9_order_59 : decode cX9_order 59 = .ok (.aload_n 0, 1) := by decide +kernel
theorem dX9_order_60 : decode cX9_order 60 = .ok (.invokevirtual 216, 3) := by decide +kernel
theorem dX9_order_63 : decode cX9_order 63 = .ok (.aload_n 0, 1) := by decide +kernel
theorem dX9_order_64 : decode cX9_order 64 = .ok (.invokevirtual 219, 3) := by decide +kernel
theorem dX9_order_67 : decode cX9_order 67 = .ok (.istore 4, 2) := by decide +kernel
theorem dX9_order_69 : decode cX9_order 69 = .ok (.iconst 0, 1) := by decide +kernel
theorem dX9_order_70 : decode cX9_order 70 = .ok (.istore 5, 2) := by decide +kernel
theorem dX9_order_72 : decode cX9_order 72 = .ok (.iload 5, 2) := by decide +kernel
theorem dX9_order_74 : decode cX9_order 74 = .ok (.aload_n 0, 1) := by decide +kernel
theorem dX9_order_75 : decode cX9_order 75 = .ok (.getfield 139, 3) := by decide +kernel
theorem dX9_order_78 : decode cX9_order 78 = .ok (.if_icmp .ge 29, 3) := by decide +kernel
theorem dX9_order_81 : decode cX9_order 81 = .ok (.iload 4, 2) := by decide +kernel
theorem dX9_order_83 : decode cX9_order 83 = .ok (.iload_n 2, 1) := by decide +kernel
theorem dX9_order_84 : decode cX9_order 84 = .ok (.if_icmp .ge 23, 3) := by decide +kernel
theorem dX9_order_87 : decode cX9_order 87 = .ok (.aload_n 0, 1) := by decide +kernel
theorem dX9_order_88 : decode cX9_order 88 = .ok (.getfield 58, 3) := by decide +kernel
theorem dX9_order_91 : decode cX9_order 91 = .ok (.iload 5, 2) := by decide +kernel
theorem dX9_order_93 : decode cX9_order 93 = .ok (.aload_n 0, 1) := by decide +kernel
theorem dX9_order_94 : decode cX9_order 94 = .ok (.getfield 55, 3) := by decide +kernel
theorem dX9_order_97 : decode cX9_order 97 = .ok (.iload 5, 2) := by decide +kernel
theorem dX9_order_99 : decode cX9_order 99 = .ok (.iaload, 1) := by decide +kernel
theorem dX9_order_100 : decode cX9_order 100 = .ok (.iastore, 1) := by decide +kernel
theorem dX9_order_101 : decode cX9_order 101 = .ok (.iinc 5 1, 3) := by decide +kernel
theorem dX9_order_104 : decode cX9_order 104 = .ok (.goto (-32), 3) := by decide +kernel
theorem dX9_order_107 : decode cX9_order 107 = .ok (.iload 4, 2) := by decide +kernel
theorem dX9_order_109 : decode cX9_order 109 = .ok (.iload_n 2, 1) := by decide +kernel
theorem dX9_order_110 : decode cX9_order 110 = .ok (.if_icmp .ge 8, 3) := by decide +kernel
theorem dX9_order_113 : decode cX9_order 113 = .ok (.iload 4, 2) := by decide +kernel
theorem dX9_order_115 : decode cX9_order 115 = .ok (.goto 4, 3) := by decide +kernel
theorem dX9_order_118 : decode cX9_order 118 = .ok (.iload_n 2, 1) := by decide +kernel
theorem dX9_order_119 : decode cX9_order 119 = .ok (.istore_n 2, 1) := by decide +kernel
theorem dX9_order_120 : decode cX9_order 120 = .ok (.aload_n 0, 1) := by decide +kernel
theorem dX9_order_121 : decode cX9_order 121 = .ok (.invokevirtual 222, 3) := by decide +kernel
theorem dX9_order_124 : decode cX9_order 124 = .ok (.istore_n 3, 1) := by decide +kernel
theorem dX9_order_125 : decode cX9_order 125 = .ok (.goto (-70), 3) := by decide +kernel
theorem dX9_order_128 : decode cX9_order 128 = .ok (.iload_n 1, 1) := by decide +kernel
theorem dX9_order_129 : decode cX9_order 129 = .ok (.ifCond .ge 7, 3) := by decide +kernel
theorem dX9_order_132 : decode cX9_order 132 = .ok (.iload_n 2, 1) := by decide +kernel
theorem dX9_order_133 : decode cX9_order 133 = .ok (.goto 9, 3) := by decide +kernel
theorem dX9_order_136 : decode cX9_order 136 = .ok (.aload_n 0, 1) := by decide +kernel
theorem dX9_order_137 : decode cX9_order 137 = .ok (.getfield 58, 3) := by decide +kernel
theorem dX9_order_140 : decode cX9_order 140 = .ok (.iload_n 1, 1) := by decide +kernel
theorem dX9_order_141 : decode cX9_order 141 = .ok (.iaload, 1) := by decide +kernel
theorem dX9_order_142 : decode cX9_order 142 = .ok (.ireturn, 1) := by decide +kernel
set_option maxRecDepth 20000 in
theorem ggX9_so_X9_in : GoodIn wsX9_so wsX9_in := goodIn_r _ [8] (by decide +kernel) (by decide +kernel)
set_option maxRecDepth 20000 in
theorem gX9_so_X9_in : GoodIn wsX9_so (va_wsS RX9 90 yX9_in wsX9_in) := goodIn_app (goodIn_of _ (by decide +kernel)) ggX9_so_X9_in
theorem dX9_so_0 : decode cX9_so 0 = .ok (.iload_n 1, 1) := by decide +kernel
theorem dX9_so_1 : decode cX9_so 1 = .ok (.i2l, 1) := by decide +kernel
theorem dX9_so_2 : decode cX9_so 2 = .ok (.lconst 1, 1) := by decide +kernel
theorem dX9_so_3 : decode cX9_so 3 = .ok (.iconst 1, 1) := by decide +kernel
theorem dX9_so_4 : decode cX9_so 4 = .ok (.aload_n 0, 1) := by decide +kernel
theorem dX9_so_5 : decode cX9_so 5 = .ok (.getfield 86, 3) := by decide +kernel
theorem dX9_so_8 : decode cX9_so 8 = .ok (.ishl, 1) := by decide +kernel
theorem dX9_so_9 : decode cX9_so 9 = .ok (.iconst 1, 1) := by decide +kernel
theorem dX9_so_10 : decode cX9_so 10 = .ok (.isub, 1) := by decide +kernel
theorem dX9_so_11 : decode cX9_so 11 = .ok (.i2l, 1) := by decide +kernel
theorem dX9_so_12 : decode cX9_so 12 = .ok (.invokestatic 90, 3) := by decide +kernel
theorem dX9_so_15 : decode cX9_so 15 = .ok (.ifCond .eq 15, 3) := by decide +kernel
theorem dX9_so_18 : decode cX9_so 18 = .ok (.iload_n 2, 1) := by decide +kernel
theorem dX9_so_19 : decode cX9_so 19 = .ok (.i2l, 1) := by decide +kernel
theorem dX9_so_20 : decode cX9_so 20 = .ok (.lconst 0, 1) := by decide +kernel
theorem dX9_so_21 : decode cX9_so 21 = .ok (.ldc2_w 225, 3) := by decide +kernel
theorem dX9_so_24 : decode cX9_so 24 = .ok (.invokestatic 90, 3) := by decide +kernel
theorem dX9_so_27 : decode cX9_so 27 = .ok (.ifCond .ne 5, 3) := by decide +kernel
theorem dX9_so_30 : decode cX9_so 30 = .ok (.iconst (-1), 1) := by decide +kernel
theorem dX9_so_31 : decode cX9_so 31 = .ok (.ireturn, 1) := by decide +kernel
theorem dX9_so_32 : decode cX9_so 32 = .ok (.aload_n 0, 1) := by decide +kernel
theorem dX9_so_33 : decode cX9_so 33 = .ok (.getfield 139, 3) := by decide +kernel
theorem dX9_so_36 : decode cX9_so 36 = .ok (.bipush 6, 2) := by decide +kernel
theorem dX9_so_38 : decode cX9_so 38 = .ok (.if_icmp .le 6, 3) := by decide +kernel
theorem dX9_so_41 : decode cX9_so 41 = .ok (.bipush (-3), 2) := by decide +kernel
theorem dX9_so_43 : decode cX9_so 43 = .ok (.ireturn, 1) := by decide +kernel
theorem dX9_so_44 : decode cX9_so 44 = .ok (.aload_n 0, 1) := by decide +kernel
theorem dX9_so_45 : decode cX9_so 45 = .ok (.invokevirtual 212, 3) := by decide +kernel
theorem dX9_so_48 : decode cX9_so 48 = .ok (.iconst 0, 1) := by decide +kernel
theorem dX9_so_49 : decode cX9_so 49 = .ok (.istore_n 3, 1) := by decide +kernel
theorem dX9_so_50 : decode cX9_so 50 = .ok (.iconst 1, 1) := by decide +kernel
theorem dX9_so_51 : decode cX9_so 51 = .ok (.istore 4, 2) := by decide +kernel
theorem dX9_so_53 : decode cX9_so 53 = .ok (.iload 4, 2) := by decide +kernel
theorem dX9_so_55 : decode cX9_so 55 = .ok (.ifCond .eq 82, 3) := by decide +kernel
theorem dX9_so_58 : decode cX9_so 58 = .ok (.aload_n 0, 1) := by decide +kernel
theorem dX9_so_59 : decode cX9_so 59 = .ok (.invokevirtual 216, 3) := by decide +kernel
theorem dX9_so_62 : decode cX9_so 62 = .ok (.iconst 1, 1) := by decide +kernel
theorem dX9_so_63 : decode cX9_so 63 = .ok (.istore 5, 2) := by decide +kernel
theorem dX9_so_65 : decode cX9_so 65 = .ok (.iconst 0, 1) := by decide +kernel
theorem dX9_so_66 : decode cX9_so 66 = .ok (.istore 6, 2) := by decide +kernel
theorem dX9_so_68 : decode cX9_so 68 = .ok (.iload 6, 2) := by decide +kernel
theorem dX9_so_70 : decode cX9_so 70 = .ok (.aload_n 0, 1) := by decide +kernel
theorem dX9_so_71 : decode cX9_so 71 = .ok (.getfield 86, 3) := by decide +kernel
theorem dX9_so_74 : decode cX9_so 74 = .ok (.if_icmp .ge 41, 3) := by decide +kernel
theorem dX9_so_77 : decode cX9_so 77 = .ok (.iload 5, 2) := by decide +kernel
theorem dX9_so_79 : decode cX9_so 79 = .ok (.ifCond .eq 27, 3) := by decide +kernel
theorem dX9_so_82 : decode cX9_so 82 = .ok (.iload_n 1, 1) := by decide +kernel
theorem dX9_so_83 : decode cX9_so 83 = .ok (.iload 6, 2) := by decide +kernel
theorem dX9_so_85 : decode cX9_so 85 = .ok (.invokestatic 116, 3) := by decide +kernel
theorem dX9_so_88 : decode cX9_so 88 = .ok (.ifCond .eq 14, 3) := by decide +kernel
theorem dX9_so_91 : decode cX9_so 91 = .ok (.aload_n 0, 1) := by decide +kernel
theorem dX9_so_92 : decode cX9_so 92 = .ok (.getfield 25, 3) := by decide +kernel
theorem dX9_so_95 : decode cX9_so 95 = .ok (.iload 6, 2) := by decide +kernel
theorem dX9_so_97 : decode cX9_so 97 = .ok (.iaload, 1) := by decide +kernel
theorem dX9_so_98 : decode cX9_so 98 = .ok (.iload_n 2, 1) := by decide +kernel
theorem dX9_so_99 : decode cX9_so 99 = .ok (.if_icmp .ne 7, 3) := by decide +kernel
theorem dX9_so_102 : decode cX9_so 102 = .ok (.iconst 1, 1) := by decide +kernel
theorem dX9_so_103 : decode cX9_so 103 = .ok (.goto 4, 3) := by decide +kernel
theorem dX9_so_106 : decode cX9_so 106 = .ok (.iconst 0, 1) := by decide +kernel
theorem dX9_so_107 : decode cX9_so 107 = .ok (.istore 5, 2) := by decide +kernel
theorem dX9_so_109 : decode cX9_so 109 = .ok (.iinc 6 1, 3) := by decide +kernel
theorem dX9_so_112 : decode cX9_so 112 = .ok (.goto (-44), 3) := by decide +kernel
theorem dX9_so_115 : decode cX9_so 115 = .ok (.iload_n 3, 1) := by decide +kernel
theorem dX9_so_116 : decode cX9_so 116 = .ok (.iload 5, 2) := by decide +kernel
theorem dX9_so_118 : decode cX9_so 118 = .ok (.ifCond .eq 7, 3) := by decide +kernel
theorem dX9_so_121 : decode cX9_so 121 = .ok (.iconst 1, 1) := by decide +kernel
theorem dX9_so_122 : decode cX9_so 122 = .ok (.goto 4, 3) := by decide +kernel
theorem dX9_so_125 : decode cX9_so 125 = .ok (.iconst 0, 1) := by decide +kernel
theorem dX9_so_126 : decode cX9_so 126 = .ok (.iadd, 1) := by decide +kernel
theorem dX9_so_127 : decode cX9_so 127 = .ok (.istore_n 3, 1) := by decide +kernel
theorem dX9_so_128 : decode cX9_so 128 = .ok (.aload_n 0, 1) := by decide +kernel
theorem dX9_so_129 : decode cX9_so 129 = .ok (.invokevirtual 222, 3) := by decide +kernel
theorem dX9_so_132 : decode cX9_so 132 = .ok (.istore 4, 2) := by decide +kernel
theorem dX9_so_134 : decode cX9_so 134 = .ok (.goto (-81), 3) := by decide +kernel
theorem dX9_so_137 : decode cX9_so 137 = .ok (.iload_n 3, 1) := by decide +kernel
theorem dX9_so_138 : decode cX9_so 138 = .ok (.ireturn, 1) := by decide +kernel
set_option maxRecDepth 20000 in
theorem ggX9_exact_X9_isOne : GoodIn wsX9_exact wsX9_isOne := goodIn_r _ [14, 3, 15, 16, 13, 17, 21, 22, 23, 24, 25, 26, 27, 28, 29, 30, 31, 32, 33, 34, 35, 36, 37, 38, 39, 40, 41, 42, 43, 44, 45, 46, 47, 48, 49, 50, 51] (by decide +kernel) (by decide +kernel)
set_option maxRecDepth 20000 in
theorem gX9_exact_X9_isOne : GoodIn wsX9_exact (wsV RX9 94 RX9 yX9_isOne wsX9_isOne) := goodIn_app (goodIn_of _ (by decide +kernel)) ggX9_exact_X9_isOne
set_option maxRecDepth 20000 in
theorem ggX9_exact_X9_in : GoodIn wsX9_exact wsX9_in := goodIn_r _ [17] (by decide +kernel) (by decide +kernel)
set_option maxRecDepth 20000 in
theorem gX9_exact_X9_in : GoodIn wsX9_exact (va_wsS RX9 90 yX9_in wsX9_in) := goodIn_app (goodIn_of _ (by decide +kernel)) ggX9_exact_X9_in
theorem dX9_exact_0 : decode cX9_exact 0 = .ok (.aload_n 0, 1) := by decide +kernel
theorem dX9_exact_1 : decode cX9_exact 1 = .ok (.iload_n 1, 1) := by decide +kernel
theorem dX9_exact_2 : decode cX9_exact 2 = .ok (.invokevirtual 94, 3) := by decide +kernel
theorem dX9_exact_5 : decode cX9_exact 5 = .ok (.ifCond .eq 25, 3) := by decide +kernel
theorem dX9_exact_8 : decode cX9_exact 8 = .ok (.iload_n 2, 1) := by decide +kernel
theorem dX9_exact_9 : decode cX9_exact 9 = .ok (.i2l, 1) := by decide +kernel
theorem dX9_exact_10 : decode cX9_exact 10 = .ok (.lconst 1, 1) := by decide +kernel
theorem dX9_exact_11 : decode cX9_exact 11 = .ok (.ldc2_w 98, 3) := by decide +kernel
theorem dX9_exact_14 : decode cX9_exact 14 = .ok (.invokestatic 90, 3) := by decide +kernel
theorem dX9_exact_17 : decode cX9_exact 17 = .ok (.ifCond .eq 13, 3) := by decide +kernel
theorem dX9_exact_20 : decode cX9_exact 20 = .ok (.iload_n 3, 1) := by decide +kernel
theorem dX9_exact_21 : decode cX9_exact 21 = .ok (.i2l, 1) := by decide +kernel
theorem dX9_exact_22 : decode cX9_exact 22 = .ok (.lconst 0, 1) := by decide +kernel
theorem dX9_exact_23 : decode cX9_exact 23 = .ok (.lconst 1, 1) := by decide +kernel
theorem dX9_exact_24 : decode cX9_exact 24 = .ok (.invokestatic 90, 3) := by decide +kernel
theorem dX9_exact_27 : decode cX9_exact 27 = .ok (.ifCond .ne 7, 3) := by decide +kernel
theorem dX9_exact_30 : decode cX9_exact 30 = .ok (.ldc2_w 208, 3) := by decide +kernel
theorem dX9_exact_33 : decode cX9_exact 33 = .ok (.lreturn, 1) := by decide +kernel
theorem dX9_exact_34 : decode cX9_exact 34 = .ok (.iconst 0, 1) := by decide +kernel
theorem dX9_exact_35 : decode cX9_exact 35 = .ok (.istore 4, 2) := by decide +kernel
theorem dX9_exact_37 : decode cX9_exact 37 = .ok (.iload 4, 2) := by decide +kernel
theorem dX9_exact_39 : decode cX9_exact 39 = .ok (.aload_n 0, 1) := by decide +kernel
theorem dX9_exact_40 : decode cX9_exact 40 = .ok (.getfield 86, 3) := by decide +kernel
theorem dX9_exact_43 : decode cX9_exact 43 = .ok (.if_icmp .ge 24, 3) := by decide +kernel
theorem dX9_exact_46 : decode cX9_exact 46 = .ok (.aload_n 0, 1) := by decide +kernel
theorem dX9_exact_47 : decode cX9_exact 47 = .ok (.getfield 61, 3) := by decide +kernel
theorem dX9_exact_50 : decode cX9_exact 50 = .ok (.iload 4, 2) := by decide +kernel
theorem dX9_exact_52 : decode cX9_exact 52 = .ok (.aload_n 0, 1) := by decide +kernel
theorem dX9_exact_53 : decode cX9_exact 53 = .ok (.getfield 13, 3) := by decide +kernel
theorem dX9_exact_56 : decode cX9_exact 56 = .ok (.iload 4, 2) := by decide +kernel
theorem dX9_exact_58 : decode cX9_exact 58 = .ok (.iaload, 1) := by decide +kernel
theorem dX9_exact_59 : decode cX9_exact 59 = .ok (.i2l, 1) := by decide +kernel
theorem dX9_exact_60 : decode cX9_exact 60 = .ok (.lastore, 1) := by decide +kernel
theorem dX9_exact_61 : decode cX9_exact 61 = .ok (.iinc 4 1, 3) := by decide +kernel
theorem dX9_exact_64 : decode cX9_exact 64 = .ok (.goto (-27), 3) := by decide +kernel
theorem dX9_exact_67 : decode cX9_exact 67 = .ok (.lconst 1, 1) := by decide +kernel
theorem dX9_exact_68 : decode cX9_exact 68 = .ok (.lstore 4, 2) := by decide +kernel
theorem dX9_exact_70 : decode cX9_exact 70 = .ok (.iconst 0, 1) := by decide +kernel
theorem dX9_exact_71 : decode cX9_exact 71 = .ok (.istore 6, 2) := by decide +kernel
theorem dX9_exact_73 : decode cX9_exact 73 = .ok (.iload 6, 2) := by decide +kernel
theorem dX9_exact_75 : decode cX9_exact 75 = .ok (.iload_n 2, 1) := by decide +kernel
theorem dX9_exact_76 : decode cX9_exact 76 = .ok (.aload_n 0, 1) := by decide +kernel
theorem dX9_exact_77 : decode cX9_exact 77 = .ok (.getfield 139, 3) := by decide +kernel
theorem dX9_exact_80 : decode cX9_exact 80 = .ok (.imul, 1) := by decide +kernel
theorem dX9_exact_81 : decode cX9_exact 81 = .ok (.if_icmp .ge 134, 3) := by decide +kernel
theorem dX9_exact_84 : decode cX9_exact 84 = .ok (.aload_n 0, 1) := by decide +kernel
theorem dX9_exact_85 : decode cX9_exact 85 = .ok (.getfield 22, 3) := by decide +kernel
theorem dX9_exact_88 : decode cX9_exact 88 = .ok (.iconst 3, 1) := by decide +kernel
theorem dX9_exact_89 : decode cX9_exact 89 = .ok (.iload 6, 2) := by decide +kernel
theorem dX9_exact_91 : decode cX9_exact 91 = .ok (.aload_n 0, 1) := by decide +kernel
theorem dX9_exact_92 : decode cX9_exact 92 = .ok (.getfield 139, 3) := by decide +kernel
theorem dX9_exact_95 : decode cX9_exact 95 = .ok (.irem, 1) := by decide +kernel
theorem dX9_exact_96 : decode cX9_exact 96 = .ok (.imul, 1) := by decide +kernel
theorem dX9_exact_97 : decode cX9_exact 97 = .ok (.iaload, 1) := by decide +kernel
theorem dX9_exact_98 : decode cX9_exact 98 = .ok (.istore 7, 2) := by decide +kernel
theorem dX9_exact_100 : decode cX9_exact 100 = .ok (.aload_n 0, 1) := by decide +kernel
theorem dX9_exact_101 : decode cX9_exact 101 = .ok (.getfield 22, 3) := by decide +kernel
theorem dX9_exact_104 : decode cX9_exact 104 = .ok (.iconst 3, 1) := by decide +kernel
theorem dX9_exact_105 : decode cX9_exact 105 = .ok (.iload 6, 2) := by decide +kernel
theorem dX9_exact_107 : decode cX9_exact 107 = .ok (.aload_n 0, 1) := by decide +kernel
theorem dX9_exact_108 : decode cX9_exact 108 = .ok (.getfield 139, 3) := by decide +kernel
theorem dX9_exact_111 : decode cX9_exact 111 = .ok (.irem, 1) := by decide +kernel
theorem dX9_exact_112 : decode cX9_exact 112 = .ok (.imul, 1) := by decide +kernel
theorem dX9_exact_113 : decode cX9_exact 113 = .ok (.iconst 1, 1) := by decide +kernel
theorem dX9_exact_114 : decode cX9_exact 114 = .ok (.iadd, 1) := by decide +kernel
theorem dX9_exact_115 : decode cX9_exact 115 = .ok (.iaload, 1) := by decide +kernel
theorem dX9_exact_116 : decode cX9_exact 116 = .ok (.istore 8, 2) := by decide +kernel
theorem dX9_exact_118 : decode cX9_exact 118 = .ok (.aload_n 0, 1) := by decide +kernel
theorem dX9_exact_119 : decode cX9_exact 119 = .ok (.getfield 16, 3) := by decide +kernel
theorem dX9_exact_122 : decode cX9_exact 122 = .ok (.iload 7, 2) := by decide +kernel
theorem dX9_exact_124 : decode cX9_exact 124 = .ok (.iaload, 1) := by decide +kernel
theorem dX9_exact_125 : decode cX9_exact 125 = .ok (.iload 8, 2) := by decide +kernel
theorem dX9_exact_127 : decode cX9_exact 127 = .ok (.invokestatic 116, 3) := by decide +kernel
theorem dX9_exact_130 : decode cX9_exact 130 = .ok (.ifCond .eq 79, 3) := by decide +kernel
theorem dX9_exact_133 : decode cX9_exact 133 = .ok (.lload 4, 2) := by decide +kernel
theorem dX9_exact_135 : decode cX9_exact 135 = .ok (.ldc2_w 227, 3) := by decide +kernel
theorem dX9_exact_138 : decode cX9_exact 138 = .ok (.lmul, 1) := by decide +kernel
theorem dX9_exact_139 : decode cX9_exact 139 = .ok (.lstore 4, 2) := by decide +kernel
theorem dX9_exact_141 : decode cX9_exact 141 = .ok (.iconst 0, 1) := by decide +kernel
theorem dX9_exact_142 : decode cX9_exact 142 = .ok (.istore 9, 2) := by decide +kernel
theorem dX9_exact_144 : decode cX9_exact 144 = .ok (.iload 9, 2) := by decide +kernel
theorem dX9_exact_146 : decode cX9_exact 146 = .ok (.aload_n 0, 1) := by decide +kernel
theorem dX9_exact_147 : decode cX9_exact 147 = .ok (.getfield 86, 3) := by decide +kernel
theorem dX9_exact_150 : decode cX9_exact 150 = .ok (.if_icmp .ge 22, 3) := by decide +kernel
theorem dX9_exact_153 : decode cX9_exact 153 = .ok (.aload_n 0, 1) := by decide +kernel
theorem dX9_exact_154 : decode cX9_exact 154 = .ok (.getfield 61, 3) := by decide +kernel
theorem dX9_exact_157 : decode cX9_exact 157 = .ok (.iload 9, 2) := by decide +kernel
theorem dX9_exact_159 : decode cX9_exact 159 = .ok (.dup2, 1) := by decide +kernel
theorem dX9_exact_160 : decode cX9_exact 160 = .ok (.laload, 1) := by decide +kernel
theorem dX9_exact_161 : decode cX9_exact 161 = .ok (.ldc2_w 227, 3) := by decide +kernel
theorem dX9_exact_164 : decode cX9_exact 164 = .ok (.lmul, 1) := by decide +kernel
theorem dX9_exact_165 : decode cX9_exact 165 = .ok (.lastore, 1) := by decide +kernel
theorem dX9_exact_166 : decode cX9_exact 166 = .ok (.iinc 9 1, 3) := by decide +kernel
theorem dX9_exact_169 : decode cX9_exact 169 = .ok (.goto (-25), 3) := by decide +kernel
theorem dX9_exact_172 : decode cX9_exact 172 = .ok (.aload_n 0, 1) := by decide +kernel
theorem dX9_exact_173 : decode cX9_exact 173 = .ok (.getfield 61, 3) := by decide +kernel
theorem dX9_exact_176 : decode cX9_exact 176 = .ok (.iload 8, 2) := by decide +kernel
theorem dX9_exact_178 : decode cX9_exact 178 = .ok (.laload, 1) := by decide +kernel
theorem dX9_exact_179 : decode cX9_exact 179 = .ok (.ldc2_w 227, 3) := by decide +kernel
theorem dX9_exact_182 : decode cX9_exact 182 = .ok (.ldiv, 1) := by decide +kernel
theorem dX9_exact_183 : decode cX9_exact 183 = .ok (.lstore 9, 2) := by decide +kernel
theorem dX9_exact_185 : decode cX9_exact 185 = .ok (.aload_n 0, 1) := by decide +kernel
theorem dX9_exact_186 : decode cX9_exact 186 = .ok (.getfield 61, 3) := by decide +kernel
theorem dX9_exact_189 : decode cX9_exact 189 = .ok (.iload 8, 2) := by decide +kernel
theorem dX9_exact_191 : decode cX9_exact 191 = .ok (.dup2, 1) := by decide +kernel
theorem dX9_exact_192 : decode cX9_exact 192 = .ok (.laload, 1) := by decide +kernel
theorem dX9_exact_193 : decode cX9_exact 193 = .ok (.lload 9, 2) := by decide +kernel
theorem dX9_exact_195 : decode cX9_exact 195 = .ok (.lsub, 1) := by decide +kernel
theorem dX9_exact_196 : decode cX9_exact 196 = .ok (.lastore, 1) := by decide +kernel
theorem dX9_exact_197 : decode cX9_exact 197 = .ok (.aload_n 0, 1) := by decide +kernel
theorem dX9_exact_198 : decode cX9_exact 198 = .ok (.getfield 61, 3) := by decide +kernel
theorem dX9_exact_201 : decode cX9_exact 201 = .ok (.iload 7, 2) := by decide +kernel
theorem dX9_exact_203 : decode cX9_exact 203 = .ok (.dup2, 1) := by decide +kernel
theorem dX9_exact_204 : decode cX9_exact 204 = .ok (.laload, 1) := by decide +kernel
theorem dX9_exact_205 : decode cX9_exact 205 = .ok (.lload 9, 2) := by decide +kernel
theorem dX9_exact_207 : decode cX9_exact 207 = .ok (.ladd, 1) := by decide +kernel
theorem dX9_exact_208 : decode cX9_exact 208 = .ok (.lastore, 1) := by decide +kernel
theorem dX9_exact_209 : decode cX9_exact 209 = .ok (.iinc 6 1, 3) := by decide +kernel
theorem dX9_exact_212 : decode cX9_exact 212 = .ok (.goto (-139), 3) := by decide +kernel
theorem dX9_exact_215 : decode cX9_exact 215 = .ok (.aload_n 0, 1) := by decide +kernel
theorem dX9_exact_216 : decode cX9_exact 216 = .ok (.getfield 61, 3) := by decide +kernel
theorem dX9_exact_219 : decode cX9_exact 219 = .ok (.iload_n 1, 1) := by decide +kernel
theorem dX9_exact_220 : decode cX9_exact 220 = .ok (.laload, 1) := by decide +kernel
theorem dX9_exact_221 : decode cX9_exact 221 = .ok (.lstore 6, 2) := by decide +kernel
theorem dX9_exact_223 : decode cX9_exact 223 = .ok (.lload 4, 2) := by decide +kernel
theorem dX9_exact_225 : decode cX9_exact 225 = .ok (.lconst 1, 1) := by decide +kernel
theorem dX9_exact_226 : decode cX9_exact 226 = .ok (.lcmp, 1) := by decide +kernel
theorem dX9_exact_227 : decode cX9_exact 227 = .ok (.ifCond .le 33, 3) := by decide +kernel
theorem dX9_exact_230 : decode cX9_exact 230 = .ok (.lload 6, 2) := by decide +kernel
theorem dX9_exact_232 : decode cX9_exact 232 = .ok (.ldc2_w 227, 3) := by decide +kernel
theorem dX9_exact_235 : decode cX9_exact 235 = .ok (.lrem, 1) := by decide +kernel
theorem dX9_exact_236 : decode cX9_exact 236 = .ok (.lconst 0, 1) := by decide +kernel
theorem dX9_exact_237 : decode cX9_exact 237 = .ok (.lcmp, 1) := by decide +kernel
theorem dX9_exact_238 : decode cX9_exact 238 = .ok (.ifCond .ne 22, 3) := by decide +kernel
theorem dX9_exact_241 : decode cX9_exact 241 = .ok (.lload 6, 2) := by decide +kernel
theorem dX9_exact_243 : decode cX9_exact 243 = .ok (.ldc2_w 227, 3) := by decide +kernel
theorem dX9_exact_246 : decode cX9_exact 246 = .ok (.ldiv, 1) := by decide +kernel
theorem dX9_exact_247 : decode cX9_exact 247 = .ok (.lstore 6, 2) := by decide +kernel
theorem dX9_exact_249 : decode cX9_exact 249 = .ok (.lload 4, 2) := by decide +kernel
theorem dX9_exact_251 : decode cX9_exact 251 = .ok (.ldc2_w 227, 3) := by decide +kernel
theorem dX9_exact_254 : decode cX9_exact 254 = .ok (.ldiv, 1) := by decide +kernel
theorem dX9_exact_255 : decode cX9_exact 255 = .ok (.lstore 4, 2) := by decide +kernel
theorem dX9_exact_257 : decode cX9_exact 257 = .ok (.goto (-34), 3) := by decide +kernel
theorem dX9_exact_260 : decode cX9_exact 260 = .ok (.iload_n 3, 1) := by decide +kernel
theorem dX9_exact_261 : decode cX9_exact 261 = .ok (.ifCond .ne 8, 3) := by decide +kernel
theorem dX9_exact_264 : decode cX9_exact 264 = .ok (.lload 6, 2) := by decide +kernel
theorem dX9_exact_266 : decode cX9_exact 266 = .ok (.goto 5, 3) := by decide +kernel
theorem dX9_exact_269 : decode cX9_exact 269 = .ok (.lload 4, 2) := by decide +kernel
theorem dX9_exact_271 : decode cX9_exact 271 = .ok (.lreturn, 1) := by decide +kernel
set_option maxRecDepth 20000 in
theorem ggX9_shun_X9_isOne : GoodIn wsX9_shun wsX9_isOne := goodIn_r _ [6, 1, 7, 8, 5, 9, 41, 42, 43, 44, 45, 46, 47, 48, 49, 50, 51, 52, 53, 54, 55, 56, 57, 58, 59, 60, 61, 62, 63, 64, 65, 66, 67, 68, 69, 70, 71] (by decide +kernel) (by decide +kernel)
set_option maxRecDepth 20000 in
theorem gX9_shun_X9_isOne : GoodIn wsX9_shun (wsV RX9 94 RX9 yX9_isOne wsX9_isOne) := goodIn_app (goodIn_of _ (by decide +kernel)) ggX9_shun_X9_isOne
theorem dX9_shun_0 : decode cX9_shun 0 = .ok (.aload_n 0, 1) := by decide +kernel
theorem dX9_shun_1 : decode cX9_shun 1 = .ok (.iload_n 1, 1) := by decide +kernel
theorem dX9_shun_2 : decode cX9_shun 2 = .ok (.invokevirtual 94, 3) := by decide +kernel
theorem dX9_shun_5 : decode cX9_shun 5 = .ok (.ifCond .ne 5, 3) := by decide +kernel
theorem dX9_shun_8 : decode cX9_shun 8 = .ok (.iconst (-1), 1) := by decide +kernel
theorem dX9_shun_9 : decode cX9_shun 9 = .ok (.ireturn, 1) := by decide +kernel
theorem dX9_shun_10 : decode cX9_shun 10 = .ok (.aload_n 0, 1) := by decide +kernel
theorem dX9_shun_11 : decode cX9_shun 11 = .ok (.iload_n 1, 1) := by decide +kernel
theorem dX9_shun_12 : decode cX9_shun 12 = .ok (.bipush 9, 2) := by decide +kernel
theorem dX9_shun_14 : decode cX9_shun 14 = .ok (.invokevirtual 229, 3) := by decide +kernel
theorem dX9_shun_17 : decode cX9_shun 17 = .ok (.istore_n 2, 1) := by decide +kernel
theorem dX9_shun_18 : decode cX9_shun 18 = .ok (.bipush 9, 2) := by decide +kernel
theorem dX9_shun_20 : decode cX9_shun 20 = .ok (.istore_n 3, 1) := by decide +kernel
theorem dX9_shun_21 : decode cX9_shun 21 = .ok (.iconst 0, 1) := by decide +kernel
theorem dX9_shun_22 : decode cX9_shun 22 = .ok (.istore 4, 2) := by decide +kernel
theorem dX9_shun_24 : decode cX9_shun 24 = .ok (.iload 4, 2) := by decide +kernel
theorem dX9_shun_26 : decode cX9_shun 26 = .ok (.aload_n 0, 1) := by decide +kernel
theorem dX9_shun_27 : decode cX9_shun 27 = .ok (.getfield 86, 3) := by decide +kernel
theorem dX9_shun_30 : decode cX9_shun 30 = .ok (.if_icmp .ge 54, 3) := by decide +kernel
theorem dX9_shun_33 : decode cX9_shun 33 = .ok (.iload 4, 2) := by decide +kernel
theorem dX9_shun_35 : decode cX9_shun 35 = .ok (.iload_n 1, 1) := by decide +kernel
theorem dX9_shun_36 : decode cX9_shun 36 = .ok (.if_icmp .ne 7, 3) := by decide +kernel
theorem dX9_shun_39 : decode cX9_shun 39 = .ok (.iconst (-1), 1) := by decide +kernel
theorem dX9_shun_40 : decode cX9_shun 40 = .ok (.goto 10, 3) := by decide +kernel
theorem dX9_shun_43 : decode cX9_shun 43 = .ok (.aload_n 0, 1) := by decide +kernel
theorem dX9_shun_44 : decode cX9_shun 44 = .ok (.iload_n 1, 1) := by decide +kernel
theorem dX9_shun_45 : decode cX9_shun 45 = .ok (.iload 4, 2) := by decide +kernel
theorem dX9_shun_47 : decode cX9_shun 47 = .ok (.invokevirtual 229, 3) := by decide +kernel
theorem dX9_shun_50 : decode cX9_shun 50 = .ok (.istore 5, 2) := by decide +kernel
theorem dX9_shun_52 : decode cX9_shun 52 = .ok (.iload 5, 2) := by decide +kernel
theorem dX9_shun_54 : decode cX9_shun 54 = .ok (.iload_n 2, 1) := by decide +kernel
theorem dX9_shun_55 : decode cX9_shun 55 = .ok (.if_icmp .le 8, 3) := by decide +kernel
theorem dX9_shun_58 : decode cX9_shun 58 = .ok (.iload 4, 2) := by decide +kernel
theorem dX9_shun_60 : decode cX9_shun 60 = .ok (.goto 4, 3) := by decide +kernel
theorem dX9_shun_63 : decode cX9_shun 63 = .ok (.iload_n 3, 1) := by decide +kernel
theorem dX9_shun_64 : decode cX9_shun 64 = .ok (.istore_n 3, 1) := by decide +kernel
theorem dX9_shun_65 : decode cX9_shun 65 = .ok (.iload 5, 2) := by decide +kernel
theorem dX9_shun_67 : decode cX9_shun 67 = .ok (.iload_n 2, 1) := by decide +kernel
theorem dX9_shun_68 : decode cX9_shun 68 = .ok (.if_icmp .le 8, 3) := by decide +kernel
theorem dX9_shun_71 : decode cX9_shun 71 = .ok (.iload 5, 2) := by decide +kernel
theorem dX9_shun_73 : decode cX9_shun 73 = .ok (.goto 4, 3) := by decide +kernel
theorem dX9_shun_76 : decode cX9_shun 76 = .ok (.iload_n 2, 1) := by decide +kernel
theorem dX9_shun_77 : decode cX9_shun 77 = .ok (.istore_n 2, 1) := by decide +kernel
theorem dX9_shun_78 : decode cX9_shun 78 = .ok (.iinc 4 1, 3) := by decide +kernel
theorem dX9_shun_81 : decode cX9_shun 81 = .ok (.goto (-57), 3) := by decide +kernel
theorem dX9_shun_84 : decode cX9_shun 84 = .ok (.iload_n 3, 1) := by decide +kernel
theorem dX9_shun_85 : decode cX9_shun 85 = .ok (.ireturn, 1) := by decide +kernel
theorem dX9_carried_0 : decode cX9_carried 0 = .ok (.iload_n 1, 1) := by decide +kernel
theorem dX9_carried_1 : decode cX9_carried 1 = .ok (.bipush 20, 2) := by decide +kernel
theorem dX9_carried_3 : decode cX9_carried 3 = .ok (.if_icmp .ge 179, 3) := by decide +kernel
theorem dX9_carried_6 : decode cX9_carried 6 = .ok (.iload_n 1, 1) := by decide +kernel
theorem dX9_carried_7 : decode cX9_carried 7 = .ok (.iconst 5, 1) := by decide +kernel
theorem dX9_carried_8 : decode cX9_carried 8 = .ok (.irem, 1) := by decide +kernel
theorem dX9_carried_9 : decode cX9_carried 9 = .ok (.istore 4, 2) := by decide +kernel
theorem dX9_carried_11 : decode cX9_carried 11 = .ok (.iload_n 1, 1) := by decide +kernel
theorem dX9_carried_12 : decode cX9_carried 12 = .ok (.iconst 5, 1) := by decide +kernel
theorem dX9_carried_13 : decode cX9_carried 13 = .ok (.idiv, 1) := by decide +kernel
theorem dX9_carried_14 : decode cX9_carried 14 = .ok (.istore 5, 2) := by decide +kernel
theorem dX9_carried_16 : decode cX9_carried 16 = .ok (.aload_n 0, 1) := by decide +kernel
theorem dX9_carried_17 : decode cX9_carried 17 = .ok (.getfield 7, 3) := by decide +kernel
theorem dX9_carried_20 : decode cX9_carried 20 = .ok (.iload 4, 2) := by decide +kernel
theorem dX9_carried_22 : decode cX9_carried 22 = .ok (.iload_n 3, 1) := by decide +kernel
theorem dX9_carried_23 : decode cX9_carried 23 = .ok (.ifCond .eq 12, 3) := by decide +kernel
theorem dX9_carried_26 : decode cX9_carried 26 = .ok (.iload 5, 2) := by decide +kernel
theorem dX9_carried_28 : decode cX9_carried 28 = .ok (.ifCond .ne 7, 3) := by decide +kernel
theorem dX9_carried_31 : decode cX9_carried 31 = .ok (.iload_n 2, 1) := by decide +kernel
theorem dX9_carried_32 : decode cX9_carried 32 = .ok (.goto 10, 3) := by decide +kernel
theorem dX9_carried_35 : decode cX9_carried 35 = .ok (.aload_n 0, 1) := by decide +kernel
theorem dX9_carried_36 : decode cX9_carried 36 = .ok (.getfield 7, 3) := by decide +kernel
theorem dX9_carried_39 : decode cX9_carried 39 = .ok (.iload 4, 2) := by decide +kernel
theorem dX9_carried_41 : decode cX9_carried 41 = .ok (.iaload, 1) := by decide +kernel
theorem dX9_carried_42 : decode cX9_carried 42 = .ok (.iastore, 1) := by decide +kernel
theorem dX9_carried_43 : decode cX9_carried 43 = .ok (.aload_n 0, 1) := by decide +kernel
theorem dX9_carried_44 : decode cX9_carried 44 = .ok (.getfield 13, 3) := by decide +kernel
theorem dX9_carried_47 : decode cX9_carried 47 = .ok (.iload 4, 2) := by decide +kernel
theorem dX9_carried_49 : decode cX9_carried 49 = .ok (.iload_n 3, 1) := by decide +kernel
theorem dX9_carried_50 : decode cX9_carried 50 = .ok (.ifCond .eq 13, 3) := by decide +kernel
theorem dX9_carried_53 : decode cX9_carried 53 = .ok (.iload 5, 2) := by decide +kernel
theorem dX9_carried_55 : decode cX9_carried 55 = .ok (.iconst 1, 1) := by decide +kernel
theorem dX9_carried_56 : decode cX9_carried 56 = .ok (.if_icmp .ne 7, 3) := by decide +kernel
theorem dX9_carried_59 : decode cX9_carried 59 = .ok (.iload_n 2, 1) := by decide +kernel
theorem dX9_carried_60 : decode cX9_carried 60 = .ok (.goto 10, 3) := by decide +kernel
theorem dX9_carried_63 : decode cX9_carried 63 = .ok (.aload_n 0, 1) := by decide +kernel
theorem dX9_carried_64 : decode cX9_carried 64 = .ok (.getfield 13, 3) := by decide +kernel
theorem dX9_carried_67 : decode cX9_carried 67 = .ok (.iload 4, 2) := by decide +kernel
theorem dX9_carried_69 : decode cX9_carried 69 = .ok (.iaload, 1) := by decide +kernel
theorem dX9_carried_70 : decode cX9_carried 70 = .ok (.iastore, 1) := by decide +kernel
theorem dX9_carried_71 : decode cX9_carried 71 = .ok (.aload_n 0, 1) := by decide +kernel
theorem dX9_carried_72 : decode cX9_carried 72 = .ok (.getfield 16, 3) := by decide +kernel
theorem dX9_carried_75 : decode cX9_carried 75 = .ok (.iload 4, 2) := by decide +kernel
theorem dX9_carried_77 : decode cX9_carried 77 = .ok (.iload_n 3, 1) := by decide +kernel
theorem dX9_carried_78 : decode cX9_carried 78 = .ok (.ifCond .eq 13, 3) := by decide +kernel
theorem dX9_carried_81 : decode cX9_carried 81 = .ok (.iload 5, 2) := by decide +kernel
theorem dX9_carried_83 : decode cX9_carried 83 = .ok (.iconst 2, 1) := by decide +kernel
theorem dX9_carried_84 : decode cX9_carried 84 = .ok (.if_icmp .ne 7, 3) := by decide +kernel
theorem dX9_carried_87 : decode cX9_carried 87 = .ok (.iload_n 2, 1) := by decide +kernel
theorem dX9_carried_88 : decode cX9_carried 88 = .ok (.goto 10, 3) := by decide +kernel
theorem dX9_carried_91 : decode cX9_carried 91 = .ok (.aload_n 0, 1) := by decide +kernel
theorem dX9_carried_92 : decode cX9_carried 92 = .ok (.getfield 16, 3) := by decide +kernel
theorem dX9_carried_95 : decode cX9_carried 95 = .ok (.iload 4, 2) := by decide +kernel
theorem dX9_carried_97 : decode cX9_carried 97 = .ok (.iaload, 1) := by decide +kernel
theorem dX9_carried_98 : decode cX9_carried 98 = .ok (.iastore, 1) := by decide +kernel
theorem dX9_carried_99 : decode cX9_carried 99 = .ok (.aload_n 0, 1) := by decide +kernel
theorem dX9_carried_100 : decode cX9_carried 100 = .ok (.getfield 19, 3) := by decide +kernel
theorem dX9_carried_103 : decode cX9_carried 103 = .ok (.iload 4, 2) := by decide +kernel
theorem dX9_carried_105 : decode cX9_carried 105 = .ok (.iload_n 3, 1) := by decide +kernel
theorem dX9_carried_106 : decode cX9_carried 106 = .ok (.ifCond .eq 13, 3) := by decide +kernel
theorem dX9_carried_109 : decode cX9_carried 109 = .ok (.iload 5, 2) := by decide +kernel
theorem dX9_carried_111 : decode cX9_carried 111 = .ok (.iconst 3, 1) := by decide +kernel
theorem dX9_carried_112 : decode cX9_carried 112 = .ok (.if_icmp .ne 7, 3) := by decide +kernel
theorem dX9_carried_115 : decode cX9_carried 115 = .ok (.iload_n 2, 1) := by decide +kernel
theorem dX9_carried_116 : decode cX9_carried 116 = .ok (.goto 10, 3) := by decide +kernel
theorem dX9_carried_119 : decode cX9_carried 119 = .ok (.aload_n 0, 1) := by decide +kernel
theorem dX9_carried_120 : decode cX9_carried 120 = .ok (.getfield 19, 3) := by decide +kernel
theorem dX9_carried_123 : decode cX9_carried 123 = .ok (.iload 4, 2) := by decide +kernel
theorem dX9_carried_125 : decode cX9_carried 125 = .ok (.iaload, 1) := by decide +kernel
theorem dX9_carried_126 : decode cX9_carried 126 = .ok (.iastore, 1) := by decide +kernel
theorem dX9_carried_127 : decode cX9_carried 127 = .ok (.iload 5, 2) := by decide +kernel
theorem dX9_carried_129 : decode cX9_carried 129 = .ok (.ifCond .ne 13, 3) := by decide +kernel
theorem dX9_carried_132 : decode cX9_carried 132 = .ok (.aload_n 0, 1) := by decide +kernel
theorem dX9_carried_133 : decode cX9_carried 133 = .ok (.getfield 7, 3) := by decide +kernel
theorem dX9_carried_136 : decode cX9_carried 136 = .ok (.iload 4, 2) := by decide +kernel
theorem dX9_carried_138 : decode cX9_carried 138 = .ok (.iaload, 1) := by decide +kernel
theorem dX9_carried_139 : decode cX9_carried 139 = .ok (.goto 42, 3) := by decide +kernel
theorem dX9_carried_142 : decode cX9_carried 142 = .ok (.iload 5, 2) := by decide +kernel
theorem dX9_carried_144 : decode cX9_carried 144 = .ok (.iconst 1, 1) := by decide +kernel
theorem dX9_carried_145 : decode cX9_carried 145 = .ok (.if_icmp .ne 13, 3) := by decide +kernel
theorem dX9_carried_148 : decode cX9_carried 148 = .ok (.aload_n 0, 1) := by decide +kernel
theorem dX9_carried_149 : decode cX9_carried 149 = .ok (.getfield 13, 3) := by decide +kernel
theorem dX9_carried_152 : decode cX9_carried 152 = .ok (.iload 4, 2) := by decide +kernel
theorem dX9_carried_154 : decode cX9_carried 154 = .ok (.iaload, 1) := by decide +kernel
theorem dX9_carried_155 : decode cX9_carried 155 = .ok (.goto 26, 3) := by decide +kernel
theorem dX9_carried_158 : decode cX9_carried 158 = .ok (.iload 5, 2) := by decide +kernel
theorem dX9_carried_160 : decode cX9_carried 160 = .ok (.iconst 2, 1) := by decide +kernel
theorem dX9_carried_161 : decode cX9_carried 161 = .ok (.if_icmp .ne 13, 3) := by decide +kernel
theorem dX9_carried_164 : decode cX9_carried 164 = .ok (.aload_n 0, 1) := by decide +kernel
theorem dX9_carried_165 : decode cX9_carried 165 = .ok (.getfield 16, 3) := by decide +kernel
theorem dX9_carried_168 : decode cX9_carried 168 = .ok (.iload 4, 2) := by decide +kernel
theorem dX9_carried_170 : decode cX9_carried 170 = .ok (.iaload, 1) := by decide +kernel
theorem dX9_carried_171 : decode cX9_carried 171 = .ok (.goto 10, 3) := by decide +kernel
theorem dX9_carried_174 : decode cX9_carried 174 = .ok (.aload_n 0, 1) := by decide +kernel
theorem dX9_carried_175 : decode cX9_carried 175 = .ok (.getfield 19, 3) := by decide +kernel
theorem dX9_carried_178 : decode cX9_carried 178 = .ok (.iload 4, 2) := by decide +kernel
theorem dX9_carried_180 : decode cX9_carried 180 = .ok (.iaload, 1) := by decide +kernel
theorem dX9_carried_181 : decode cX9_carried 181 = .ok (.ireturn, 1) := by decide +kernel
theorem dX9_carried_182 : decode cX9_carried 182 = .ok (.iload_n 1, 1) := by decide +kernel
theorem dX9_carried_183 : decode cX9_carried 183 = .ok (.bipush 44, 2) := by decide +kernel
theorem dX9_carried_185 : decode cX9_carried 185 = .ok (.if_icmp .ge 39, 3) := by decide +kernel
theorem dX9_carried_188 : decode cX9_carried 188 = .ok (.aload_n 0, 1) := by decide +kernel
theorem dX9_carried_189 : decode cX9_carried 189 = .ok (.getfield 22, 3) := by decide +kernel
theorem dX9_carried_192 : decode cX9_carried 192 = .ok (.iload_n 1, 1) := by decide +kernel
theorem dX9_carried_193 : decode cX9_carried 193 = .ok (.bipush 20, 2) := by decide +kernel
theorem dX9_carried_195 : decode cX9_carried 195 = .ok (.isub, 1) := by decide +kernel
theorem dX9_carried_196 : decode cX9_carried 196 = .ok (.iload_n 3, 1) := by decide +kernel
theorem dX9_carried_197 : decode cX9_carried 197 = .ok (.ifCond .eq 7, 3) := by decide +kernel
theorem dX9_carried_200 : decode cX9_carried 200 = .ok (.iload_n 2, 1) := by decide +kernel
theorem dX9_carried_201 : decode cX9_carried 201 = .ok (.goto 12, 3) := by decide +kernel
theorem dX9_carried_204 : decode cX9_carried 204 = .ok (.aload_n 0, 1) := by decide +kernel
theorem dX9_carried_205 : decode cX9_carried 205 = .ok (.getfield 22, 3) := by decide +kernel
theorem dX9_carried_208 : decode cX9_carried 208 = .ok (.iload_n 1, 1) := by decide +kernel
theorem dX9_carried_209 : decode cX9_carried 209 = .ok (.bipush 20, 2) := by decide +kernel
theorem dX9_carried_211 : decode cX9_carried 211 = .ok (.isub, 1) := by decide +kernel
theorem dX9_carried_212 : decode cX9_carried 212 = .ok (.iaload, 1) := by decide +kernel
theorem dX9_carried_213 : decode cX9_carried 213 = .ok (.iastore, 1) := by decide +kernel
theorem dX9_carried_214 : decode cX9_carried 214 = .ok (.aload_n 0, 1) := by decide +kernel
theorem dX9_carried_215 : decode cX9_carried 215 = .ok (.getfield 22, 3) := by decide +kernel
theorem dX9_carried_218 : decode cX9_carried 218 = .ok (.iload_n 1, 1) := by decide +kernel
theorem dX9_carried_219 : decode cX9_carried 219 = .ok (.bipush 20, 2) := by decide +kernel
theorem dX9_carried_221 : decode cX9_carried 221 = .ok (.isub, 1) := by decide +kernel
theorem dX9_carried_222 : decode cX9_carried 222 = .ok (.iaload, 1) := by decide +kernel
theorem dX9_carried_223 : decode cX9_carried 223 = .ok (.ireturn, 1) := by decide +kernel
theorem dX9_carried_224 : decode cX9_carried 224 = .ok (.aload_n 0, 1) := by decide +kernel
theorem dX9_carried_225 : decode cX9_carried 225 = .ok (.iload_n 3, 1) := by decide +kernel
theorem dX9_carried_226 : decode cX9_carried 226 = .ok (.ifCond .eq 13, 3) := by decide +kernel
theorem dX9_carried_229 : decode cX9_carried 229 = .ok (.iload_n 1, 1) := by decide +kernel
theorem dX9_carried_230 : decode cX9_carried 230 = .ok (.bipush 44, 2) := by decide +kernel
theorem dX9_carried_232 : decode cX9_carried 232 = .ok (.if_icmp .ne 7, 3) := by decide +kernel
theorem dX9_carried_235 : decode cX9_carried 235 = .ok (.iload_n 2, 1) := by decide +kernel
theorem dX9_carried_236 : decode cX9_carried 236 = .ok (.goto 7, 3) := by decide +kernel
theorem dX9_carried_239 : decode cX9_carried 239 = .ok (.aload_n 0, 1) := by decide +kernel
theorem dX9_carried_240 : decode cX9_carried 240 = .ok (.getfield 86, 3) := by decide +kernel
theorem dX9_carried_243 : decode cX9_carried 243 = .ok (.putfield 86, 3) := by decide +kernel
theorem dX9_carried_246 : decode cX9_carried 246 = .ok (.aload_n 0, 1) := by decide +kernel
theorem dX9_carried_247 : decode cX9_carried 247 = .ok (.iload_n 3, 1) := by decide +kernel

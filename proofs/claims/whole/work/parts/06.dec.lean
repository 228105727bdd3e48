theorem dX7_init_0 : decode cX7_init 0 = .ok (.aload_n 0, 1) := by decide +kernel
theorem dX7_init_1 : decode cX7_init 1 = .ok (.invokespecial 1, 3) := by decide +kernel
theorem dX7_init_4 : decode cX7_init 4 = .ok (.aload_n 0, 1) := by decide +kernel
theorem dX7_init_5 : decode cX7_init 5 = .ok (.sipush 578, 3) := by decide +kernel
theorem dX7_init_8 : decode cX7_init 8 = .ok (.newarray .int, 2) := by decide +kernel
theorem dX7_init_10 : decode cX7_init 10 = .ok (.putfield 7, 3) := by decide +kernel
theorem dX7_init_13 : decode cX7_init 13 = .ok (.aload_n 0, 1) := by decide +kernel
theorem dX7_init_14 : decode cX7_init 14 = .ok (.sipush 3468, 3) := by decide +kernel
theorem dX7_init_17 : decode cX7_init 17 = .ok (.newarray .int, 2) := by decide +kernel
theorem dX7_init_19 : decode cX7_init 19 = .ok (.putfield 13, 3) := by decide +kernel
theorem dX7_init_22 : decode cX7_init 22 = .ok (.aload_n 0, 1) := by decide +kernel
theorem dX7_init_23 : decode cX7_init 23 = .ok (.bipush 60, 2) := by decide +kernel
theorem dX7_init_25 : decode cX7_init 25 = .ok (.newarray .int, 2) := by decide +kernel
theorem dX7_init_27 : decode cX7_init 27 = .ok (.putfield 16, 3) := by decide +kernel
theorem dX7_init_30 : decode cX7_init 30 = .ok (.aload_n 0, 1) := by decide +kernel
theorem dX7_init_31 : decode cX7_init 31 = .ok (.bipush 96, 2) := by decide +kernel
theorem dX7_init_33 : decode cX7_init 33 = .ok (.newarray .int, 2) := by decide +kernel
theorem dX7_init_35 : decode cX7_init 35 = .ok (.putfield 19, 3) := by decide +kernel
theorem dX7_init_38 : decode cX7_init 38 = .ok (.aload_n 0, 1) := by decide +kernel
theorem dX7_init_39 : decode cX7_init 39 = .ok (.bipush 96, 2) := by decide +kernel
theorem dX7_init_41 : decode cX7_init 41 = .ok (.newarray .int, 2) := by decide +kernel
theorem dX7_init_43 : decode cX7_init 43 = .ok (.putfield 22, 3) := by decide +kernel
theorem dX7_init_46 : decode cX7_init 46 = .ok (.aload_n 0, 1) := by decide +kernel
theorem dX7_init_47 : decode cX7_init 47 = .ok (.bipush 96, 2) := by decide +kernel
theorem dX7_init_49 : decode cX7_init 49 = .ok (.newarray .int, 2) := by decide +kernel
theorem dX7_init_51 : decode cX7_init 51 = .ok (.putfield 25, 3) := by decide +kernel
theorem dX7_init_54 : decode cX7_init 54 = .ok (.aload_n 0, 1) := by decide +kernel
theorem dX7_init_55 : decode cX7_init 55 = .ok (.bipush 96, 2) := by decide +kernel
theorem dX7_init_57 : decode cX7_init 57 = .ok (.newarray .int, 2) := by decide +kernel
theorem dX7_init_59 : decode cX7_init 59 = .ok (.putfield 28, 3) := by decide +kernel
theorem dX7_init_62 : decode cX7_init 62 = .ok (.aload_n 0, 1) := by decide +kernel
theorem dX7_init_63 : decode cX7_init 63 = .ok (.sipush 960, 3) := by decide +kernel
theorem dX7_init_66 : decode cX7_init 66 = .ok (.newarray .int, 2) := by decide +kernel
theorem dX7_init_68 : decode cX7_init 68 = .ok (.putfield 31, 3) := by decide +kernel
theorem dX7_init_71 : decode cX7_init 71 = .ok (.aload_n 0, 1) := by decide +kernel
theorem dX7_init_72 : decode cX7_init 72 = .ok (.sipush 960, 3) := by decide +kernel
theorem dX7_init_75 : decode cX7_init 75 = .ok (.newarray .int, 2) := by decide +kernel
theorem dX7_init_77 : decode cX7_init 77 = .ok (.putfield 34, 3) := by decide +kernel
theorem dX7_init_80 : decode cX7_init 80 = .ok (.aload_n 0, 1) := by decide +kernel
theorem dX7_init_81 : decode cX7_init 81 = .ok (.sipush 960, 3) := by decide +kernel
theorem dX7_init_84 : decode cX7_init 84 = .ok (.newarray .int, 2) := by decide +kernel
theorem dX7_init_86 : decode cX7_init 86 = .ok (.putfield 37, 3) := by decide +kernel
theorem dX7_init_89 : decode cX7_init 89 = .ok (.aload_n 0, 1) := by decide +kernel
theorem dX7_init_90 : decode cX7_init 90 = .ok (.bipush 36, 2) := by decide +kernel
theorem dX7_init_92 : decode cX7_init 92 = .ok (.newarray .int, 2) := by decide +kernel
theorem dX7_init_94 : decode cX7_init 94 = .ok (.putfield 40, 3) := by decide +kernel
theorem dX7_init_97 : decode cX7_init 97 = .ok (.aload_n 0, 1) := by decide +kernel
theorem dX7_init_98 : decode cX7_init 98 = .ok (.bipush 96, 2) := by decide +kernel
theorem dX7_init_100 : decode cX7_init 100 = .ok (.newarray .int, 2) := by decide +kernel
theorem dX7_init_102 : decode cX7_init 102 = .ok (.putfield 43, 3) := by decide +kernel
theorem dX7_init_105 : decode cX7_init 105 = .ok (.aload_n 0, 1) := by decide +kernel
theorem dX7_init_106 : decode cX7_init 106 = .ok (.getfield 7, 3) := by decide +kernel
theorem dX7_init_109 : decode cX7_init 109 = .ok (.sipush 384, 3) := by decide +kernel
theorem dX7_init_112 : decode cX7_init 112 = .ok (.iconst 1, 1) := by decide +kernel
theorem dX7_init_113 : decode cX7_init 113 = .ok (.iastore, 1) := by decide +kernel
theorem dX7_init_114 : decode cX7_init 114 = .ok (.aload_n 0, 1) := by decide +kernel
theorem dX7_init_115 : decode cX7_init 115 = .ok (.getfield 7, 3) := by decide +kernel
theorem dX7_init_118 : decode cX7_init 118 = .ok (.sipush 385, 3) := by decide +kernel
theorem dX7_init_121 : decode cX7_init 121 = .ok (.iconst 2, 1) := by decide +kernel
theorem dX7_init_122 : decode cX7_init 122 = .ok (.iastore, 1) := by decide +kernel
theorem dX7_init_123 : decode cX7_init 123 = .ok (.return_, 1) := by decide +kernel
theorem dX7_thrown_0 : decode cX7_thrown 0 = .ok (.aload_n 0, 1) := by decide +kernel
theorem dX7_thrown_1 : decode cX7_thrown 1 = .ok (.getfield 46, 3) := by decide +kernel
theorem dX7_thrown_4 : decode cX7_thrown 4 = .ok (.ireturn, 1) := by decide +kernel
theorem dX7_within_0 : decode cX7_within 0 = .ok (.iload_n 0, 1) := by decide +kernel
theorem dX7_within_1 : decode cX7_within 1 = .ok (.iload_n 1, 1) := by decide +kernel
theorem dX7_within_2 : decode cX7_within 2 = .ok (.if_icmp .lt 12, 3) := by decide +kernel
theorem dX7_within_5 : decode cX7_within 5 = .ok (.iload_n 0, 1) := by decide +kernel
theorem dX7_within_6 : decode cX7_within 6 = .ok (.iload_n 2, 1) := by decide +kernel
theorem dX7_within_7 : decode cX7_within 7 = .ok (.if_icmp .gt 7, 3) := by decide +kernel
theorem dX7_within_10 : decode cX7_within 10 = .ok (.iconst 1, 1) := by decide +kernel
theorem dX7_within_11 : decode cX7_within 11 = .ok (.goto 4, 3) := by decide +kernel
theorem dX7_within_14 : decode cX7_within 14 = .ok (.iconst 0, 1) := by decide +kernel
theorem dX7_within_15 : decode cX7_within 15 = .ok (.ireturn, 1) := by decide +kernel
theorem dX7_ones_0 : decode cX7_ones 0 = .ok (.iconst 0, 1) := by decide +kernel
theorem dX7_ones_1 : decode cX7_ones 1 = .ok (.istore_n 1, 1) := by decide +kernel
theorem dX7_ones_2 : decode cX7_ones 2 = .ok (.iconst 0, 1) := by decide +kernel
theorem dX7_ones_3 : decode cX7_ones 3 = .ok (.istore_n 2, 1) := by decide +kernel
theorem dX7_ones_4 : decode cX7_ones 4 = .ok (.iload_n 2, 1) := by decide +kernel
theorem dX7_ones_5 : decode cX7_ones 5 = .ok (.bipush 26, 2) := by decide +kernel
theorem dX7_ones_7 : decode cX7_ones 7 = .ok (.if_icmp .ge 17, 3) := by decide +kernel
theorem dX7_ones_10 : decode cX7_ones 10 = .ok (.iload_n 1, 1) := by decide +kernel
theorem dX7_ones_11 : decode cX7_ones 11 = .ok (.iload_n 0, 1) := by decide +kernel
theorem dX7_ones_12 : decode cX7_ones 12 = .ok (.iload_n 2, 1) := by decide +kernel
theorem dX7_ones_13 : decode cX7_ones 13 = .ok (.ishr, 1) := by decide +kernel
theorem dX7_ones_14 : decode cX7_ones 14 = .ok (.iconst 1, 1) := by decide +kernel
theorem dX7_ones_15 : decode cX7_ones 15 = .ok (.iand, 1) := by decide +kernel
theorem dX7_ones_16 : decode cX7_ones 16 = .ok (.iadd, 1) := by decide +kernel
theorem dX7_ones_17 : decode cX7_ones 17 = .ok (.istore_n 1, 1) := by decide +kernel
theorem dX7_ones_18 : decode cX7_ones 18 = .ok (.iinc 2 1, 3) := by decide +kernel
theorem dX7_ones_21 : decode cX7_ones 21 = .ok (.goto (-17), 3) := by decide +kernel
theorem dX7_ones_24 : decode cX7_ones 24 = .ok (.iload_n 1, 1) := by decide +kernel
theorem dX7_ones_25 : decode cX7_ones 25 = .ok (.ireturn, 1) := by decide +kernel
theorem dX7_save_0 : decode cX7_save 0 = .ok (.aload_n 0, 1) := by decide +kernel
theorem dX7_save_1 : decode cX7_save 1 = .ok (.getfield 50, 3) := by decide +kernel
theorem dX7_save_4 : decode cX7_save 4 = .ok (.bipush 6, 2) := by decide +kernel
theorem dX7_save_6 : decode cX7_save 6 = .ok (.if_icmp .ne 46, 3) := by decide +kernel
theorem dX7_save_9 : decode cX7_save 9 = .ok (.sipush 578, 3) := by decide +kernel
theorem dX7_save_12 : decode cX7_save 12 = .ok (.istore_n 1, 1) := by decide +kernel
theorem dX7_save_13 : decode cX7_save 13 = .ok (.iload_n 1, 1) := by decide +kernel
theorem dX7_save_14 : decode cX7_save 14 = .ok (.sipush 3468, 3) := by decide +kernel
theorem dX7_save_17 : decode cX7_save 17 = .ok (.if_icmp .ge 25, 3) := by decide +kernel
theorem dX7_save_20 : decode cX7_save 20 = .ok (.aload_n 0, 1) := by decide +kernel
theorem dX7_save_21 : decode cX7_save 21 = .ok (.getfield 13, 3) := by decide +kernel
theorem dX7_save_24 : decode cX7_save 24 = .ok (.iload_n 1, 1) := by decide +kernel
theorem dX7_save_25 : decode cX7_save 25 = .ok (.sipush 578, 3) := by decide +kernel
theorem dX7_save_28 : decode cX7_save 28 = .ok (.isub, 1) := by decide +kernel
theorem dX7_save_29 : decode cX7_save 29 = .ok (.aload_n 0, 1) := by decide +kernel
theorem dX7_save_30 : decode cX7_save 30 = .ok (.getfield 13, 3) := by decide +kernel
theorem dX7_save_33 : decode cX7_save 33 = .ok (.iload_n 1, 1) := by decide +kernel
theorem dX7_save_34 : decode cX7_save 34 = .ok (.iaload, 1) := by decide +kernel
theorem dX7_save_35 : decode cX7_save 35 = .ok (.iastore, 1) := by decide +kernel
theorem dX7_save_36 : decode cX7_save 36 = .ok (.iinc 1 1, 3) := by decide +kernel
theorem dX7_save_39 : decode cX7_save 39 = .ok (.goto (-26), 3) := by decide +kernel
theorem dX7_save_42 : decode cX7_save 42 = .ok (.aload_n 0, 1) := by decide +kernel
theorem dX7_save_43 : decode cX7_save 43 = .ok (.dup, 1) := by decide +kernel
theorem dX7_save_44 : decode cX7_save 44 = .ok (.getfield 50, 3) := by decide +kernel
theorem dX7_save_47 : decode cX7_save 47 = .ok (.iconst 1, 1) := by decide +kernel
theorem dX7_save_48 : decode cX7_save 48 = .ok (.isub, 1) := by decide +kernel
theorem dX7_save_49 : decode cX7_save 49 = .ok (.putfield 50, 3) := by decide +kernel
theorem dX7_save_52 : decode cX7_save 52 = .ok (.iconst 0, 1) := by decide +kernel
theorem dX7_save_53 : decode cX7_save 53 = .ok (.istore_n 1, 1) := by decide +kernel
theorem dX7_save_54 : decode cX7_save 54 = .ok (.iload_n 1, 1) := by decide +kernel
theorem dX7_save_55 : decode cX7_save 55 = .ok (.sipush 578, 3) := by decide +kernel
theorem dX7_save_58 : decode cX7_save 58 = .ok (.if_icmp .ge 30, 3) := by decide +kernel
theorem dX7_save_61 : decode cX7_save 61 = .ok (.aload_n 0, 1) := by decide +kernel
theorem dX7_save_62 : decode cX7_save 62 = .ok (.getfield 13, 3) := by decide +kernel
theorem dX7_save_65 : decode cX7_save 65 = .ok (.sipush 578, 3) := by decide +kernel
theorem dX7_save_68 : decode cX7_save 68 = .ok (.aload_n 0, 1) := by decide +kernel
theorem dX7_save_69 : decode cX7_save 69 = .ok (.getfield 50, 3) := by decide +kernel
theorem dX7_save_72 : decode cX7_save 72 = .ok (.imul, 1) := by decide +kernel
theorem dX7_save_73 : decode cX7_save 73 = .ok (.iload_n 1, 1) := by decide +kernel
theorem dX7_save_74 : decode cX7_save 74 = .ok (.iadd, 1) := by decide +kernel
theorem dX7_save_75 : decode cX7_save 75 = .ok (.aload_n 0, 1) := by decide +kernel
theorem dX7_save_76 : decode cX7_save 76 = .ok (.getfield 7, 3) := by decide +kernel
theorem dX7_save_79 : decode cX7_save 79 = .ok (.iload_n 1, 1) := by decide +kernel
theorem dX7_save_80 : decode cX7_save 80 = .ok (.iaload, 1) := by decide +kernel
theorem dX7_save_81 : decode cX7_save 81 = .ok (.iastore, 1) := by decide +kernel
theorem dX7_save_82 : decode cX7_save 82 = .ok (.iinc 1 1, 3) := by decide +kernel
theorem dX7_save_85 : decode cX7_save 85 = .ok (.goto (-31), 3) := by decide +kernel
theorem dX7_save_88 : decode cX7_save 88 = .ok (.aload_n 0, 1) := by decide +kernel
theorem dX7_save_89 : decode cX7_save 89 = .ok (.dup, 1) := by decide +kernel
theorem dX7_save_90 : decode cX7_save 90 = .ok (.getfield 50, 3) := by decide +kernel
theorem dX7_save_93 : decode cX7_save 93 = .ok (.iconst 1, 1) := by decide +kernel
theorem dX7_save_94 : decode cX7_save 94 = .ok (.iadd, 1) := by decide +kernel
theorem dX7_save_95 : decode cX7_save 95 = .ok (.putfield 50, 3) := by decide +kernel
theorem dX7_save_98 : decode cX7_save 98 = .ok (.return_, 1) := by decide +kernel
set_option maxRecDepth 20000 in
theorem ggX7_isStep_X7_within : GoodIn wsX7_isStep wsX7_within := goodIn_r _ [4] (by decide +kernel) (by decide +kernel)
set_option maxRecDepth 20000 in
theorem gX7_isStep_X7_within : GoodIn wsX7_isStep (va_wsS RX7 53 yX7_within wsX7_within) := goodIn_app (goodIn_of _ (by decide +kernel)) ggX7_isStep_X7_within
theorem dX7_isStep_0 : decode cX7_isStep 0 = .ok (.iload_n 0, 1) := by decide +kernel
theorem dX7_isStep_1 : decode cX7_isStep 1 = .ok (.iconst 0, 1) := by decide +kernel
theorem dX7_isStep_2 : decode cX7_isStep 2 = .ok (.bipush 95, 2) := by decide +kernel
theorem dX7_isStep_4 : decode cX7_isStep 4 = .ok (.invokestatic 53, 3) := by decide +kernel
theorem dX7_isStep_7 : decode cX7_isStep 7 = .ok (.ireturn, 1) := by decide +kernel
set_option maxRecDepth 20000 in
theorem ggX7_isTrack_X7_within : GoodIn wsX7_isTrack wsX7_within := goodIn_r _ [4] (by decide +kernel) (by decide +kernel)
set_option maxRecDepth 20000 in
theorem gX7_isTrack_X7_within : GoodIn wsX7_isTrack (va_wsS RX7 53 yX7_within wsX7_within) := goodIn_app (goodIn_of _ (by decide +kernel)) ggX7_isTrack_X7_within
theorem dX7_isTrack_0 : decode cX7_isTrack 0 = .ok (.iload_n 0, 1) := by decide +kernel
theorem dX7_isTrack_1 : decode cX7_isTrack 1 = .ok (.iconst 0, 1) := by decide +kernel
theorem dX7_isTrack_2 : decode cX7_isTrack 2 = .ok (.bipush 25, 2) := by decide +kernel
theorem dX7_isTrack_4 : decode cX7_isTrack 4 = .ok (.invokestatic 53, 3) := by decide +kernel
theorem dX7_isTrack_7 : decode cX7_isTrack 7 = .ok (.ireturn, 1) := by decide +kernel
set_option maxRecDepth 20000 in
theorem ggX7_isSide_X7_within : GoodIn wsX7_isSide wsX7_within := goodIn_r _ [4] (by decide +kernel) (by decide +kernel)
set_option maxRecDepth 20000 in
theorem gX7_isSide_X7_within : GoodIn wsX7_isSide (va_wsS RX7 53 yX7_within wsX7_within) := goodIn_app (goodIn_of _ (by decide +kernel)) ggX7_isSide_X7_within
theorem dX7_isSide_0 : decode cX7_isSide 0 = .ok (.iload_n 0, 1) := by decide +kernel
theorem dX7_isSide_1 : decode cX7_isSide 1 = .ok (.bipush (-3), 2) := by decide +kernel
theorem dX7_isSide_3 : decode cX7_isSide 3 = .ok (.iconst 3, 1) := by decide +kernel
theorem dX7_isSide_4 : decode cX7_isSide 4 = .ok (.invokestatic 53, 3) := by decide +kernel
theorem dX7_isSide_7 : decode cX7_isSide 7 = .ok (.ireturn, 1) := by decide +kernel
theorem dX7_openAt_0 : decode cX7_openAt 0 = .ok (.aload_n 0, 1) := by decide +kernel
theorem dX7_openAt_1 : decode cX7_openAt 1 = .ok (.getfield 7, 3) := by decide +kernel
theorem dX7_openAt_4 : decode cX7_openAt 4 = .ok (.iconst 0, 1) := by decide +kernel
theorem dX7_openAt_5 : decode cX7_openAt 5 = .ok (.iload_n 1, 1) := by decide +kernel
theorem dX7_openAt_6 : decode cX7_openAt 6 = .ok (.iadd, 1) := by decide +kernel
theorem dX7_openAt_7 : decode cX7_openAt 7 = .ok (.iaload, 1) := by decide +kernel
theorem dX7_openAt_8 : decode cX7_openAt 8 = .ok (.aload_n 0, 1) := by decide +kernel
theorem dX7_openAt_9 : decode cX7_openAt 9 = .ok (.getfield 7, 3) := by decide +kernel
theorem dX7_openAt_12 : decode cX7_openAt 12 = .ok (.bipush 96, 2) := by decide +kernel
theorem dX7_openAt_14 : decode cX7_openAt 14 = .ok (.iload_n 1, 1) := by decide +kernel
theorem dX7_openAt_15 : decode cX7_openAt 15 = .ok (.iadd, 1) := by decide +kernel
theorem dX7_openAt_16 : decode cX7_openAt 16 = .ok (.iaload, 1) := by decide +kernel
theorem dX7_openAt_17 : decode cX7_openAt 17 = .ok (.iconst (-1), 1) := by decide +kernel
theorem dX7_openAt_18 : decode cX7_openAt 18 = .ok (.ixor, 1) := by decide +kernel
theorem dX7_openAt_19 : decode cX7_openAt 19 = .ok (.iand, 1) := by decide +kernel
theorem dX7_openAt_20 : decode cX7_openAt 20 = .ok (.ireturn, 1) := by decide +kernel
theorem dX7_aside_0 : decode cX7_aside 0 = .ok (.aload_n 0, 1) := by decide +kernel
theorem dX7_aside_1 : decode cX7_aside 1 = .ok (.getfield 7, 3) := by decide +kernel
theorem dX7_aside_4 : decode cX7_aside 4 = .ok (.sipush 192, 3) := by decide +kernel
theorem dX7_aside_7 : decode cX7_aside 7 = .ok (.iload_n 1, 1) := by decide +kernel
theorem dX7_aside_8 : decode cX7_aside 8 = .ok (.iadd, 1) := by decide +kernel
theorem dX7_aside_9 : decode cX7_aside 9 = .ok (.iaload, 1) := by decide +kernel
theorem dX7_aside_10 : decode cX7_aside 10 = .ok (.aload_n 0, 1) := by decide +kernel
theorem dX7_aside_11 : decode cX7_aside 11 = .ok (.getfield 7, 3) := by decide +kernel
theorem dX7_aside_14 : decode cX7_aside 14 = .ok (.sipush 288, 3) := by decide +kernel
theorem dX7_aside_17 : decode cX7_aside 17 = .ok (.iload_n 1, 1) := by decide +kernel
theorem dX7_aside_18 : decode cX7_aside 18 = .ok (.iadd, 1) := by decide +kernel
theorem dX7_aside_19 : decode cX7_aside 19 = .ok (.iaload, 1) := by decide +kernel
theorem dX7_aside_20 : decode cX7_aside 20 = .ok (.iadd, 1) := by decide +kernel
theorem dX7_aside_21 : decode cX7_aside 21 = .ok (.ireturn, 1) := by decide +kernel
set_option maxRecDepth 20000 in
theorem ggX7_layReads_X7_openAt : GoodIn wsX7_layReads wsX7_openAt := goodIn_r _ [9, 10, 21, 22, 23, 24, 25, 26, 27, 28, 29, 30, 31, 32, 33, 34, 35, 36, 37, 38, 39] (by decide +kernel) (by decide +kernel)
set_option maxRecDepth 20000 in
theorem gX7_layReads_X7_openAt : GoodIn wsX7_layReads (wsV RX7 57 RX7 yX7_openAt wsX7_openAt) := goodIn_app (goodIn_of _ (by decide +kernel)) ggX7_layReads_X7_openAt
set_option maxRecDepth 20000 in
theorem ggX7_layReads_X7_aside : GoodIn wsX7_layReads wsX7_aside := goodIn_r _ [14, 10, 21, 22, 23, 24, 25, 26, 27, 28, 29, 30, 31, 32, 33, 34, 35, 36, 37, 38, 39] (by decide +kernel) (by decide +kernel)
set_option maxRecDepth 20000 in
theorem gX7_layReads_X7_aside : GoodIn wsX7_layReads (wsV RX7 61 RX7 yX7_aside wsX7_aside) := goodIn_app (goodIn_of _ (by decide +kernel)) ggX7_layReads_X7_aside
set_option maxRecDepth 20000 in
theorem ggX7_layReads_X7_isTrack : GoodIn wsX7_layReads wsX7_isTrack := goodIn_r _ [17, 18, 19, 8, 20] (by decide +kernel) (by decide +kernel)
set_option maxRecDepth 20000 in
theorem gX7_layReads_X7_isTrack : GoodIn wsX7_layReads (va_wsS RX7 64 yX7_isTrack wsX7_isTrack) := goodIn_app (goodIn_of _ (by decide +kernel)) ggX7_layReads_X7_isTrack
theorem dX7_layReads_0 : decode cX7_layReads 0 = .ok (.aload_n 0, 1) := by decide +kernel
theorem dX7_layReads_1 : decode cX7_layReads 1 = .ok (.getfield 19, 3) := by decide +kernel
theorem dX7_layReads_4 : decode cX7_layReads 4 = .ok (.iload_n 1, 1) := by decide +kernel
theorem dX7_layReads_5 : decode cX7_layReads 5 = .ok (.iconst 0, 1) := by decide +kernel
theorem dX7_layReads_6 : decode cX7_layReads 6 = .ok (.iastore, 1) := by decide +kernel
theorem dX7_layReads_7 : decode cX7_layReads 7 = .ok (.aload_n 0, 1) := by decide +kernel
theorem dX7_layReads_8 : decode cX7_layReads 8 = .ok (.getfield 22, 3) := by decide +kernel
theorem dX7_layReads_11 : decode cX7_layReads 11 = .ok (.iload_n 1, 1) := by decide +kernel
theorem dX7_layReads_12 : decode cX7_layReads 12 = .ok (.iconst 0, 1) := by decide +kernel
theorem dX7_layReads_13 : decode cX7_layReads 13 = .ok (.iastore, 1) := by decide +kernel
theorem dX7_layReads_14 : decode cX7_layReads 14 = .ok (.aload_n 0, 1) := by decide +kernel
theorem dX7_layReads_15 : decode cX7_layReads 15 = .ok (.getfield 25, 3) := by decide +kernel
theorem dX7_layReads_18 : decode cX7_layReads 18 = .ok (.iload_n 1, 1) := by decide +kernel
theorem dX7_layReads_19 : decode cX7_layReads 19 = .ok (.iconst 0, 1) := by decide +kernel
theorem dX7_layReads_20 : decode cX7_layReads 20 = .ok (.iastore, 1) := by decide +kernel
theorem dX7_layReads_21 : decode cX7_layReads 21 = .ok (.aload_n 0, 1) := by decide +kernel
theorem dX7_layReads_22 : decode cX7_layReads 22 = .ok (.getfield 28, 3) := by decide +kernel
theorem dX7_layReads_25 : decode cX7_layReads 25 = .ok (.iload_n 1, 1) := by decide +kernel
theorem dX7_layReads_26 : decode cX7_layReads 26 = .ok (.iconst 0, 1) := by decide +kernel
theorem dX7_layReads_27 : decode cX7_layReads 27 = .ok (.iastore, 1) := by decide +kernel
theorem dX7_layReads_28 : decode cX7_layReads 28 = .ok (.aload_n 0, 1) := by decide +kernel
theorem dX7_layReads_29 : decode cX7_layReads 29 = .ok (.iload_n 1, 1) := by decide +kernel
theorem dX7_layReads_30 : decode cX7_layReads 30 = .ok (.invokevirtual 57, 3) := by decide +kernel
theorem dX7_layReads_33 : decode cX7_layReads 33 = .ok (.istore_n 2, 1) := by decide +kernel
theorem dX7_layReads_34 : decode cX7_layReads 34 = .ok (.iconst 0, 1) := by decide +kernel
theorem dX7_layReads_35 : decode cX7_layReads 35 = .ok (.istore_n 3, 1) := by decide +kernel
theorem dX7_layReads_36 : decode cX7_layReads 36 = .ok (.iload_n 3, 1) := by decide +kernel
theorem dX7_layReads_37 : decode cX7_layReads 37 = .ok (.bipush 20, 2) := by decide +kernel
theorem dX7_layReads_39 : decode cX7_layReads 39 = .ok (.if_icmp .gt 59, 3) := by decide +kernel
theorem dX7_layReads_42 : decode cX7_layReads 42 = .ok (.iload_n 3, 1) := by decide +kernel
theorem dX7_layReads_43 : decode cX7_layReads 43 = .ok (.bipush 20, 2) := by decide +kernel
theorem dX7_layReads_45 : decode cX7_layReads 45 = .ok (.if_icmp .ne 7, 3) := by decide +kernel
theorem dX7_layReads_48 : decode cX7_layReads 48 = .ok (.iconst 2, 1) := by decide +kernel
theorem dX7_layReads_49 : decode cX7_layReads 49 = .ok (.goto 6, 3) := by decide +kernel
theorem dX7_layReads_52 : decode cX7_layReads 52 = .ok (.iload_n 3, 1) := by decide +kernel
theorem dX7_layReads_53 : decode cX7_layReads 53 = .ok (.iconst 3, 1) := by decide +kernel
theorem dX7_layReads_54 : decode cX7_layReads 54 = .ok (.iadd, 1) := by decide +kernel
theorem dX7_layReads_55 : decode cX7_layReads 55 = .ok (.aload_n 0, 1) := by decide +kernel
theorem dX7_layReads_56 : decode cX7_layReads 56 = .ok (.iload_n 1, 1) := by decide +kernel
theorem dX7_layReads_57 : decode cX7_layReads 57 = .ok (.invokevirtual 61, 3) := by decide +kernel
theorem dX7_layReads_60 : decode cX7_layReads 60 = .ok (.iadd, 1) := by decide +kernel
theorem dX7_layReads_61 : decode cX7_layReads 61 = .ok (.istore 4, 2) := by decide +kernel
theorem dX7_layReads_63 : decode cX7_layReads 63 = .ok (.aload_n 0, 1) := by decide +kernel
theorem dX7_layReads_64 : decode cX7_layReads 64 = .ok (.getfield 19, 3) := by decide +kernel
theorem dX7_layReads_67 : decode cX7_layReads 67 = .ok (.iload_n 1, 1) := by decide +kernel
theorem dX7_layReads_68 : decode cX7_layReads 68 = .ok (.dup2, 1) := by decide +kernel
theorem dX7_layReads_69 : decode cX7_layReads 69 = .ok (.iaload, 1) := by decide +kernel
theorem dX7_layReads_70 : decode cX7_layReads 70 = .ok (.iload 4, 2) := by decide +kernel
theorem dX7_layReads_72 : decode cX7_layReads 72 = .ok (.invokestatic 64, 3) := by decide +kernel
theorem dX7_layReads_75 : decode cX7_layReads 75 = .ok (.ifCond .eq 14, 3) := by decide +kernel
theorem dX7_layReads_78 : decode cX7_layReads 78 = .ok (.iload_n 2, 1) := by decide +kernel
theorem dX7_layReads_79 : decode cX7_layReads 79 = .ok (.iload 4, 2) := by decide +kernel
theorem dX7_layReads_81 : decode cX7_layReads 81 = .ok (.ishr, 1) := by decide +kernel
theorem dX7_layReads_82 : decode cX7_layReads 82 = .ok (.iconst 1, 1) := by decide +kernel
theorem dX7_layReads_83 : decode cX7_layReads 83 = .ok (.iand, 1) := by decide +kernel
theorem dX7_layReads_84 : decode cX7_layReads 84 = .ok (.iload_n 3, 1) := by decide +kernel
theorem dX7_layReads_85 : decode cX7_layReads 85 = .ok (.ishl, 1) := by decide +kernel
theorem dX7_layReads_86 : decode cX7_layReads 86 = .ok (.goto 4, 3) := by decide +kernel
theorem dX7_layReads_89 : decode cX7_layReads 89 = .ok (.iconst 0, 1) := by decide +kernel
theorem dX7_layReads_90 : decode cX7_layReads 90 = .ok (.ior, 1) := by decide +kernel
theorem dX7_layReads_91 : decode cX7_layReads 91 = .ok (.iastore, 1) := by decide +kernel
theorem dX7_layReads_92 : decode cX7_layReads 92 = .ok (.iinc 3 1, 3) := by decide +kernel
theorem dX7_layReads_95 : decode cX7_layReads 95 = .ok (.goto (-59), 3) := by decide +kernel
theorem dX7_layReads_98 : decode cX7_layReads 98 = .ok (.return_, 1) := by decide +kernel
theorem dX7_layChain_0 : decode cX7_layChain 0 = .ok (.aload_n 0, 1) := by decide +kernel
theorem dX7_layChain_1 : decode cX7_layChain 1 = .ok (.getfield 22, 3) := by decide +kernel
theorem dX7_layChain_4 : decode cX7_layChain 4 = .ok (.iload_n 2, 1) := by decide +kernel
theorem dX7_layChain_5 : decode cX7_layChain 5 = .ok (.dup2, 1) := by decide +kernel
theorem dX7_layChain_6 : decode cX7_layChain 6 = .ok (.iaload, 1) := by decide +kernel
theorem dX7_layChain_7 : decode cX7_layChain 7 = .ok (.iconst 1, 1) := by decide +kernel
theorem dX7_layChain_8 : decode cX7_layChain 8 = .ok (.iload_n 1, 1) := by decide +kernel
theorem dX7_layChain_9 : decode cX7_layChain 9 = .ok (.ishl, 1) := by decide +kernel
theorem dX7_layChain_10 : decode cX7_layChain 10 = .ok (.ior, 1) := by decide +kernel
theorem dX7_layChain_11 : decode cX7_layChain 11 = .ok (.iastore, 1) := by decide +kernel
theorem dX7_layChain_12 : decode cX7_layChain 12 = .ok (.aload_n 0, 1) := by decide +kernel
theorem dX7_layChain_13 : decode cX7_layChain 13 = .ok (.getfield 25, 3) := by decide +kernel
theorem dX7_layChain_16 : decode cX7_layChain 16 = .ok (.iload_n 3, 1) := by decide +kernel
theorem dX7_layChain_17 : decode cX7_layChain 17 = .ok (.dup2, 1) := by decide +kernel
theorem dX7_layChain_18 : decode cX7_layChain 18 = .ok (.iaload, 1) := by decide +kernel
theorem dX7_layChain_19 : decode cX7_layChain 19 = .ok (.iconst 1, 1) := by decide +kernel
theorem dX7_layChain_20 : decode cX7_layChain 20 = .ok (.iload_n 1, 1) := by decide +kernel
theorem dX7_layChain_21 : decode cX7_layChain 21 = .ok (.ishl, 1) := by decide +kernel
theorem dX7_layChain_22 : decode cX7_layChain 22 = .ok (.ior, 1) := by decide +kernel
theorem dX7_layChain_23 : decode cX7_layChain 23 = .ok (.iastore, 1) := by decide +kernel
theorem dX7_layChain_24 : decode cX7_layChain 24 = .ok (.iload_n 2, 1) := by decide +kernel
theorem dX7_layChain_25 : decode cX7_layChain 25 = .ok (.istore 4, 2) := by decide +kernel
theorem dX7_layChain_27 : decode cX7_layChain 27 = .ok (.iload 4, 2) := by decide +kernel
theorem dX7_layChain_29 : decode cX7_layChain 29 = .ok (.iload_n 3, 1) := by decide +kernel
theorem dX7_layChain_30 : decode cX7_layChain 30 = .ok (.if_icmp .gt 22, 3) := by decide +kernel
theorem dX7_layChain_33 : decode cX7_layChain 33 = .ok (.aload_n 0, 1) := by decide +kernel
theorem dX7_layChain_34 : decode cX7_layChain 34 = .ok (.getfield 28, 3) := by decide +kernel
theorem dX7_layChain_37 : decode cX7_layChain 37 = .ok (.iload 4, 2) := by decide +kernel
theorem dX7_layChain_39 : decode cX7_layChain 39 = .ok (.dup2, 1) := by decide +kernel
theorem dX7_layChain_40 : decode cX7_layChain 40 = .ok (.iaload, 1) := by decide +kernel
theorem dX7_layChain_41 : decode cX7_layChain 41 = .ok (.iconst 1, 1) := by decide +kernel
theorem dX7_layChain_42 : decode cX7_layChain 42 = .ok (.iload_n 1, 1) := by decide +kernel
theorem dX7_layChain_43 : decode cX7_layChain 43 = .ok (.ishl, 1) := by decide +kernel
theorem dX7_layChain_44 : decode cX7_layChain 44 = .ok (.ior, 1) := by decide +kernel
theorem dX7_layChain_45 : decode cX7_layChain 45 = .ok (.iastore, 1) := by decide +kernel
theorem dX7_layChain_46 : decode cX7_layChain 46 = .ok (.iinc 4 1, 3) := by decide +kernel
theorem dX7_layChain_49 : decode cX7_layChain 49 = .ok (.goto (-22), 3) := by decide +kernel
theorem dX7_layChain_52 : decode cX7_layChain 52 = .ok (.return_, 1) := by decide +kernel
set_option maxRecDepth 20000 in
theorem ggX7_layChains_X7_layChain : GoodIn wsX7_layChains wsX7_layChain := goodIn_r _ [7, 8, 9, 10, 11, 12, 13, 14, 15, 16, 17, 18, 19, 20, 21, 22, 23, 24, 25, 26, 27, 28, 29] (by decide +kernel) (by decide +kernel)
set_option maxRecDepth 20000 in
theorem gX7_layChains_X7_layChain : GoodIn wsX7_layChains (wsV RX7 68 RX7 yX7_layChain wsX7_layChain) := goodIn_app (goodIn_of _ (by decide +kernel)) ggX7_layChains_X7_layChain
theorem dX7_layChains_0 : decode cX7_layChains 0 = .ok (.iconst (-1), 1) := by decide +kernel
theorem dX7_layChains_1 : decode cX7_layChains 1 = .ok (.istore_n 2, 1) := by decide +kernel
theorem dX7_layChains_2 : decode cX7_layChains 2 = .ok (.iconst (-1), 1) := by decide +kernel
theorem dX7_layChains_3 : decode cX7_layChains 3 = .ok (.istore_n 3, 1) := by decide +kernel
theorem dX7_layChains_4 : decode cX7_layChains 4 = .ok (.iconst 0, 1) := by decide +kernel
theorem dX7_layChains_5 : decode cX7_layChains 5 = .ok (.istore 4, 2) := by decide +kernel
theorem dX7_layChains_7 : decode cX7_layChains 7 = .ok (.iload 4, 2) := by decide +kernel
theorem dX7_layChains_9 : decode cX7_layChains 9 = .ok (.bipush 96, 2) := by decide +kernel
theorem dX7_layChains_11 : decode cX7_layChains 11 = .ok (.if_icmp .ge 71, 3) := by decide +kernel
theorem dX7_layChains_14 : decode cX7_layChains 14 = .ok (.aload_n 0, 1) := by decide +kernel
theorem dX7_layChains_15 : decode cX7_layChains 15 = .ok (.getfield 19, 3) := by decide +kernel
theorem dX7_layChains_18 : decode cX7_layChains 18 = .ok (.iload 4, 2) := by decide +kernel
theorem dX7_layChains_20 : decode cX7_layChains 20 = .ok (.iaload, 1) := by decide +kernel
theorem dX7_layChains_21 : decode cX7_layChains 21 = .ok (.iload_n 1, 1) := by decide +kernel
theorem dX7_layChains_22 : decode cX7_layChains 22 = .ok (.ishr, 1) := by decide +kernel
theorem dX7_layChains_23 : decode cX7_layChains 23 = .ok (.iconst 1, 1) := by decide +kernel
theorem dX7_layChains_24 : decode cX7_layChains 24 = .ok (.iand, 1) := by decide +kernel
theorem dX7_layChains_25 : decode cX7_layChains 25 = .ok (.iconst 1, 1) := by decide +kernel
theorem dX7_layChains_26 : decode cX7_layChains 26 = .ok (.if_icmp .ne 50, 3) := by decide +kernel
theorem dX7_layChains_29 : decode cX7_layChains 29 = .ok (.iload_n 2, 1) := by decide +kernel
theorem dX7_layChains_30 : decode cX7_layChains 30 = .ok (.iconst (-1), 1) := by decide +kernel
theorem dX7_layChains_31 : decode cX7_layChains 31 = .ok (.if_icmp .eq 30, 3) := by decide +kernel
theorem dX7_layChains_34 : decode cX7_layChains 34 = .ok (.iload 4, 2) := by decide +kernel
theorem dX7_layChains_36 : decode cX7_layChains 36 = .ok (.iload_n 3, 1) := by decide +kernel
theorem dX7_layChains_37 : decode cX7_layChains 37 = .ok (.isub, 1) := by decide +kernel
theorem dX7_layChains_38 : decode cX7_layChains 38 = .ok (.aload_n 0, 1) := by decide +kernel
theorem dX7_layChains_39 : decode cX7_layChains 39 = .ok (.getfield 7, 3) := by decide +kernel
theorem dX7_layChains_42 : decode cX7_layChains 42 = .ok (.sipush 384, 3) := by decide +kernel
theorem dX7_layChains_45 : decode cX7_layChains 45 = .ok (.iaload, 1) := by decide +kernel
theorem dX7_layChains_46 : decode cX7_layChains 46 = .ok (.iconst 1, 1) := by decide +kernel
theorem dX7_layChains_47 : decode cX7_layChains 47 = .ok (.iadd, 1) := by decide +kernel
theorem dX7_layChains_48 : decode cX7_layChains 48 = .ok (.if_icmp .le 13, 3) := by decide +kernel
theorem dX7_layChains_51 : decode cX7_layChains 51 = .ok (.aload_n 0, 1) := by decide +kernel
theorem dX7_layChains_52 : decode cX7_layChains 52 = .ok (.iload_n 1, 1) := by decide +kernel
theorem dX7_layChains_53 : decode cX7_layChains 53 = .ok (.iload_n 2, 1) := by decide +kernel
theorem dX7_layChains_54 : decode cX7_layChains 54 = .ok (.iload_n 3, 1) := by decide +kernel
theorem dX7_layChains_55 : decode cX7_layChains 55 = .ok (.invokevirtual 68, 3) := by decide +kernel
theorem dX7_layChains_58 : decode cX7_layChains 58 = .ok (.iload 4, 2) := by decide +kernel
theorem dX7_layChains_60 : decode cX7_layChains 60 = .ok (.istore_n 2, 1) := by decide +kernel
theorem dX7_layChains_61 : decode cX7_layChains 61 = .ok (.iload_n 2, 1) := by decide +kernel
theorem dX7_layChains_62 : decode cX7_layChains 62 = .ok (.iconst (-1), 1) := by decide +kernel
theorem dX7_layChains_63 : decode cX7_layChains 63 = .ok (.if_icmp .ne 8, 3) := by decide +kernel
theorem dX7_layChains_66 : decode cX7_layChains 66 = .ok (.iload 4, 2) := by decide +kernel
theorem dX7_layChains_68 : decode cX7_layChains 68 = .ok (.goto 4, 3) := by decide +kernel
theorem dX7_layChains_71 : decode cX7_layChains 71 = .ok (.iload_n 2, 1) := by decide +kernel
theorem dX7_layChains_72 : decode cX7_layChains 72 = .ok (.istore_n 2, 1) := by decide +kernel
theorem dX7_layChains_73 : decode cX7_layChains 73 = .ok (.iload 4, 2) := by decide +kernel
theorem dX7_layChains_75 : decode cX7_layChains 75 = .ok (.istore_n 3, 1) := by decide +kernel
theorem dX7_layChains_76 : decode cX7_layChains 76 = .ok (.iinc 4 1, 3) := by decide +kernel
theorem dX7_layChains_79 : decode cX7_layChains 79 = .ok (.goto (-72), 3) := by decide +kernel
theorem dX7_layChains_82 : decode cX7_layChains 82 = .ok (.iload_n 2, 1) := by decide +kernel
theorem dX7_layChains_83 : decode cX7_layChains 83 = .ok (.iconst (-1), 1) := by decide +kernel
theorem dX7_layChains_84 : decode cX7_layChains 84 = .ok (.if_icmp .eq 10, 3) := by decide +kernel
theorem dX7_layChains_87 : decode cX7_layChains 87 = .ok (.aload_n 0, 1) := by decide +kernel
theorem dX7_layChains_88 : decode cX7_layChains 88 = .ok (.iload_n 1, 1) := by decide +kernel
theorem dX7_layChains_89 : decode cX7_layChains 89 = .ok (.iload_n 2, 1) := by decide +kernel
theorem dX7_layChains_90 : decode cX7_layChains 90 = .ok (.iload_n 3, 1) := by decide +kernel
theorem dX7_layChains_91 : decode cX7_layChains 91 = .ok (.invokevirtual 68, 3) := by decide +kernel
theorem dX7_layChains_94 : decode cX7_layChains 94 = .ok (.return_, 1) := by decide +kernel
theorem dX7_endFrom_0 : decode cX7_endFrom 0 = .ok (.iload_n 2, 1) := by decide +kernel
theorem dX7_endFrom_1 : decode cX7_endFrom 1 = .ok (.istore_n 3, 1) := by decide +kernel
theorem dX7_endFrom_2 : decode cX7_endFrom 2 = .ok (.aload_n 0, 1) := by decide +kernel
theorem dX7_endFrom_3 : decode cX7_endFrom 3 = .ok (.iload_n 3, 1) := by decide +kernel
theorem dX7_endFrom_4 : decode cX7_endFrom 4 = .ok (.iaload, 1) := by decide +kernel
theorem dX7_endFrom_5 : decode cX7_endFrom 5 = .ok (.iload_n 1, 1) := by decide +kernel
theorem dX7_endFrom_6 : decode cX7_endFrom 6 = .ok (.ishr, 1) := by decide +kernel
theorem dX7_endFrom_7 : decode cX7_endFrom 7 = .ok (.iconst 1, 1) := by decide +kernel
theorem dX7_endFrom_8 : decode cX7_endFrom 8 = .ok (.iand, 1) := by decide +kernel
theorem dX7_endFrom_9 : decode cX7_endFrom 9 = .ok (.ifCond .ne 9, 3) := by decide +kernel
theorem dX7_endFrom_12 : decode cX7_endFrom 12 = .ok (.iinc 3 1, 3) := by decide +kernel
theorem dX7_endFrom_15 : decode cX7_endFrom 15 = .ok (.goto (-13), 3) := by decide +kernel
theorem dX7_endFrom_18 : decode cX7_endFrom 18 = .ok (.iload_n 3, 1) := by decide +kernel
theorem dX7_endFrom_19 : decode cX7_endFrom 19 = .ok (.ireturn, 1) := by decide +kernel
set_option maxRecDepth 20000 in
theorem ggX7_lay_X7_layReads : GoodIn wsX7_lay wsX7_layReads := goodIn_r _ [11, 12, 2, 6, 13, 14, 15, 16, 10, 17, 18, 19, 20, 21, 22, 23, 24, 25, 26, 27, 28, 40, 41, 42, 43, 44, 45, 46, 47, 48, 49, 50, 51, 52, 53, 54, 55, 56, 57, 58] (by decide +kernel) (by decide +kernel)
set_option maxRecDepth 20000 in
theorem gX7_lay_X7_layReads : GoodIn wsX7_lay (wsV RX7 72 RX7 yX7_layReads wsX7_layReads) := goodIn_app (goodIn_of _ (by decide +kernel)) ggX7_lay_X7_layReads
set_option maxRecDepth 20000 in
theorem ggX7_lay_X7_layChains : GoodIn wsX7_lay wsX7_layChains := goodIn_r _ [32, 12, 18, 33, 34, 35, 10, 36, 2, 6, 13, 40, 41, 42, 43, 44, 45, 46, 47, 48, 49, 50, 51, 52, 53, 54, 55, 56, 57, 58] (by decide +kernel) (by decide +kernel)
set_option maxRecDepth 20000 in
theorem gX7_lay_X7_layChains : GoodIn wsX7_lay (wsV RX7 76 RX7 yX7_layChains wsX7_layChains) := goodIn_app (goodIn_of _ (by decide +kernel)) ggX7_lay_X7_layChains
set_option maxRecDepth 20000 in
theorem ggX7_lay_X7_endFrom : GoodIn wsX7_lay wsX7_endFrom := goodIn_r _ [39] (by decide +kernel) (by decide +kernel)
set_option maxRecDepth 20000 in
theorem gX7_lay_X7_endFrom : GoodIn wsX7_lay (va_wsS RX7 82 yX7_endFrom wsX7_endFrom) := goodIn_app (goodIn_of _ (by decide +kernel)) ggX7_lay_X7_endFrom
theorem dX7_lay_0 : decode cX7_lay 0 = .ok (.iconst 0, 1) := by decide +kernel
theorem dX7_lay_1 : decode cX7_lay 1 = .ok (.istore_n 1, 1) := by decide +kernel
theorem dX7_lay_2 : decode cX7_lay 2 = .ok (.iload_n 1, 1) := by decide +kernel
theorem dX7_lay_3 : decode cX7_lay 3 = .ok (.bipush 96, 2) := by decide +kernel
theorem dX7_lay_5 : decode cX7_lay 5 = .ok (.if_icmp .ge 14, 3) := by decide +kernel
theorem dX7_lay_8 : decode cX7_lay 8 = .ok (.aload_n 0, 1) := by decide +kernel
theorem dX7_lay_9 : decode cX7_lay 9 = .ok (.iload_n 1, 1) := by decide +kernel
theorem dX7_lay_10 : decode cX7_lay 10 = .ok (.invokevirtual 72, 3) := by decide +kernel
theorem dX7_lay_13 : decode cX7_lay 13 = .ok (.iinc 1 1, 3) := by decide +kernel
theorem dX7_lay_16 : decode cX7_lay 16 = .ok (.goto (-14), 3) := by decide +kernel
theorem dX7_lay_19 : decode cX7_lay 19 = .ok (.iconst 0, 1) := by decide +kernel
theorem dX7_lay_20 : decode cX7_lay 20 = .ok (.istore_n 1, 1) := by decide +kernel
theorem dX7_lay_21 : decode cX7_lay 21 = .ok (.iload_n 1, 1) := by decide +kernel
theorem dX7_lay_22 : decode cX7_lay 22 = .ok (.bipush 20, 2) := by decide +kernel
theorem dX7_lay_24 : decode cX7_lay 24 = .ok (.if_icmp .gt 14, 3) := by decide +kernel
theorem dX7_lay_27 : decode cX7_lay 27 = .ok (.aload_n 0, 1) := by decide +kernel
theorem dX7_lay_28 : decode cX7_lay 28 = .ok (.iload_n 1, 1) := by decide +kernel
theorem dX7_lay_29 : decode cX7_lay 29 = .ok (.invokevirtual 76, 3) := by decide +kernel
theorem dX7_lay_32 : decode cX7_lay 32 = .ok (.iinc 1 1, 3) := by decide +kernel
theorem dX7_lay_35 : decode cX7_lay 35 = .ok (.goto (-14), 3) := by decide +kernel
theorem dX7_lay_38 : decode cX7_lay 38 = .ok (.aload_n 0, 1) := by decide +kernel
theorem dX7_lay_39 : decode cX7_lay 39 = .ok (.iconst 0, 1) := by decide +kernel
theorem dX7_lay_40 : decode cX7_lay 40 = .ok (.putfield 79, 3) := by decide +kernel
theorem dX7_lay_43 : decode cX7_lay 43 = .ok (.iconst 0, 1) := by decide +kernel
theorem dX7_lay_44 : decode cX7_lay 44 = .ok (.istore_n 1, 1) := by decide +kernel
theorem dX7_lay_45 : decode cX7_lay 45 = .ok (.iload_n 1, 1) := by decide +kernel
theorem dX7_lay_46 : decode cX7_lay 46 = .ok (.sipush 1920, 3) := by decide +kernel
theorem dX7_lay_49 : decode cX7_lay 49 = .ok (.if_icmp .ge 81, 3) := by decide +kernel
theorem dX7_lay_52 : decode cX7_lay 52 = .ok (.iload_n 1, 1) := by decide +kernel
theorem dX7_lay_53 : decode cX7_lay 53 = .ok (.bipush 20, 2) := by decide +kernel
theorem dX7_lay_55 : decode cX7_lay 55 = .ok (.idiv, 1) := by decide +kernel
theorem dX7_lay_56 : decode cX7_lay 56 = .ok (.istore_n 2, 1) := by decide +kernel
theorem dX7_lay_57 : decode cX7_lay 57 = .ok (.iload_n 1, 1) := by decide +kernel
theorem dX7_lay_58 : decode cX7_lay 58 = .ok (.bipush 20, 2) := by decide +kernel
theorem dX7_lay_60 : decode cX7_lay 60 = .ok (.irem, 1) := by decide +kernel
theorem dX7_lay_61 : decode cX7_lay 61 = .ok (.istore_n 3, 1) := by decide +kernel
theorem dX7_lay_62 : decode cX7_lay 62 = .ok (.aload_n 0, 1) := by decide +kernel
theorem dX7_lay_63 : decode cX7_lay 63 = .ok (.getfield 22, 3) := by decide +kernel
theorem dX7_lay_66 : decode cX7_lay 66 = .ok (.iload_n 2, 1) := by decide +kernel
theorem dX7_lay_67 : decode cX7_lay 67 = .ok (.iaload, 1) := by decide +kernel
theorem dX7_lay_68 : decode cX7_lay 68 = .ok (.iload_n 3, 1) := by decide +kernel
theorem dX7_lay_69 : decode cX7_lay 69 = .ok (.ishr, 1) := by decide +kernel
theorem dX7_lay_70 : decode cX7_lay 70 = .ok (.iconst 1, 1) := by decide +kernel
theorem dX7_lay_71 : decode cX7_lay 71 = .ok (.iand, 1) := by decide +kernel
theorem dX7_lay_72 : decode cX7_lay 72 = .ok (.iconst 1, 1) := by decide +kernel
theorem dX7_lay_73 : decode cX7_lay 73 = .ok (.if_icmp .ne 51, 3) := by decide +kernel
theorem dX7_lay_76 : decode cX7_lay 76 = .ok (.aload_n 0, 1) := by decide +kernel
theorem dX7_lay_77 : decode cX7_lay 77 = .ok (.getfield 31, 3) := by decide +kernel
theorem dX7_lay_80 : decode cX7_lay 80 = .ok (.aload_n 0, 1) := by decide +kernel
theorem dX7_lay_81 : decode cX7_lay 81 = .ok (.getfield 79, 3) := by decide +kernel
theorem dX7_lay_84 : decode cX7_lay 84 = .ok (.iload_n 3, 1) := by decide +kernel
theorem dX7_lay_85 : decode cX7_lay 85 = .ok (.iastore, 1) := by decide +kernel
theorem dX7_lay_86 : decode cX7_lay 86 = .ok (.aload_n 0, 1) := by decide +kernel
theorem dX7_lay_87 : decode cX7_lay 87 = .ok (.getfield 34, 3) := by decide +kernel
theorem dX7_lay_90 : decode cX7_lay 90 = .ok (.aload_n 0, 1) := by decide +kernel
theorem dX7_lay_91 : decode cX7_lay 91 = .ok (.getfield 79, 3) := by decide +kernel
theorem dX7_lay_94 : decode cX7_lay 94 = .ok (.iload_n 2, 1) := by decide +kernel
theorem dX7_lay_95 : decode cX7_lay 95 = .ok (.iastore, 1) := by decide +kernel
theorem dX7_lay_96 : decode cX7_lay 96 = .ok (.aload_n 0, 1) := by decide +kernel
theorem dX7_lay_97 : decode cX7_lay 97 = .ok (.getfield 37, 3) := by decide +kernel
theorem dX7_lay_100 : decode cX7_lay 100 = .ok (.aload_n 0, 1) := by decide +kernel
theorem dX7_lay_101 : decode cX7_lay 101 = .ok (.getfield 79, 3) := by decide +kernel
theorem dX7_lay_104 : decode cX7_lay 104 = .ok (.aload_n 0, 1) := by decide +kernel
theorem dX7_lay_105 : decode cX7_lay 105 = .ok (.getfield 25, 3) := by decide +kernel
theorem dX7_lay_108 : decode cX7_lay 108 = .ok (.iload_n 3, 1) := by decide +kernel
theorem dX7_lay_109 : decode cX7_lay 109 = .ok (.iload_n 2, 1) := by decide +kernel
theorem dX7_lay_110 : decode cX7_lay 110 = .ok (.invokestatic 82, 3) := by decide +kernel
theorem dX7_lay_113 : decode cX7_lay 113 = .ok (.iastore, 1) := by decide +kernel
theorem dX7_lay_114 : decode cX7_lay 114 = .ok (.aload_n 0, 1) := by decide +kernel
theorem dX7_lay_115 : decode cX7_lay 115 = .ok (.dup, 1) := by decide +kernel
theorem dX7_lay_116 : decode cX7_lay 116 = .ok (.getfield 79, 3) := by decide +kernel
theorem dX7_lay_119 : decode cX7_lay 119 = .ok (.iconst 1, 1) := by decide +kernel
theorem dX7_lay_120 : decode cX7_lay 120 = .ok (.iadd, 1) := by decide +kernel
theorem dX7_lay_121 : decode cX7_lay 121 = .ok (.putfield 79, 3) := by decide +kernel
theorem dX7_lay_124 : decode cX7_lay 124 = .ok (.iinc 1 1, 3) := by decide +kernel
theorem dX7_lay_127 : decode cX7_lay 127 = .ok (.goto (-82), 3) := by decide +kernel
theorem dX7_lay_130 : decode cX7_lay 130 = .ok (.return_, 1) := by decide +kernel
theorem dX7_tuneLast_0 : decode cX7_tuneLast 0 = .ok (.aload_n 0, 1) := by decide +kernel
theorem dX7_tuneLast_1 : decode cX7_tuneLast 1 = .ok (.getfield 7, 3) := by decide +kernel
theorem dX7_tuneLast_4 : decode cX7_tuneLast 4 = .ok (.sipush 386, 3) := by decide +kernel
theorem dX7_tuneLast_7 : decode cX7_tuneLast 7 = .ok (.iload_n 2, 1) := by decide +kernel
theorem dX7_tuneLast_8 : decode cX7_tuneLast 8 = .ok (.iadd, 1) := by decide +kernel
theorem dX7_tuneLast_9 : decode cX7_tuneLast 9 = .ok (.iaload, 1) := by decide +kernel
theorem dX7_tuneLast_10 : decode cX7_tuneLast 10 = .ok (.iload_n 1, 1) := by decide +kernel
theorem dX7_tuneLast_11 : decode cX7_tuneLast 11 = .ok (.ishr, 1) := by decide +kernel
theorem dX7_tuneLast_12 : decode cX7_tuneLast 12 = .ok (.iconst 1, 1) := by decide +kernel
theorem dX7_tuneLast_13 : decode cX7_tuneLast 13 = .ok (.iand, 1) := by decide +kernel
theorem dX7_tuneLast_14 : decode cX7_tuneLast 14 = .ok (.ifCond .ne 5, 3) := by decide +kernel
theorem dX7_tuneLast_17 : decode cX7_tuneLast 17 = .ok (.iconst (-1), 1) := by decide +kernel
theorem dX7_tuneLast_18 : decode cX7_tuneLast 18 = .ok (.ireturn, 1) := by decide +kernel
theorem dX7_tuneLast_19 : decode cX7_tuneLast 19 = .ok (.iload_n 2, 1) := by decide +kernel
theorem dX7_tuneLast_20 : decode cX7_tuneLast 20 = .ok (.istore_n 3, 1) := by decide +kernel
theorem dX7_tuneLast_21 : decode cX7_tuneLast 21 = .ok (.aload_n 0, 1) := by decide +kernel
theorem dX7_tuneLast_22 : decode cX7_tuneLast 22 = .ok (.getfield 7, 3) := by decide +kernel
theorem dX7_tuneLast_25 : decode cX7_tuneLast 25 = .ok (.sipush 482, 3) := by decide +kernel
theorem dX7_tuneLast_28 : decode cX7_tuneLast 28 = .ok (.iload_n 3, 1) := by decide +kernel
theorem dX7_tuneLast_29 : decode cX7_tuneLast 29 = .ok (.iadd, 1) := by decide +kernel
theorem dX7_tuneLast_30 : decode cX7_tuneLast 30 = .ok (.iaload, 1) := by decide +kernel
theorem dX7_tuneLast_31 : decode cX7_tuneLast 31 = .ok (.iload_n 1, 1) := by decide +kernel
theorem dX7_tuneLast_32 : decode cX7_tuneLast 32 = .ok (.ishr, 1) := by decide +kernel
theorem dX7_tuneLast_33 : decode cX7_tuneLast 33 = .ok (.iconst 1, 1) := by decide +kernel
theorem dX7_tuneLast_34 : decode cX7_tuneLast 34 = .ok (.iand, 1) := by decide +kernel
theorem dX7_tuneLast_35 : decode cX7_tuneLast 35 = .ok (.ifCond .ne 9, 3) := by decide +kernel
theorem dX7_tuneLast_38 : decode cX7_tuneLast 38 = .ok (.iinc 3 1, 3) := by decide +kernel
theorem dX7_tuneLast_41 : decode cX7_tuneLast 41 = .ok (.goto (-20), 3) := by decide +kernel
theorem dX7_tuneLast_44 : decode cX7_tuneLast 44 = .ok (.iload_n 3, 1) := by decide +kernel
theorem dX7_tuneLast_45 : decode cX7_tuneLast 45 = .ok (.ireturn, 1) := by decide +kernel
set_option maxRecDepth 20000 in
theorem ggX7_isRight_X7_tuneLast : GoodIn wsX7_isRight wsX7_tuneLast := goodIn_r _ [8, 9, 10, 11, 12, 13, 14, 15, 16, 17, 18, 19, 20, 21, 22, 23, 24, 25, 26, 27, 28] (by decide +kernel) (by decide +kernel)
set_option maxRecDepth 20000 in
theorem gX7_isRight_X7_tuneLast : GoodIn wsX7_isRight (wsV RX7 86 RX7 yX7_tuneLast wsX7_tuneLast) := goodIn_app (goodIn_of _ (by decide +kernel)) ggX7_isRight_X7_tuneLast
theorem dX7_isRight_0 : decode cX7_isRight 0 = .ok (.aload_n 0, 1) := by decide +kernel
theorem dX7_isRight_1 : decode cX7_isRight 1 = .ok (.aload_n 0, 1) := by decide +kernel
theorem dX7_isRight_2 : decode cX7_isRight 2 = .ok (.getfield 31, 3) := by decide +kernel
theorem dX7_isRight_5 : decode cX7_isRight 5 = .ok (.iload_n 1, 1) := by decide +kernel
theorem dX7_isRight_6 : decode cX7_isRight 6 = .ok (.iaload, 1) := by decide +kernel
theorem dX7_isRight_7 : decode cX7_isRight 7 = .ok (.aload_n 0, 1) := by decide +kernel
theorem dX7_isRight_8 : decode cX7_isRight 8 = .ok (.getfield 34, 3) := by decide +kernel
theorem dX7_isRight_11 : decode cX7_isRight 11 = .ok (.iload_n 1, 1) := by decide +kernel
theorem dX7_isRight_12 : decode cX7_isRight 12 = .ok (.iaload, 1) := by decide +kernel
theorem dX7_isRight_13 : decode cX7_isRight 13 = .ok (.invokevirtual 86, 3) := by decide +kernel
theorem dX7_isRight_16 : decode cX7_isRight 16 = .ok (.aload_n 0, 1) := by decide +kernel
theorem dX7_isRight_17 : decode cX7_isRight 17 = .ok (.getfield 37, 3) := by decide +kernel
theorem dX7_isRight_20 : decode cX7_isRight 20 = .ok (.iload_n 1, 1) := by decide +kernel
theorem dX7_isRight_21 : decode cX7_isRight 21 = .ok (.iaload, 1) := by decide +kernel
theorem dX7_isRight_22 : decode cX7_isRight 22 = .ok (.if_icmp .ne 7, 3) := by decide +kernel
theorem dX7_isRight_25 : decode cX7_isRight 25 = .ok (.iconst 1, 1) := by decide +kernel
theorem dX7_isRight_26 : decode cX7_isRight 26 = .ok (.goto 4, 3) := by decide +kernel
theorem dX7_isRight_29 : decode cX7_isRight 29 = .ok (.iconst 0, 1) := by decide +kernel
theorem dX7_isRight_30 : decode cX7_isRight 30 = .ok (.ireturn, 1) := by decide +kernel
set_option maxRecDepth 20000 in
theorem ggX7_rights_X7_isRight : GoodIn wsX7_rights wsX7_isRight := goodIn_r _ [6, 7, 8, 9, 10, 11, 12, 5, 13, 14, 15, 16, 17, 18, 19, 20, 21, 22, 23, 24, 25, 26, 27, 28, 29, 30, 31, 32, 33] (by decide +kernel) (by decide +kernel)
set_option maxRecDepth 20000 in
theorem gX7_rights_X7_isRight : GoodIn wsX7_rights (wsV RX7 90 RX7 yX7_isRight wsX7_isRight) := goodIn_app (goodIn_of _ (by decide +kernel)) ggX7_rights_X7_isRight
theorem dX7_rights_0 : decode cX7_rights 0 = .ok (.iconst 0, 1) := by decide +kernel
theorem dX7_rights_1 : decode cX7_rights 1 = .ok (.istore_n 1, 1) := by decide +kernel
theorem dX7_rights_2 : decode cX7_rights 2 = .ok (.iconst 0, 1) := by decide +kernel
theorem dX7_rights_3 : decode cX7_rights 3 = .ok (.istore_n 2, 1) := by decide +kernel
theorem dX7_rights_4 : decode cX7_rights 4 = .ok (.iload_n 2, 1) := by decide +kernel
theorem dX7_rights_5 : decode cX7_rights 5 = .ok (.aload_n 0, 1) := by decide +kernel
theorem dX7_rights_6 : decode cX7_rights 6 = .ok (.getfield 79, 3) := by decide +kernel
theorem dX7_rights_9 : decode cX7_rights 9 = .ok (.if_icmp .ge 25, 3) := by decide +kernel
theorem dX7_rights_12 : decode cX7_rights 12 = .ok (.iload_n 1, 1) := by decide +kernel
theorem dX7_rights_13 : decode cX7_rights 13 = .ok (.aload_n 0, 1) := by decide +kernel
theorem dX7_rights_14 : decode cX7_rights 14 = .ok (.iload_n 2, 1) := by decide +kernel
theorem dX7_rights_15 : decode cX7_rights 15 = .ok (.invokevirtual 90, 3) := by decide +kernel
theorem dX7_rights_18 : decode cX7_rights 18 = .ok (.ifCond .eq 7, 3) := by decide +kernel
theorem dX7_rights_21 : decode cX7_rights 21 = .ok (.iconst 1, 1) := by decide +kernel
theorem dX7_rights_22 : decode cX7_rights 22 = .ok (.goto 4, 3) := by decide +kernel
theorem dX7_rights_25 : decode cX7_rights 25 = .ok (.iconst 0, 1) := by decide +kernel
theorem dX7_rights_26 : decode cX7_rights 26 = .ok (.iadd, 1) := by decide +kernel
theorem dX7_rights_27 : decode cX7_rights 27 = .ok (.istore_n 1, 1) := by decide +kernel
theorem dX7_rights_28 : decode cX7_rights 28 = .ok (.iinc 2 1, 3) := by decide +kernel
theorem dX7_rights_31 : decode cX7_rights 31 = .ok (.goto (-27), 3) := by decide +kernel
theorem dX7_rights_34 : decode cX7_rights 34 = .ok (.iload_n 1, 1) := by decide +kernel
theorem dX7_rights_35 : decode cX7_rights 35 = .ok (.ireturn, 1) := by decide +kernel
set_option maxRecDepth 20000 in
theorem ggX7_rightsNow_X7_lay : GoodIn wsX7_rightsNow wsX7_lay := goodIn_r _ [5, 6, 7, 8, 9, 10, 11, 12, 13, 14, 4, 15, 16, 17, 18, 19, 20, 21, 22, 23, 24, 25, 26, 27, 28, 29, 30, 31, 32, 33, 34, 35, 36, 37, 38, 39, 40, 41, 42, 43, 56, 57, 58, 59, 60, 61, 62, 63, 64, 65, 66, 67, 68, 69, 70, 71, 72, 73, 74] (by decide +kernel) (by decide +kernel)
set_option maxRecDepth 20000 in
theorem gX7_rightsNow_X7_lay : GoodIn wsX7_rightsNow (wsV RX7 93 RX7 yX7_lay wsX7_lay) := goodIn_app (goodIn_of _ (by decide +kernel)) ggX7_rightsNow_X7_lay
set_option maxRecDepth 20000 in
theorem ggX7_rightsNow_X7_rights : GoodIn wsX7_rightsNow wsX7_rights := goodIn_r _ [47, 6, 48, 49, 50, 4, 51, 8, 9, 10, 52, 53, 54, 55, 22, 56, 57, 58, 59, 60, 61, 62, 63, 64, 65, 66, 67, 68, 69, 70, 71, 72, 73, 74] (by decide +kernel) (by decide +kernel)
set_option maxRecDepth 20000 in
theorem gX7_rightsNow_X7_rights : GoodIn wsX7_rightsNow (wsV RX7 96 RX7 yX7_rights wsX7_rights) := goodIn_app (goodIn_of _ (by decide +kernel)) ggX7_rightsNow_X7_rights
theorem dX7_rightsNow_0 : decode cX7_rightsNow 0 = .ok (.aload_n 0, 1) := by decide +kernel
theorem dX7_rightsNow_1 : decode cX7_rightsNow 1 = .ok (.invokevirtual 93, 3) := by decide +kernel
theorem dX7_rightsNow_4 : decode cX7_rightsNow 4 = .ok (.aload_n 0, 1) := by decide +kernel
theorem dX7_rightsNow_5 : decode cX7_rightsNow 5 = .ok (.invokevirtual 96, 3) := by decide +kernel
theorem dX7_rightsNow_8 : decode cX7_rightsNow 8 = .ok (.ireturn, 1) := by decide +kernel
set_option maxRecDepth 20000 in
theorem ggX7_tuneNotes_X7_ones : GoodIn wsX7_tuneNotes wsX7_ones := goodIn_r _ [5] (by decide +kernel) (by decide +kernel)
set_option maxRecDepth 20000 in
theorem gX7_tuneNotes_X7_ones : GoodIn wsX7_tuneNotes (va_wsS RX7 100 yX7_ones wsX7_ones) := goodIn_app (goodIn_of _ (by decide +kernel)) ggX7_tuneNotes_X7_ones
theorem dX7_tuneNotes_0 : decode cX7_tuneNotes 0 = .ok (.iconst 0, 1) := by decide +kernel
theorem dX7_tuneNotes_1 : decode cX7_tuneNotes 1 = .ok (.istore_n 1, 1) := by decide +kernel
theorem dX7_tuneNotes_2 : decode cX7_tuneNotes 2 = .ok (.iconst 0, 1) := by decide +kernel
theorem dX7_tuneNotes_3 : decode cX7_tuneNotes 3 = .ok (.istore_n 2, 1) := by decide +kernel
theorem dX7_tuneNotes_4 : decode cX7_tuneNotes 4 = .ok (.iload_n 2, 1) := by decide +kernel
theorem dX7_tuneNotes_5 : decode cX7_tuneNotes 5 = .ok (.bipush 96, 2) := by decide +kernel
theorem dX7_tuneNotes_7 : decode cX7_tuneNotes 7 = .ok (.if_icmp .ge 25, 3) := by decide +kernel
theorem dX7_tuneNotes_10 : decode cX7_tuneNotes 10 = .ok (.iload_n 1, 1) := by decide +kernel
theorem dX7_tuneNotes_11 : decode cX7_tuneNotes 11 = .ok (.aload_n 0, 1) := by decide +kernel
theorem dX7_tuneNotes_12 : decode cX7_tuneNotes 12 = .ok (.getfield 7, 3) := by decide +kernel
theorem dX7_tuneNotes_15 : decode cX7_tuneNotes 15 = .ok (.sipush 386, 3) := by decide +kernel
theorem dX7_tuneNotes_18 : decode cX7_tuneNotes 18 = .ok (.iload_n 2, 1) := by decide +kernel
theorem dX7_tuneNotes_19 : decode cX7_tuneNotes 19 = .ok (.iadd, 1) := by decide +kernel
theorem dX7_tuneNotes_20 : decode cX7_tuneNotes 20 = .ok (.iaload, 1) := by decide +kernel
theorem dX7_tuneNotes_21 : decode cX7_tuneNotes 21 = .ok (.invokestatic 100, 3) := by decide +kernel
theorem dX7_tuneNotes_24 : decode cX7_tuneNotes 24 = .ok (.iadd, 1) := by decide +kernel
theorem dX7_tuneNotes_25 : decode cX7_tuneNotes 25 = .ok (.istore_n 1, 1) := by decide +kernel
theorem dX7_tuneNotes_26 : decode cX7_tuneNotes 26 = .ok (.iinc 2 1, 3) := by decide +kernel
theorem dX7_tuneNotes_29 : decode cX7_tuneNotes 29 = .ok (.goto (-25), 3) := by decide +kernel
theorem dX7_tuneNotes_32 : decode cX7_tuneNotes 32 = .ok (.iload_n 1, 1) := by decide +kernel
theorem dX7_tuneNotes_33 : decode cX7_tuneNotes 33 = .ok (.ireturn, 1) := by decide +kernel
theorem dX7_punchAt_0 : decode cX7_punchAt 0 = .ok (.iconst 1, 1) := by decide +kernel
theorem dX7_punchAt_1 : decode cX7_punchAt 1 = .ok (.iload_n 2, 1) := by decide +kernel
theorem dX7_punchAt_2 : decode cX7_punchAt 2 = .ok (.ishl, 1) := by decide +kernel
theorem dX7_punchAt_3 : decode cX7_punchAt 3 = .ok (.istore_n 3, 1) := by decide +kernel
theorem dX7_punchAt_4 : decode cX7_punchAt 4 = .ok (.aload_n 0, 1) := by decide +kernel
theorem dX7_punchAt_5 : decode cX7_punchAt 5 = .ok (.getfield 7, 3) := by decide +kernel
theorem dX7_punchAt_8 : decode cX7_punchAt 8 = .ok (.iconst 0, 1) := by decide +kernel
theorem dX7_punchAt_9 : decode cX7_punchAt 9 = .ok (.iload_n 1, 1) := by decide +kernel
theorem dX7_punchAt_10 : decode cX7_punchAt 10 = .ok (.iadd, 1) := by decide +kernel
theorem dX7_punchAt_11 : decode cX7_punchAt 11 = .ok (.iaload, 1) := by decide +kernel
theorem dX7_punchAt_12 : decode cX7_punchAt 12 = .ok (.iload_n 3, 1) := by decide +kernel
theorem dX7_punchAt_13 : decode cX7_punchAt 13 = .ok (.iand, 1) := by decide +kernel
theorem dX7_punchAt_14 : decode cX7_punchAt 14 = .ok (.ifCond .ne 7, 3) := by decide +kernel
theorem dX7_punchAt_17 : decode cX7_punchAt 17 = .ok (.iconst 1, 1) := by decide +kernel
theorem dX7_punchAt_18 : decode cX7_punchAt 18 = .ok (.goto 4, 3) := by decide +kernel
theorem dX7_punchAt_21 : decode cX7_punchAt 21 = .ok (.iconst 0, 1) := by decide +kernel
theorem dX7_punchAt_22 : decode cX7_punchAt 22 = .ok (.istore 4, 2) := by decide +kernel
theorem dX7_punchAt_24 : decode cX7_punchAt 24 = .ok (.aload_n 0, 1) := by decide +kernel
theorem dX7_punchAt_25 : decode cX7_punchAt 25 = .ok (.getfield 7, 3) := by decide +kernel
theorem dX7_punchAt_28 : decode cX7_punchAt 28 = .ok (.iconst 0, 1) := by decide +kernel
theorem dX7_punchAt_29 : decode cX7_punchAt 29 = .ok (.iload_n 1, 1) := by decide +kernel
theorem dX7_punchAt_30 : decode cX7_punchAt 30 = .ok (.iadd, 1) := by decide +kernel
theorem dX7_punchAt_31 : decode cX7_punchAt 31 = .ok (.dup2, 1) := by decide +kernel
theorem dX7_punchAt_32 : decode cX7_punchAt 32 = .ok (.iaload, 1) := by decide +kernel
theorem dX7_punchAt_33 : decode cX7_punchAt 33 = .ok (.iload_n 3, 1) := by decide +kernel
theorem dX7_punchAt_34 : decode cX7_punchAt 34 = .ok (.ior, 1) := by decide +kernel
theorem dX7_punchAt_35 : decode cX7_punchAt 35 = .ok (.iastore, 1) := by decide +kernel
theorem dX7_punchAt_36 : decode cX7_punchAt 36 = .ok (.aload_n 0, 1) := by decide +kernel
theorem dX7_punchAt_37 : decode cX7_punchAt 37 = .ok (.getfield 7, 3) := by decide +kernel
theorem dX7_punchAt_40 : decode cX7_punchAt 40 = .ok (.bipush 96, 2) := by decide +kernel
theorem dX7_punchAt_42 : decode cX7_punchAt 42 = .ok (.iload_n 1, 1) := by decide +kernel
theorem dX7_punchAt_43 : decode cX7_punchAt 43 = .ok (.iadd, 1) := by decide +kernel
theorem dX7_punchAt_44 : decode cX7_punchAt 44 = .ok (.dup2, 1) := by decide +kernel
theorem dX7_punchAt_45 : decode cX7_punchAt 45 = .ok (.iaload, 1) := by decide +kernel
theorem dX7_punchAt_46 : decode cX7_punchAt 46 = .ok (.iload_n 3, 1) := by decide +kernel
theorem dX7_punchAt_47 : decode cX7_punchAt 47 = .ok (.iconst (-1), 1) := by decide +kernel
theorem dX7_punchAt_48 : decode cX7_punchAt 48 = .ok (.ixor, 1) := by decide +kernel
theorem dX7_punchAt_49 : decode cX7_punchAt 49 = .ok (.iand, 1) := by decide +kernel
theorem dX7_punchAt_50 : decode cX7_punchAt 50 = .ok (.iastore, 1) := by decide +kernel
theorem dX7_punchAt_51 : decode cX7_punchAt 51 = .ok (.iload 4, 2) := by decide +kernel
theorem dX7_punchAt_53 : decode cX7_punchAt 53 = .ok (.ireturn, 1) := by decide +kernel
set_option maxRecDepth 20000 in
theorem ggX7_punchChain_X7_punchAt : GoodIn wsX7_punchChain wsX7_punchAt := goodIn_r _ [6, 1, 7, 8, 9, 10, 11, 12, 13, 14, 15, 16, 17, 18, 19, 20, 21, 22, 23, 24, 25] (by decide +kernel) (by decide +kernel)
set_option maxRecDepth 20000 in
theorem gX7_punchChain_X7_punchAt : GoodIn wsX7_punchChain (wsV RX7 103 RX7 yX7_punchAt wsX7_punchAt) := goodIn_app (goodIn_of _ (by decide +kernel)) ggX7_punchChain_X7_punchAt
theorem dX7_punchChain_0 : decode cX7_punchChain 0 = .ok (.iload_n 1, 1) := by decide +kernel
theorem dX7_punchChain_1 : decode cX7_punchChain 1 = .ok (.iconst (-1), 1) := by decide +kernel
theorem dX7_punchChain_2 : decode cX7_punchChain 2 = .ok (.if_icmp .ne 7, 3) := by decide +kernel
theorem dX7_punchChain_5 : decode cX7_punchChain 5 = .ok (.iconst 2, 1) := by decide +kernel
theorem dX7_punchChain_6 : decode cX7_punchChain 6 = .ok (.goto 6, 3) := by decide +kernel
theorem dX7_punchChain_9 : decode cX7_punchChain 9 = .ok (.iload_n 1, 1) := by decide +kernel
theorem dX7_punchChain_10 : decode cX7_punchChain 10 = .ok (.iconst 3, 1) := by decide +kernel
theorem dX7_punchChain_11 : decode cX7_punchChain 11 = .ok (.iadd, 1) := by decide +kernel
theorem dX7_punchChain_12 : decode cX7_punchChain 12 = .ok (.istore 4, 2) := by decide +kernel
theorem dX7_punchChain_14 : decode cX7_punchChain 14 = .ok (.iconst 0, 1) := by decide +kernel
theorem dX7_punchChain_15 : decode cX7_punchChain 15 = .ok (.istore 5, 2) := by decide +kernel
theorem dX7_punchChain_17 : decode cX7_punchChain 17 = .ok (.iconst 0, 1) := by decide +kernel
theorem dX7_punchChain_18 : decode cX7_punchChain 18 = .ok (.istore 6, 2) := by decide +kernel
theorem dX7_punchChain_20 : decode cX7_punchChain 20 = .ok (.iload 6, 2) := by decide +kernel
theorem dX7_punchChain_22 : decode cX7_punchChain 22 = .ok (.iload_n 3, 1) := by decide +kernel
theorem dX7_punchChain_23 : decode cX7_punchChain 23 = .ok (.if_icmp .ge 36, 3) := by decide +kernel
theorem dX7_punchChain_26 : decode cX7_punchChain 26 = .ok (.iload 5, 2) := by decide +kernel
theorem dX7_punchChain_28 : decode cX7_punchChain 28 = .ok (.aload_n 0, 1) := by decide +kernel
theorem dX7_punchChain_29 : decode cX7_punchChain 29 = .ok (.iload_n 2, 1) := by decide +kernel
theorem dX7_punchChain_30 : decode cX7_punchChain 30 = .ok (.iload 6, 2) := by decide +kernel
theorem dX7_punchChain_32 : decode cX7_punchChain 32 = .ok (.iadd, 1) := by decide +kernel
theorem dX7_punchChain_33 : decode cX7_punchChain 33 = .ok (.iload 4, 2) := by decide +kernel
theorem dX7_punchChain_35 : decode cX7_punchChain 35 = .ok (.invokevirtual 103, 3) := by decide +kernel
theorem dX7_punchChain_38 : decode cX7_punchChain 38 = .ok (.iadd, 1) := by decide +kernel
theorem dX7_punchChain_39 : decode cX7_punchChain 39 = .ok (.istore 5, 2) := by decide +kernel
theorem dX7_punchChain_41 : decode cX7_punchChain 41 = .ok (.iload 6, 2) := by decide +kernel
theorem dX7_punchChain_43 : decode cX7_punchChain 43 = .ok (.aload_n 0, 1) := by decide +kernel
theorem dX7_punchChain_44 : decode cX7_punchChain 44 = .ok (.getfield 7, 3) := by decide +kernel
theorem dX7_punchChain_47 : decode cX7_punchChain 47 = .ok (.sipush 384, 3) := by decide +kernel
theorem dX7_punchChain_50 : decode cX7_punchChain 50 = .ok (.iaload, 1) := by decide +kernel
theorem dX7_punchChain_51 : decode cX7_punchChain 51 = .ok (.iconst 1, 1) := by decide +kernel
theorem dX7_punchChain_52 : decode cX7_punchChain 52 = .ok (.iadd, 1) := by decide +kernel
theorem dX7_punchChain_53 : decode cX7_punchChain 53 = .ok (.iadd, 1) := by decide +kernel
theorem dX7_punchChain_54 : decode cX7_punchChain 54 = .ok (.istore 6, 2) := by decide +kernel
theorem dX7_punchChain_56 : decode cX7_punchChain 56 = .ok (.goto (-36), 3) := by decide +kernel
theorem dX7_punchChain_59 : decode cX7_punchChain 59 = .ok (.iload 5, 2) := by decide +kernel
theorem dX7_punchChain_61 : decode cX7_punchChain 61 = .ok (.aload_n 0, 1) := by decide +kernel
theorem dX7_punchChain_62 : decode cX7_punchChain 62 = .ok (.iload_n 2, 1) := by decide +kernel
theorem dX7_punchChain_63 : decode cX7_punchChain 63 = .ok (.iload_n 3, 1) := by decide +kernel
theorem dX7_punchChain_64 : decode cX7_punchChain 64 = .ok (.iadd, 1) := by decide +kernel
theorem dX7_punchChain_65 : decode cX7_punchChain 65 = .ok (.iconst 1, 1) := by decide +kernel
theorem dX7_punchChain_66 : decode cX7_punchChain 66 = .ok (.isub, 1) := by decide +kernel
theorem dX7_punchChain_67 : decode cX7_punchChain 67 = .ok (.iload 4, 2) := by decide +kernel
theorem dX7_punchChain_69 : decode cX7_punchChain 69 = .ok (.invokevirtual 103, 3) := by decide +kernel
theorem dX7_punchChain_72 : decode cX7_punchChain 72 = .ok (.iadd, 1) := by decide +kernel
theorem dX7_punchChain_73 : decode cX7_punchChain 73 = .ok (.ireturn, 1) := by decide +kernel
set_option maxRecDepth 20000 in
theorem ggX7_punch_X7_within : GoodIn wsX7_punch wsX7_within := goodIn_r _ [5] (by decide +kernel) (by decide +kernel)
set_option maxRecDepth 20000 in
theorem gX7_punch_X7_within : GoodIn wsX7_punch (va_wsS RX7 53 yX7_within wsX7_within) := goodIn_app (goodIn_of _ (by decide +kernel)) ggX7_punch_X7_within
set_option maxRecDepth 20000 in
theorem ggX7_punch_X7_isStep : GoodIn wsX7_punch wsX7_isStep := goodIn_r _ [8, 2, 3, 4, 5] (by decide +kernel) (by decide +kernel)
set_option maxRecDepth 20000 in
theorem gX7_punch_X7_isStep : GoodIn wsX7_punch (va_wsS RX7 106 yX7_isStep wsX7_isStep) := goodIn_app (goodIn_of _ (by decide +kernel)) ggX7_punch_X7_isStep
set_option maxRecDepth 20000 in
theorem ggX7_punch_X7_save : GoodIn wsX7_punch wsX7_save := goodIn_r _ [12, 13, 14, 15, 24, 25, 26, 27, 28, 29, 30, 31, 32, 33, 34, 35, 36, 37, 38, 39, 40, 41, 42] (by decide +kernel) (by decide +kernel)
set_option maxRecDepth 20000 in
theorem gX7_punch_X7_save : GoodIn wsX7_punch (wsV RX7 109 RX7 yX7_save wsX7_save) := goodIn_app (goodIn_of _ (by decide +kernel)) ggX7_punch_X7_save
set_option maxRecDepth 20000 in
theorem ggX7_punch_X7_punchChain : GoodIn wsX7_punch wsX7_punchChain := goodIn_r _ [19, 15, 20, 21, 22, 4, 23, 24, 25, 26, 27, 28, 29, 30, 31, 32, 33, 34, 35, 36, 37, 38, 39, 40, 41, 42] (by decide +kernel) (by decide +kernel)
set_option maxRecDepth 20000 in
theorem gX7_punch_X7_punchChain : GoodIn wsX7_punch (wsV RX7 112 RX7 yX7_punchChain wsX7_punchChain) := goodIn_app (goodIn_of _ (by decide +kernel)) ggX7_punch_X7_punchChain
theorem dX7_punch_0 : decode cX7_punch 0 = .ok (.aload_n 0, 1) := by decide +kernel
theorem dX7_punch_1 : decode cX7_punch 1 = .ok (.iload_n 1, 1) := by decide +kernel
theorem dX7_punch_2 : decode cX7_punch 2 = .ok (.iconst (-1), 1) := by decide +kernel
theorem dX7_punch_3 : decode cX7_punch 3 = .ok (.bipush 19, 2) := by decide +kernel
theorem dX7_punch_5 : decode cX7_punch 5 = .ok (.invokestatic 53, 3) := by decide +kernel
theorem dX7_punch_8 : decode cX7_punch 8 = .ok (.ifCond .eq 10, 3) := by decide +kernel
theorem dX7_punch_11 : decode cX7_punch 11 = .ok (.iload_n 2, 1) := by decide +kernel
theorem dX7_punch_12 : decode cX7_punch 12 = .ok (.invokestatic 106, 3) := by decide +kernel
theorem dX7_punch_15 : decode cX7_punch 15 = .ok (.ifCond .ne 7, 3) := by decide +kernel
theorem dX7_punch_18 : decode cX7_punch 18 = .ok (.iconst 1, 1) := by decide +kernel
theorem dX7_punch_19 : decode cX7_punch 19 = .ok (.goto 30, 3) := by decide +kernel
theorem dX7_punch_22 : decode cX7_punch 22 = .ok (.iload_n 3, 1) := by decide +kernel
theorem dX7_punch_23 : decode cX7_punch 23 = .ok (.iconst 1, 1) := by decide +kernel
theorem dX7_punch_24 : decode cX7_punch 24 = .ok (.bipush 96, 2) := by decide +kernel
theorem dX7_punch_26 : decode cX7_punch 26 = .ok (.invokestatic 53, 3) := by decide +kernel
theorem dX7_punch_29 : decode cX7_punch 29 = .ok (.ifCond .ne 7, 3) := by decide +kernel
theorem dX7_punch_32 : decode cX7_punch 32 = .ok (.iconst 2, 1) := by decide +kernel
theorem dX7_punch_33 : decode cX7_punch 33 = .ok (.goto 16, 3) := by decide +kernel
theorem dX7_punch_36 : decode cX7_punch 36 = .ok (.iload_n 2, 1) := by decide +kernel
theorem dX7_punch_37 : decode cX7_punch 37 = .ok (.iload_n 3, 1) := by decide +kernel
theorem dX7_punch_38 : decode cX7_punch 38 = .ok (.iadd, 1) := by decide +kernel
theorem dX7_punch_39 : decode cX7_punch 39 = .ok (.bipush 96, 2) := by decide +kernel
theorem dX7_punch_41 : decode cX7_punch 41 = .ok (.if_icmp .le 7, 3) := by decide +kernel
theorem dX7_punch_44 : decode cX7_punch 44 = .ok (.iconst 3, 1) := by decide +kernel
theorem dX7_punch_45 : decode cX7_punch 45 = .ok (.goto 4, 3) := by decide +kernel
theorem dX7_punch_48 : decode cX7_punch 48 = .ok (.iconst 0, 1) := by decide +kernel
theorem dX7_punch_49 : decode cX7_punch 49 = .ok (.putfield 46, 3) := by decide +kernel
theorem dX7_punch_52 : decode cX7_punch 52 = .ok (.aload_n 0, 1) := by decide +kernel
theorem dX7_punch_53 : decode cX7_punch 53 = .ok (.getfield 46, 3) := by decide +kernel
theorem dX7_punch_56 : decode cX7_punch 56 = .ok (.ifCond .le 5, 3) := by decide +kernel
theorem dX7_punch_59 : decode cX7_punch 59 = .ok (.iconst 0, 1) := by decide +kernel
theorem dX7_punch_60 : decode cX7_punch 60 = .ok (.ireturn, 1) := by decide +kernel
theorem dX7_punch_61 : decode cX7_punch 61 = .ok (.aload_n 0, 1) := by decide +kernel
theorem dX7_punch_62 : decode cX7_punch 62 = .ok (.invokevirtual 109, 3) := by decide +kernel
theorem dX7_punch_65 : decode cX7_punch 65 = .ok (.aload_n 0, 1) := by decide +kernel
theorem dX7_punch_66 : decode cX7_punch 66 = .ok (.iload_n 1, 1) := by decide +kernel
theorem dX7_punch_67 : decode cX7_punch 67 = .ok (.iload_n 2, 1) := by decide +kernel
theorem dX7_punch_68 : decode cX7_punch 68 = .ok (.iload_n 3, 1) := by decide +kernel
theorem dX7_punch_69 : decode cX7_punch 69 = .ok (.invokevirtual 112, 3) := by decide +kernel
theorem dX7_punch_72 : decode cX7_punch 72 = .ok (.ireturn, 1) := by decide +kernel
set_option maxRecDepth 20000 in
theorem ggX7_refusedRange_X7_isStep : GoodIn wsX7_refusedRange wsX7_isStep := goodIn_r _ [4, 5, 6, 3, 7] (by decide +kernel) (by decide +kernel)
set_option maxRecDepth 20000 in
theorem gX7_refusedRange_X7_isStep : GoodIn wsX7_refusedRange (va_wsS RX7 106 yX7_isStep wsX7_isStep) := goodIn_app (goodIn_of _ (by decide +kernel)) ggX7_refusedRange_X7_isStep
theorem dX7_refusedRange_0 : decode cX7_refusedRange 0 = .ok (.iload_n 0, 1) := by decide +kernel
theorem dX7_refusedRange_1 : decode cX7_refusedRange 1 = .ok (.ifCond .eq 17, 3) := by decide +kernel
theorem dX7_refusedRange_4 : decode cX7_refusedRange 4 = .ok (.iload_n 1, 1) := by decide +kernel
theorem dX7_refusedRange_5 : decode cX7_refusedRange 5 = .ok (.invokestatic 106, 3) := by decide +kernel
theorem dX7_refusedRange_8 : decode cX7_refusedRange 8 = .ok (.ifCond .eq 10, 3) := by decide +kernel
theorem dX7_refusedRange_11 : decode cX7_refusedRange 11 = .ok (.iload_n 2, 1) := by decide +kernel
theorem dX7_refusedRange_12 : decode cX7_refusedRange 12 = .ok (.invokestatic 106, 3) := by decide +kernel
theorem dX7_refusedRange_15 : decode cX7_refusedRange 15 = .ok (.ifCond .ne 7, 3) := by decide +kernel
theorem dX7_refusedRange_18 : decode cX7_refusedRange 18 = .ok (.iconst 1, 1) := by decide +kernel
theorem dX7_refusedRange_19 : decode cX7_refusedRange 19 = .ok (.goto 13, 3) := by decide +kernel
theorem dX7_refusedRange_22 : decode cX7_refusedRange 22 = .ok (.iload_n 2, 1) := by decide +kernel
theorem dX7_refusedRange_23 : decode cX7_refusedRange 23 = .ok (.iload_n 1, 1) := by decide +kernel
theorem dX7_refusedRange_24 : decode cX7_refusedRange 24 = .ok (.if_icmp .ge 7, 3) := by decide +kernel
theorem dX7_refusedRange_27 : decode cX7_refusedRange 27 = .ok (.iconst 2, 1) := by decide +kernel
theorem dX7_refusedRange_28 : decode cX7_refusedRange 28 = .ok (.goto 4, 3) := by decide +kernel
theorem dX7_refusedRange_31 : decode cX7_refusedRange 31 = .ok (.iconst 0, 1) := by decide +kernel
theorem dX7_refusedRange_32 : decode cX7_refusedRange 32 = .ok (.ireturn, 1) := by decide +kernel
set_option maxRecDepth 20000 in
theorem ggX7_patch_X7_isTrack : GoodIn wsX7_patch wsX7_isTrack := goodIn_r _ [6, 7, 8, 5, 9] (by decide +kernel) (by decide +kernel)
set_option maxRecDepth 20000 in
theorem gX7_patch_X7_isTrack : GoodIn wsX7_patch (va_wsS RX7 64 yX7_isTrack wsX7_isTrack) := goodIn_app (goodIn_of _ (by decide +kernel)) ggX7_patch_X7_isTrack
set_option maxRecDepth 20000 in
theorem ggX7_patch_X7_refusedRange : GoodIn wsX7_patch wsX7_refusedRange := goodIn_r _ [12, 13, 14, 5, 15, 7, 8, 9] (by decide +kernel) (by decide +kernel)
set_option maxRecDepth 20000 in
theorem gX7_patch_X7_refusedRange : GoodIn wsX7_patch (va_wsS RX7 116 yX7_refusedRange wsX7_refusedRange) := goodIn_app (goodIn_of _ (by decide +kernel)) ggX7_patch_X7_refusedRange
set_option maxRecDepth 20000 in
theorem ggX7_patch_X7_save : GoodIn wsX7_patch wsX7_save := goodIn_r _ [19, 20, 21, 2, 26, 27, 28, 29, 30, 31, 32, 33, 34, 35, 36, 37, 38, 39, 40, 41, 42, 43, 44] (by decide +kernel) (by decide +kernel)
set_option maxRecDepth 20000 in
theorem gX7_patch_X7_save : GoodIn wsX7_patch (wsV RX7 109 RX7 yX7_save wsX7_save) := goodIn_app (goodIn_of _ (by decide +kernel)) ggX7_patch_X7_save
set_option maxRecDepth 20000 in
theorem ggX7_patch_X7_openAt : GoodIn wsX7_patch wsX7_openAt := goodIn_r _ [25, 2, 26, 27, 28, 29, 30, 31, 32, 33, 34, 35, 36, 37, 38, 39, 40, 41, 42, 43, 44] (by decide +kernel) (by decide +kernel)
set_option maxRecDepth 20000 in
theorem gX7_patch_X7_openAt : GoodIn wsX7_patch (wsV RX7 57 RX7 yX7_openAt wsX7_openAt) := goodIn_app (goodIn_of _ (by decide +kernel)) ggX7_patch_X7_openAt
theorem dX7_patch_0 : decode cX7_patch 0 = .ok (.aload_n 0, 1) := by decide +kernel
theorem dX7_patch_1 : decode cX7_patch 1 = .ok (.iload_n 1, 1) := by decide +kernel
theorem dX7_patch_2 : decode cX7_patch 2 = .ok (.invokestatic 64, 3) := by decide +kernel
theorem dX7_patch_5 : decode cX7_patch 5 = .ok (.iload_n 2, 1) := by decide +kernel
theorem dX7_patch_6 : decode cX7_patch 6 = .ok (.iload_n 3, 1) := by decide +kernel
theorem dX7_patch_7 : decode cX7_patch 7 = .ok (.invokestatic 116, 3) := by decide +kernel
theorem dX7_patch_10 : decode cX7_patch 10 = .ok (.putfield 46, 3) := by decide +kernel
theorem dX7_patch_13 : decode cX7_patch 13 = .ok (.aload_n 0, 1) := by decide +kernel
theorem dX7_patch_14 : decode cX7_patch 14 = .ok (.getfield 46, 3) := by decide +kernel
theorem dX7_patch_17 : decode cX7_patch 17 = .ok (.ifCond .le 5, 3) := by decide +kernel
theorem dX7_patch_20 : decode cX7_patch 20 = .ok (.iconst 0, 1) := by decide +kernel
theorem dX7_patch_21 : decode cX7_patch 21 = .ok (.ireturn, 1) := by decide +kernel
theorem dX7_patch_22 : decode cX7_patch 22 = .ok (.aload_n 0, 1) := by decide +kernel
theorem dX7_patch_23 : decode cX7_patch 23 = .ok (.invokevirtual 109, 3) := by decide +kernel
theorem dX7_patch_26 : decode cX7_patch 26 = .ok (.iconst 0, 1) := by decide +kernel
theorem dX7_patch_27 : decode cX7_patch 27 = .ok (.istore 4, 2) := by decide +kernel
theorem dX7_patch_29 : decode cX7_patch 29 = .ok (.iload_n 2, 1) := by decide +kernel
theorem dX7_patch_30 : decode cX7_patch 30 = .ok (.istore 5, 2) := by decide +kernel
theorem dX7_patch_32 : decode cX7_patch 32 = .ok (.iload 5, 2) := by decide +kernel
theorem dX7_patch_34 : decode cX7_patch 34 = .ok (.iload_n 3, 1) := by decide +kernel
theorem dX7_patch_35 : decode cX7_patch 35 = .ok (.if_icmp .gt 40, 3) := by decide +kernel
theorem dX7_patch_38 : decode cX7_patch 38 = .ok (.iload 4, 2) := by decide +kernel
theorem dX7_patch_40 : decode cX7_patch 40 = .ok (.aload_n 0, 1) := by decide +kernel
theorem dX7_patch_41 : decode cX7_patch 41 = .ok (.iload 5, 2) := by decide +kernel
theorem dX7_patch_43 : decode cX7_patch 43 = .ok (.invokevirtual 57, 3) := by decide +kernel
theorem dX7_patch_46 : decode cX7_patch 46 = .ok (.iload_n 1, 1) := by decide +kernel
theorem dX7_patch_47 : decode cX7_patch 47 = .ok (.ishr, 1) := by decide +kernel
theorem dX7_patch_48 : decode cX7_patch 48 = .ok (.iconst 1, 1) := by decide +kernel
theorem dX7_patch_49 : decode cX7_patch 49 = .ok (.iand, 1) := by decide +kernel
theorem dX7_patch_50 : decode cX7_patch 50 = .ok (.iadd, 1) := by decide +kernel
theorem dX7_patch_51 : decode cX7_patch 51 = .ok (.istore 4, 2) := by decide +kernel
theorem dX7_patch_53 : decode cX7_patch 53 = .ok (.aload_n 0, 1) := by decide +kernel
theorem dX7_patch_54 : decode cX7_patch 54 = .ok (.getfield 7, 3) := by decide +kernel
theorem dX7_patch_57 : decode cX7_patch 57 = .ok (.bipush 96, 2) := by decide +kernel
theorem dX7_patch_59 : decode cX7_patch 59 = .ok (.iload 5, 2) := by decide +kernel
theorem dX7_patch_61 : decode cX7_patch 61 = .ok (.iadd, 1) := by decide +kernel
theorem dX7_patch_62 : decode cX7_patch 62 = .ok (.dup2, 1) := by decide +kernel
theorem dX7_patch_63 : decode cX7_patch 63 = .ok (.iaload, 1) := by decide +kernel
theorem dX7_patch_64 : decode cX7_patch 64 = .ok (.iconst 1, 1) := by decide +kernel
theorem dX7_patch_65 : decode cX7_patch 65 = .ok (.iload_n 1, 1) := by decide +kernel
theorem dX7_patch_66 : decode cX7_patch 66 = .ok (.ishl, 1) := by decide +kernel
theorem dX7_patch_67 : decode cX7_patch 67 = .ok (.ior, 1) := by decide +kernel
theorem dX7_patch_68 : decode cX7_patch 68 = .ok (.iastore, 1) := by decide +kernel
theorem dX7_patch_69 : decode cX7_patch 69 = .ok (.iinc 5 1, 3) := by decide +kernel
theorem dX7_patch_72 : decode cX7_patch 72 = .ok (.goto (-40), 3) := by decide +kernel
theorem dX7_patch_75 : decode cX7_patch 75 = .ok (.iload 4, 2) := by decide +kernel
theorem dX7_patch_77 : decode cX7_patch 77 = .ok (.ireturn, 1) := by decide +kernel
set_option maxRecDepth 20000 in
theorem ggX7_peel_X7_isTrack : GoodIn wsX7_peel wsX7_isTrack := goodIn_r _ [6, 7, 8, 5, 9] (by decide +kernel) (by decide +kernel)
set_option maxRecDepth 20000 in
theorem gX7_peel_X7_isTrack : GoodIn wsX7_peel (va_wsS RX7 64 yX7_isTrack wsX7_isTrack) := goodIn_app (goodIn_of _ (by decide +kernel)) ggX7_peel_X7_isTrack
set_option maxRecDepth 20000 in
theorem ggX7_peel_X7_refusedRange : GoodIn wsX7_peel wsX7_refusedRange := goodIn_r _ [12, 13, 14, 5, 15, 7, 8, 9] (by decide +kernel) (by decide +kernel)
set_option maxRecDepth 20000 in
theorem gX7_peel_X7_refusedRange : GoodIn wsX7_peel (va_wsS RX7 116 yX7_refusedRange wsX7_refusedRange) := goodIn_app (goodIn_of _ (by decide +kernel)) ggX7_peel_X7_refusedRange
set_option maxRecDepth 20000 in
theorem ggX7_peel_X7_save : GoodIn wsX7_peel wsX7_save := goodIn_r _ [19, 20, 21, 2, 22, 23, 24, 25, 26, 27, 28, 29, 30, 31, 32, 33, 34, 35, 36, 37, 38, 39, 40] (by decide +kernel) (by decide +kernel)
set_option maxRecDepth 20000 in
theorem gX7_peel_X7_save : GoodIn wsX7_peel (wsV RX7 109 RX7 yX7_save wsX7_save) := goodIn_app (goodIn_of _ (by decide +kernel)) ggX7_peel_X7_save
theorem dX7_peel_0 : decode cX7_peel 0 = .ok (.aload_n 0, 1) := by decide +kernel
theorem dX7_peel_1 : decode cX7_peel 1 = .ok (.iload_n 1, 1) := by decide +kernel
theorem dX7_peel_2 : decode cX7_peel 2 = .ok (.invokestatic 64, 3) := by decide +kernel
theorem dX7_peel_5 : decode cX7_peel 5 = .ok (.iload_n 2, 1) := by decide +kernel
theorem dX7_peel_6 : decode cX7_peel 6 = .ok (.iload_n 3, 1) := by decide +kernel
theorem dX7_peel_7 : decode cX7_peel 7 = .ok (.invokestatic 116, 3) := by decide +kernel
theorem dX7_peel_10 : decode cX7_peel 10 = .ok (.putfield 46, 3) := by decide +kernel
theorem dX7_peel_13 : decode cX7_peel 13 = .ok (.aload_n 0, 1) := by decide +kernel
theorem dX7_peel_14 : decode cX7_peel 14 = .ok (.getfield 46, 3) := by decide +kernel
theorem dX7_peel_17 : decode cX7_peel 17 = .ok (.ifCond .le 5, 3) := by decide +kernel
theorem dX7_peel_20 : decode cX7_peel 20 = .ok (.iconst 0, 1) := by decide +kernel
theorem dX7_peel_21 : decode cX7_peel 21 = .ok (.ireturn, 1) := by decide +kernel
theorem dX7_peel_22 : decode cX7_peel 22 = .ok (.aload_n 0, 1) := by decide +kernel
theorem dX7_peel_23 : decode cX7_peel 23 = .ok (.invokevirtual 109, 3) := by decide +kernel
theorem dX7_peel_26 : decode cX7_peel 26 = .ok (.iconst 0, 1) := by decide +kernel
theorem dX7_peel_27 : decode cX7_peel 27 = .ok (.istore 4, 2) := by decide +kernel
theorem dX7_peel_29 : decode cX7_peel 29 = .ok (.iload_n 2, 1) := by decide +kernel
theorem dX7_peel_30 : decode cX7_peel 30 = .ok (.istore 5, 2) := by decide +kernel
theorem dX7_peel_32 : decode cX7_peel 32 = .ok (.iload 5, 2) := by decide +kernel
theorem dX7_peel_34 : decode cX7_peel 34 = .ok (.iload_n 3, 1) := by decide +kernel
theorem dX7_peel_35 : decode cX7_peel 35 = .ok (.if_icmp .gt 46, 3) := by decide +kernel
theorem dX7_peel_38 : decode cX7_peel 38 = .ok (.iload 4, 2) := by decide +kernel
theorem dX7_peel_40 : decode cX7_peel 40 = .ok (.aload_n 0, 1) := by decide +kernel
theorem dX7_peel_41 : decode cX7_peel 41 = .ok (.getfield 7, 3) := by decide +kernel
theorem dX7_peel_44 : decode cX7_peel 44 = .ok (.bipush 96, 2) := by decide +kernel
theorem dX7_peel_46 : decode cX7_peel 46 = .ok (.iload 5, 2) := by decide +kernel
theorem dX7_peel_48 : decode cX7_peel 48 = .ok (.iadd, 1) := by decide +kernel
theorem dX7_peel_49 : decode cX7_peel 49 = .ok (.iaload, 1) := by decide +kernel
theorem dX7_peel_50 : decode cX7_peel 50 = .ok (.iload_n 1, 1) := by decide +kernel
theorem dX7_peel_51 : decode cX7_peel 51 = .ok (.ishr, 1) := by decide +kernel
theorem dX7_peel_52 : decode cX7_peel 52 = .ok (.iconst 1, 1) := by decide +kernel
theorem dX7_peel_53 : decode cX7_peel 53 = .ok (.iand, 1) := by decide +kernel
theorem dX7_peel_54 : decode cX7_peel 54 = .ok (.iadd, 1) := by decide +kernel
theorem dX7_peel_55 : decode cX7_peel 55 = .ok (.istore 4, 2) := by decide +kernel
theorem dX7_peel_57 : decode cX7_peel 57 = .ok (.aload_n 0, 1) := by decide +kernel
theorem dX7_peel_58 : decode cX7_peel 58 = .ok (.getfield 7, 3) := by decide +kernel
theorem dX7_peel_61 : decode cX7_peel 61 = .ok (.bipush 96, 2) := by decide +kernel
theorem dX7_peel_63 : decode cX7_peel 63 = .ok (.iload 5, 2) := by decide +kernel
theorem dX7_peel_65 : decode cX7_peel 65 = .ok (.iadd, 1) := by decide +kernel
theorem dX7_peel_66 : decode cX7_peel 66 = .ok (.dup2, 1) := by decide +kernel
theorem dX7_peel_67 : decode cX7_peel 67 = .ok (.iaload, 1) := by decide +kernel
theorem dX7_peel_68 : decode cX7_peel 68 = .ok (.iconst 1, 1) := by decide +kernel
theorem dX7_peel_69 : decode cX7_peel 69 = .ok (.iload_n 1, 1) := by decide +kernel
theorem dX7_peel_70 : decode cX7_peel 70 = .ok (.ishl, 1) := by decide +kernel
theorem dX7_peel_71 : decode cX7_peel 71 = .ok (.iconst (-1), 1) := by decide +kernel
theorem dX7_peel_72 : decode cX7_peel 72 = .ok (.ixor, 1) := by decide +kernel
theorem dX7_peel_73 : decode cX7_peel 73 = .ok (.iand, 1) := by decide +kernel
theorem dX7_peel_74 : decode cX7_peel 74 = .ok (.iastore, 1) := by decide +kernel
theorem dX7_peel_75 : decode cX7_peel 75 = .ok (.iinc 5 1, 3) := by decide +kernel
theorem dX7_peel_78 : decode cX7_peel 78 = .ok (.goto (-46), 3) := by decide +kernel
theorem dX7_peel_81 : decode cX7_peel 81 = .ok (.iload 4, 2) := by decide +kernel
theorem dX7_peel_83 : decode cX7_peel 83 = .ok (.ireturn, 1) := by decide +kernel
theorem dX7_shifted_0 : decode cX7_shifted 0 = .ok (.iload_n 1, 1) := by decide +kernel
theorem dX7_shifted_1 : decode cX7_shifted 1 = .ok (.ifCond .ge 10, 3) := by decide +kernel
theorem dX7_shifted_4 : decode cX7_shifted 4 = .ok (.iload_n 0, 1) := by decide +kernel
theorem dX7_shifted_5 : decode cX7_shifted 5 = .ok (.iload_n 1, 1) := by decide +kernel
theorem dX7_shifted_6 : decode cX7_shifted 6 = .ok (.ineg, 1) := by decide +kernel
theorem dX7_shifted_7 : decode cX7_shifted 7 = .ok (.ishr, 1) := by decide +kernel
theorem dX7_shifted_8 : decode cX7_shifted 8 = .ok (.goto 6, 3) := by decide +kernel
theorem dX7_shifted_11 : decode cX7_shifted 11 = .ok (.iload_n 0, 1) := by decide +kernel
theorem dX7_shifted_12 : decode cX7_shifted 12 = .ok (.iload_n 1, 1) := by decide +kernel
theorem dX7_shifted_13 : decode cX7_shifted 13 = .ok (.ishl, 1) := by decide +kernel
theorem dX7_shifted_14 : decode cX7_shifted 14 = .ok (.ireturn, 1) := by decide +kernel
set_option maxRecDepth 20000 in
theorem ggX7_canShift_X7_isTrack : GoodIn wsX7_canShift wsX7_isTrack := goodIn_r _ [5, 6, 7, 4, 8] (by decide +kernel) (by decide +kernel)
set_option maxRecDepth 20000 in
theorem gX7_canShift_X7_isTrack : GoodIn wsX7_canShift (va_wsS RX7 64 yX7_isTrack wsX7_isTrack) := goodIn_app (goodIn_of _ (by decide +kernel)) ggX7_canShift_X7_isTrack
theorem dX7_canShift_0 : decode cX7_canShift 0 = .ok (.iconst 1, 1) := by decide +kernel
theorem dX7_canShift_1 : decode cX7_canShift 1 = .ok (.istore_n 2, 1) := by decide +kernel
theorem dX7_canShift_2 : decode cX7_canShift 2 = .ok (.iconst 0, 1) := by decide +kernel
theorem dX7_canShift_3 : decode cX7_canShift 3 = .ok (.istore_n 3, 1) := by decide +kernel
theorem dX7_canShift_4 : decode cX7_canShift 4 = .ok (.iload_n 3, 1) := by decide +kernel
theorem dX7_canShift_5 : decode cX7_canShift 5 = .ok (.bipush 96, 2) := by decide +kernel
theorem dX7_canShift_7 : decode cX7_canShift 7 = .ok (.if_icmp .ge 75, 3) := by decide +kernel
theorem dX7_canShift_10 : decode cX7_canShift 10 = .ok (.aload_n 0, 1) := by decide +kernel
theorem dX7_canShift_11 : decode cX7_canShift 11 = .ok (.getfield 7, 3) := by decide +kernel
theorem dX7_canShift_14 : decode cX7_canShift 14 = .ok (.iconst 0, 1) := by decide +kernel
theorem dX7_canShift_15 : decode cX7_canShift 15 = .ok (.iload_n 3, 1) := by decide +kernel
theorem dX7_canShift_16 : decode cX7_canShift 16 = .ok (.iadd, 1) := by decide +kernel
theorem dX7_canShift_17 : decode cX7_canShift 17 = .ok (.iaload, 1) := by decide +kernel
theorem dX7_canShift_18 : decode cX7_canShift 18 = .ok (.aload_n 0, 1) := by decide +kernel
theorem dX7_canShift_19 : decode cX7_canShift 19 = .ok (.getfield 7, 3) := by decide +kernel
theorem dX7_canShift_22 : decode cX7_canShift 22 = .ok (.bipush 96, 2) := by decide +kernel
theorem dX7_canShift_24 : decode cX7_canShift 24 = .ok (.iload_n 3, 1) := by decide +kernel
theorem dX7_canShift_25 : decode cX7_canShift 25 = .ok (.iadd, 1) := by decide +kernel
theorem dX7_canShift_26 : decode cX7_canShift 26 = .ok (.iaload, 1) := by decide +kernel
theorem dX7_canShift_27 : decode cX7_canShift 27 = .ok (.ior, 1) := by decide +kernel
theorem dX7_canShift_28 : decode cX7_canShift 28 = .ok (.istore 4, 2) := by decide +kernel
theorem dX7_canShift_30 : decode cX7_canShift 30 = .ok (.iconst 0, 1) := by decide +kernel
theorem dX7_canShift_31 : decode cX7_canShift 31 = .ok (.istore 5, 2) := by decide +kernel
theorem dX7_canShift_33 : decode cX7_canShift 33 = .ok (.iload 5, 2) := by decide +kernel
theorem dX7_canShift_35 : decode cX7_canShift 35 = .ok (.bipush 26, 2) := by decide +kernel
theorem dX7_canShift_37 : decode cX7_canShift 37 = .ok (.if_icmp .ge 39, 3) := by decide +kernel
theorem dX7_canShift_40 : decode cX7_canShift 40 = .ok (.iload_n 2, 1) := by decide +kernel
theorem dX7_canShift_41 : decode cX7_canShift 41 = .ok (.ifCond .eq 27, 3) := by decide +kernel
theorem dX7_canShift_44 : decode cX7_canShift 44 = .ok (.iload 4, 2) := by decide +kernel
theorem dX7_canShift_46 : decode cX7_canShift 46 = .ok (.iload 5, 2) := by decide +kernel
theorem dX7_canShift_48 : decode cX7_canShift 48 = .ok (.ishr, 1) := by decide +kernel
theorem dX7_canShift_49 : decode cX7_canShift 49 = .ok (.iconst 1, 1) := by decide +kernel
theorem dX7_canShift_50 : decode cX7_canShift 50 = .ok (.iand, 1) := by decide +kernel
theorem dX7_canShift_51 : decode cX7_canShift 51 = .ok (.ifCond .eq 13, 3) := by decide +kernel
theorem dX7_canShift_54 : decode cX7_canShift 54 = .ok (.iload 5, 2) := by decide +kernel
theorem dX7_canShift_56 : decode cX7_canShift 56 = .ok (.iload_n 1, 1) := by decide +kernel
theorem dX7_canShift_57 : decode cX7_canShift 57 = .ok (.iadd, 1) := by decide +kernel
theorem dX7_canShift_58 : decode cX7_canShift 58 = .ok (.invokestatic 64, 3) := by decide +kernel
theorem dX7_canShift_61 : decode cX7_canShift 61 = .ok (.ifCond .eq 7, 3) := by decide +kernel
theorem dX7_canShift_64 : decode cX7_canShift 64 = .ok (.iconst 1, 1) := by decide +kernel
theorem dX7_canShift_65 : decode cX7_canShift 65 = .ok (.goto 4, 3) := by decide +kernel
theorem dX7_canShift_68 : decode cX7_canShift 68 = .ok (.iconst 0, 1) := by decide +kernel
theorem dX7_canShift_69 : decode cX7_canShift 69 = .ok (.istore_n 2, 1) := by decide +kernel
theorem dX7_canShift_70 : decode cX7_canShift 70 = .ok (.iinc 5 1, 3) := by decide +kernel
theorem dX7_canShift_73 : decode cX7_canShift 73 = .ok (.goto (-40), 3) := by decide +kernel
theorem dX7_canShift_76 : decode cX7_canShift 76 = .ok (.iinc 3 1, 3) := by decide +kernel
theorem dX7_canShift_79 : decode cX7_canShift 79 = .ok (.goto (-75), 3) := by decide +kernel
theorem dX7_canShift_82 : decode cX7_canShift 82 = .ok (.iload_n 2, 1) := by decide +kernel
theorem dX7_canShift_83 : decode cX7_canShift 83 = .ok (.ireturn, 1) := by decide +kernel
set_option maxRecDepth 20000 in
theorem ggX7_shift_X7_isSide : GoodIn wsX7_shift wsX7_isSide := goodIn_r _ [6, 7, 8, 5, 9] (by decide +kernel) (by decide +kernel)
set_option maxRecDepth 20000 in
theorem gX7_shift_X7_isSide : GoodIn wsX7_shift (va_wsS RX7 120 yX7_isSide wsX7_isSide) := goodIn_app (goodIn_of _ (by decide +kernel)) ggX7_shift_X7_isSide
set_option maxRecDepth 20000 in
theorem ggX7_shift_X7_canShift : GoodIn wsX7_shift wsX7_canShift := goodIn_r _ [13, 2, 14, 15, 5, 16, 7, 8, 9, 77, 78, 79, 80, 81, 82, 83, 84, 85, 86, 87, 88, 89, 90, 91, 92, 93, 94, 95] (by decide +kernel) (by decide +kernel)
set_option maxRecDepth 20000 in
theorem gX7_shift_X7_canShift : GoodIn wsX7_shift (wsV RX7 123 RX7 yX7_canShift wsX7_canShift) := goodIn_app (goodIn_of _ (by decide +kernel)) ggX7_shift_X7_canShift
set_option maxRecDepth 20000 in
theorem ggX7_shift_X7_save : GoodIn wsX7_shift wsX7_save := goodIn_r _ [20, 21, 22, 2, 77, 78, 79, 80, 81, 82, 83, 84, 85, 86, 87, 88, 89, 90, 91, 92, 93, 94, 95] (by decide +kernel) (by decide +kernel)
set_option maxRecDepth 20000 in
theorem gX7_shift_X7_save : GoodIn wsX7_shift (wsV RX7 109 RX7 yX7_save wsX7_save) := goodIn_app (goodIn_of _ (by decide +kernel)) ggX7_shift_X7_save
set_option maxRecDepth 20000 in
theorem ggX7_shift_X7_shifted : GoodIn wsX7_shift wsX7_shifted := goodIn_r _ [25] (by decide +kernel) (by decide +kernel)
set_option maxRecDepth 20000 in
theorem gX7_shift_X7_shifted : GoodIn wsX7_shift (va_wsS RX7 126 yX7_shifted wsX7_shifted) := goodIn_app (goodIn_of _ (by decide +kernel)) ggX7_shift_X7_shifted
set_option maxRecDepth 20000 in
theorem ggX7_shift_X7_rightsNow : GoodIn wsX7_shift wsX7_rightsNow := goodIn_r _ [29, 30, 31, 32, 5, 33, 34, 35, 36, 37, 38, 39, 40, 41, 42, 43, 44, 45, 46, 47, 48, 49, 2, 50, 51, 52, 53, 14, 15, 16, 7, 8, 9, 54, 55, 56, 57, 58, 59, 60, 61, 62, 63, 64, 65, 66, 67, 68, 69, 70, 71, 72, 73, 74, 75, 76, 77, 78, 79, 80, 81, 82, 83, 84, 85, 86, 87, 88, 89, 90, 91, 92, 93, 94, 95] (by decide +kernel) (by decide +kernel)
set_option maxRecDepth 20000 in
theorem gX7_shift_X7_rightsNow : GoodIn wsX7_shift (wsV RX7 129 RX7 yX7_rightsNow wsX7_rightsNow) := goodIn_app (goodIn_of _ (by decide +kernel)) ggX7_shift_X7_rightsNow
theorem dX7_shift_0 : decode cX7_shift 0 = .ok (.aload_n 0, 1) := by decide +kernel
theorem dX7_shift_1 : decode cX7_shift 1 = .ok (.iload_n 1, 1) := by decide +kernel
theorem dX7_shift_2 : decode cX7_shift 2 = .ok (.invokestatic 120, 3) := by decide +kernel
theorem dX7_shift_5 : decode cX7_shift 5 = .ok (.ifCond .ne 7, 3) := by decide +kernel
theorem dX7_shift_8 : decode cX7_shift 8 = .ok (.iconst 1, 1) := by decide +kernel
theorem dX7_shift_9 : decode cX7_shift 9 = .ok (.goto 16, 3) := by decide +kernel
theorem dX7_shift_12 : decode cX7_shift 12 = .ok (.aload_n 0, 1) := by decide +kernel
theorem dX7_shift_13 : decode cX7_shift 13 = .ok (.iload_n 1, 1) := by decide +kernel
theorem dX7_shift_14 : decode cX7_shift 14 = .ok (.invokevirtual 123, 3) := by decide +kernel
theorem dX7_shift_17 : decode cX7_shift 17 = .ok (.ifCond .eq 7, 3) := by decide +kernel
theorem dX7_shift_20 : decode cX7_shift 20 = .ok (.iconst 0, 1) := by decide +kernel
theorem dX7_shift_21 : decode cX7_shift 21 = .ok (.goto 4, 3) := by decide +kernel
theorem dX7_shift_24 : decode cX7_shift 24 = .ok (.iconst 2, 1) := by decide +kernel
theorem dX7_shift_25 : decode cX7_shift 25 = .ok (.putfield 46, 3) := by decide +kernel
theorem dX7_shift_28 : decode cX7_shift 28 = .ok (.aload_n 0, 1) := by decide +kernel
theorem dX7_shift_29 : decode cX7_shift 29 = .ok (.getfield 46, 3) := by decide +kernel
theorem dX7_shift_32 : decode cX7_shift 32 = .ok (.ifCond .le 5, 3) := by decide +kernel
theorem dX7_shift_35 : decode cX7_shift 35 = .ok (.iconst 0, 1) := by decide +kernel
theorem dX7_shift_36 : decode cX7_shift 36 = .ok (.ireturn, 1) := by decide +kernel
theorem dX7_shift_37 : decode cX7_shift 37 = .ok (.aload_n 0, 1) := by decide +kernel
theorem dX7_shift_38 : decode cX7_shift 38 = .ok (.invokevirtual 109, 3) := by decide +kernel
theorem dX7_shift_41 : decode cX7_shift 41 = .ok (.iconst 0, 1) := by decide +kernel
theorem dX7_shift_42 : decode cX7_shift 42 = .ok (.istore_n 2, 1) := by decide +kernel
theorem dX7_shift_43 : decode cX7_shift 43 = .ok (.iload_n 2, 1) := by decide +kernel
theorem dX7_shift_44 : decode cX7_shift 44 = .ok (.bipush 96, 2) := by decide +kernel
theorem dX7_shift_46 : decode cX7_shift 46 = .ok (.if_icmp .ge 51, 3) := by decide +kernel
theorem dX7_shift_49 : decode cX7_shift 49 = .ok (.aload_n 0, 1) := by decide +kernel
theorem dX7_shift_50 : decode cX7_shift 50 = .ok (.getfield 7, 3) := by decide +kernel
theorem dX7_shift_53 : decode cX7_shift 53 = .ok (.iconst 0, 1) := by decide +kernel
theorem dX7_shift_54 : decode cX7_shift 54 = .ok (.iload_n 2, 1) := by decide +kernel
theorem dX7_shift_55 : decode cX7_shift 55 = .ok (.iadd, 1) := by decide +kernel
theorem dX7_shift_56 : decode cX7_shift 56 = .ok (.aload_n 0, 1) := by decide +kernel
theorem dX7_shift_57 : decode cX7_shift 57 = .ok (.getfield 7, 3) := by decide +kernel
theorem dX7_shift_60 : decode cX7_shift 60 = .ok (.iconst 0, 1) := by decide +kernel
theorem dX7_shift_61 : decode cX7_shift 61 = .ok (.iload_n 2, 1) := by decide +kernel
theorem dX7_shift_62 : decode cX7_shift 62 = .ok (.iadd, 1) := by decide +kernel
theorem dX7_shift_63 : decode cX7_shift 63 = .ok (.iaload, 1) := by decide +kernel
theorem dX7_shift_64 : decode cX7_shift 64 = .ok (.iload_n 1, 1) := by decide +kernel
theorem dX7_shift_65 : decode cX7_shift 65 = .ok (.invokestatic 126, 3) := by decide +kernel
theorem dX7_shift_68 : decode cX7_shift 68 = .ok (.iastore, 1) := by decide +kernel
theorem dX7_shift_69 : decode cX7_shift 69 = .ok (.aload_n 0, 1) := by decide +kernel
theorem dX7_shift_70 : decode cX7_shift 70 = .ok (.getfield 7, 3) := by decide +kernel
theorem dX7_shift_73 : decode cX7_shift 73 = .ok (.bipush 96, 2) := by decide +kernel
theorem dX7_shift_75 : decode cX7_shift 75 = .ok (.iload_n 2, 1) := by decide +kernel
theorem dX7_shift_76 : decode cX7_shift 76 = .ok (.iadd, 1) := by decide +kernel
theorem dX7_shift_77 : decode cX7_shift 77 = .ok (.aload_n 0, 1) := by decide +kernel
theorem dX7_shift_78 : decode cX7_shift 78 = .ok (.getfield 7, 3) := by decide +kernel
theorem dX7_shift_81 : decode cX7_shift 81 = .ok (.bipush 96, 2) := by decide +kernel
theorem dX7_shift_83 : decode cX7_shift 83 = .ok (.iload_n 2, 1) := by decide +kernel
theorem dX7_shift_84 : decode cX7_shift 84 = .ok (.iadd, 1) := by decide +kernel
theorem dX7_shift_85 : decode cX7_shift 85 = .ok (.iaload, 1) := by decide +kernel
theorem dX7_shift_86 : decode cX7_shift 86 = .ok (.iload_n 1, 1) := by decide +kernel
theorem dX7_shift_87 : decode cX7_shift 87 = .ok (.invokestatic 126, 3) := by decide +kernel
theorem dX7_shift_90 : decode cX7_shift 90 = .ok (.iastore, 1) := by decide +kernel
theorem dX7_shift_91 : decode cX7_shift 91 = .ok (.iinc 2 1, 3) := by decide +kernel
theorem dX7_shift_94 : decode cX7_shift 94 = .ok (.goto (-51), 3) := by decide +kernel
theorem dX7_shift_97 : decode cX7_shift 97 = .ok (.aload_n 0, 1) := by decide +kernel
theorem dX7_shift_98 : decode cX7_shift 98 = .ok (.invokevirtual 129, 3) := by decide +kernel
theorem dX7_shift_101 : decode cX7_shift 101 = .ok (.ireturn, 1) := by decide +kernel
set_option maxRecDepth 20000 in
theorem ggX7_canTear_X7_isSide : GoodIn wsX7_canTear wsX7_isSide := goodIn_r _ [5, 6, 7, 4, 8] (by decide +kernel) (by decide +kernel)
set_option maxRecDepth 20000 in
theorem gX7_canTear_X7_isSide : GoodIn wsX7_canTear (va_wsS RX7 120 yX7_isSide wsX7_isSide) := goodIn_app (goodIn_of _ (by decide +kernel)) ggX7_canTear_X7_isSide
theorem dX7_canTear_0 : decode cX7_canTear 0 = .ok (.iconst 1, 1) := by decide +kernel
theorem dX7_canTear_1 : decode cX7_canTear 1 = .ok (.istore 4, 2) := by decide +kernel
theorem dX7_canTear_3 : decode cX7_canTear 3 = .ok (.iload_n 1, 1) := by decide +kernel
theorem dX7_canTear_4 : decode cX7_canTear 4 = .ok (.istore 5, 2) := by decide +kernel
theorem dX7_canTear_6 : decode cX7_canTear 6 = .ok (.iload 5, 2) := by decide +kernel
theorem dX7_canTear_8 : decode cX7_canTear 8 = .ok (.iload_n 2, 1) := by decide +kernel
theorem dX7_canTear_9 : decode cX7_canTear 9 = .ok (.if_icmp .gt 40, 3) := by decide +kernel
theorem dX7_canTear_12 : decode cX7_canTear 12 = .ok (.iload 4, 2) := by decide +kernel
theorem dX7_canTear_14 : decode cX7_canTear 14 = .ok (.ifCond .eq 26, 3) := by decide +kernel
theorem dX7_canTear_17 : decode cX7_canTear 17 = .ok (.aload_n 0, 1) := by decide +kernel
theorem dX7_canTear_18 : decode cX7_canTear 18 = .ok (.getfield 7, 3) := by decide +kernel
theorem dX7_canTear_21 : decode cX7_canTear 21 = .ok (.sipush 192, 3) := by decide +kernel
theorem dX7_canTear_24 : decode cX7_canTear 24 = .ok (.iload 5, 2) := by decide +kernel
theorem dX7_canTear_26 : decode cX7_canTear 26 = .ok (.iadd, 1) := by decide +kernel
theorem dX7_canTear_27 : decode cX7_canTear 27 = .ok (.iaload, 1) := by decide +kernel
theorem dX7_canTear_28 : decode cX7_canTear 28 = .ok (.iload_n 3, 1) := by decide +kernel
theorem dX7_canTear_29 : decode cX7_canTear 29 = .ok (.iadd, 1) := by decide +kernel
theorem dX7_canTear_30 : decode cX7_canTear 30 = .ok (.invokestatic 120, 3) := by decide +kernel
theorem dX7_canTear_33 : decode cX7_canTear 33 = .ok (.ifCond .eq 7, 3) := by decide +kernel
theorem dX7_canTear_36 : decode cX7_canTear 36 = .ok (.iconst 1, 1) := by decide +kernel
theorem dX7_canTear_37 : decode cX7_canTear 37 = .ok (.goto 4, 3) := by decide +kernel
theorem dX7_canTear_40 : decode cX7_canTear 40 = .ok (.iconst 0, 1) := by decide +kernel
theorem dX7_canTear_41 : decode cX7_canTear 41 = .ok (.istore 4, 2) := by decide +kernel
theorem dX7_canTear_43 : decode cX7_canTear 43 = .ok (.iinc 5 1, 3) := by decide +kernel
theorem dX7_canTear_46 : decode cX7_canTear 46 = .ok (.goto (-40), 3) := by decide +kernel
theorem dX7_canTear_49 : decode cX7_canTear 49 = .ok (.iload 4, 2) := by decide +kernel
theorem dX7_canTear_51 : decode cX7_canTear 51 = .ok (.ireturn, 1) := by decide +kernel
set_option maxRecDepth 20000 in
theorem ggX7_tear_X7_refusedRange : GoodIn wsX7_tear wsX7_refusedRange := goodIn_r _ [6, 7, 8, 5, 9, 10, 11, 12] (by decide +kernel) (by decide +kernel)
set_option maxRecDepth 20000 in
theorem gX7_tear_X7_refusedRange : GoodIn wsX7_tear (va_wsS RX7 116 yX7_refusedRange wsX7_refusedRange) := goodIn_app (goodIn_of _ (by decide +kernel)) ggX7_tear_X7_refusedRange
set_option maxRecDepth 20000 in
theorem ggX7_tear_X7_isSide : GoodIn wsX7_tear wsX7_isSide := goodIn_r _ [15, 10, 11, 5, 12] (by decide +kernel) (by decide +kernel)
set_option maxRecDepth 20000 in
theorem gX7_tear_X7_isSide : GoodIn wsX7_tear (va_wsS RX7 120 yX7_isSide wsX7_isSide) := goodIn_app (goodIn_of _ (by decide +kernel)) ggX7_tear_X7_isSide
set_option maxRecDepth 20000 in
theorem ggX7_tear_X7_canTear : GoodIn wsX7_tear wsX7_canTear := goodIn_r _ [19, 2, 13, 14, 5, 15, 10, 11, 12, 80, 81, 82, 83, 84, 85, 86, 87, 88, 89, 90, 91, 92, 93, 94, 95, 96, 97, 98] (by decide +kernel) (by decide +kernel)
set_option maxRecDepth 20000 in
theorem gX7_tear_X7_canTear : GoodIn wsX7_tear (wsV RX7 132 RX7 yX7_canTear wsX7_canTear) := goodIn_app (goodIn_of _ (by decide +kernel)) ggX7_tear_X7_canTear
set_option maxRecDepth 20000 in
theorem ggX7_tear_X7_save : GoodIn wsX7_tear wsX7_save := goodIn_r _ [23, 24, 25, 2, 80, 81, 82, 83, 84, 85, 86, 87, 88, 89, 90, 91, 92, 93, 94, 95, 96, 97, 98] (by decide +kernel) (by decide +kernel)
set_option maxRecDepth 20000 in
theorem gX7_tear_X7_save : GoodIn wsX7_tear (wsV RX7 109 RX7 yX7_save wsX7_save) := goodIn_app (goodIn_of _ (by decide +kernel)) ggX7_tear_X7_save
set_option maxRecDepth 20000 in
theorem ggX7_tear_X7_rightsNow : GoodIn wsX7_tear wsX7_rightsNow := goodIn_r _ [29, 30, 31, 32, 5, 33, 34, 35, 36, 37, 38, 39, 40, 41, 42, 43, 44, 45, 46, 47, 48, 49, 2, 50, 51, 52, 53, 54, 55, 56, 10, 11, 12, 57, 58, 59, 60, 61, 62, 63, 64, 65, 66, 67, 68, 69, 70, 71, 72, 73, 74, 75, 76, 77, 78, 79, 80, 81, 82, 83, 84, 85, 86, 87, 88, 89, 90, 91, 92, 93, 94, 95, 96, 97, 98] (by decide +kernel) (by decide +kernel)
set_option maxRecDepth 20000 in
theorem gX7_tear_X7_rightsNow : GoodIn wsX7_tear (wsV RX7 129 RX7 yX7_rightsNow wsX7_rightsNow) := goodIn_app (goodIn_of _ (by decide +kernel)) ggX7_tear_X7_rightsNow
theorem dX7_tear_0 : decode cX7_tear 0 = .ok (.aload_n 0, 1) := by decide +kernel
theorem dX7_tear_1 : decode cX7_tear 1 = .ok (.iconst 1, 1) := by decide +kernel
theorem dX7_tear_2 : decode cX7_tear 2 = .ok (.iload_n 1, 1) := by decide +kernel
theorem dX7_tear_3 : decode cX7_tear 3 = .ok (.iload_n 2, 1) := by decide +kernel
theorem dX7_tear_4 : decode cX7_tear 4 = .ok (.invokestatic 116, 3) := by decide +kernel
theorem dX7_tear_7 : decode cX7_tear 7 = .ok (.putfield 46, 3) := by decide +kernel
theorem dX7_tear_10 : decode cX7_tear 10 = .ok (.aload_n 0, 1) := by decide +kernel
theorem dX7_tear_11 : decode cX7_tear 11 = .ok (.getfield 46, 3) := by decide +kernel
theorem dX7_tear_14 : decode cX7_tear 14 = .ok (.ifCond .ne 33, 3) := by decide +kernel
theorem dX7_tear_17 : decode cX7_tear 17 = .ok (.aload_n 0, 1) := by decide +kernel
theorem dX7_tear_18 : decode cX7_tear 18 = .ok (.iload_n 3, 1) := by decide +kernel
theorem dX7_tear_19 : decode cX7_tear 19 = .ok (.invokestatic 120, 3) := by decide +kernel
theorem dX7_tear_22 : decode cX7_tear 22 = .ok (.ifCond .ne 7, 3) := by decide +kernel
theorem dX7_tear_25 : decode cX7_tear 25 = .ok (.iconst 2, 1) := by decide +kernel
theorem dX7_tear_26 : decode cX7_tear 26 = .ok (.goto 18, 3) := by decide +kernel
theorem dX7_tear_29 : decode cX7_tear 29 = .ok (.aload_n 0, 1) := by decide +kernel
theorem dX7_tear_30 : decode cX7_tear 30 = .ok (.iload_n 1, 1) := by decide +kernel
theorem dX7_tear_31 : decode cX7_tear 31 = .ok (.iload_n 2, 1) := by decide +kernel
theorem dX7_tear_32 : decode cX7_tear 32 = .ok (.iload_n 3, 1) := by decide +kernel
theorem dX7_tear_33 : decode cX7_tear 33 = .ok (.invokevirtual 132, 3) := by decide +kernel
theorem dX7_tear_36 : decode cX7_tear 36 = .ok (.ifCond .eq 7, 3) := by decide +kernel
theorem dX7_tear_39 : decode cX7_tear 39 = .ok (.iconst 0, 1) := by decide +kernel
theorem dX7_tear_40 : decode cX7_tear 40 = .ok (.goto 4, 3) := by decide +kernel
theorem dX7_tear_43 : decode cX7_tear 43 = .ok (.iconst 3, 1) := by decide +kernel
theorem dX7_tear_44 : decode cX7_tear 44 = .ok (.putfield 46, 3) := by decide +kernel
theorem dX7_tear_47 : decode cX7_tear 47 = .ok (.aload_n 0, 1) := by decide +kernel
theorem dX7_tear_48 : decode cX7_tear 48 = .ok (.getfield 46, 3) := by decide +kernel
theorem dX7_tear_51 : decode cX7_tear 51 = .ok (.ifCond .le 5, 3) := by decide +kernel
theorem dX7_tear_54 : decode cX7_tear 54 = .ok (.iconst 0, 1) := by decide +kernel
theorem dX7_tear_55 : decode cX7_tear 55 = .ok (.ireturn, 1) := by decide +kernel
theorem dX7_tear_56 : decode cX7_tear 56 = .ok (.aload_n 0, 1) := by decide +kernel
theorem dX7_tear_57 : decode cX7_tear 57 = .ok (.invokevirtual 109, 3) := by decide +kernel
theorem dX7_tear_60 : decode cX7_tear 60 = .ok (.iload_n 1, 1) := by decide +kernel
theorem dX7_tear_61 : decode cX7_tear 61 = .ok (.istore 4, 2) := by decide +kernel
theorem dX7_tear_63 : decode cX7_tear 63 = .ok (.iload 4, 2) := by decide +kernel
theorem dX7_tear_65 : decode cX7_tear 65 = .ok (.iload_n 2, 1) := by decide +kernel
theorem dX7_tear_66 : decode cX7_tear 66 = .ok (.if_icmp .gt 24, 3) := by decide +kernel
theorem dX7_tear_69 : decode cX7_tear 69 = .ok (.aload_n 0, 1) := by decide +kernel
theorem dX7_tear_70 : decode cX7_tear 70 = .ok (.getfield 7, 3) := by decide +kernel
theorem dX7_tear_73 : decode cX7_tear 73 = .ok (.sipush 192, 3) := by decide +kernel
theorem dX7_tear_76 : decode cX7_tear 76 = .ok (.iload 4, 2) := by decide +kernel
theorem dX7_tear_78 : decode cX7_tear 78 = .ok (.iadd, 1) := by decide +kernel
theorem dX7_tear_79 : decode cX7_tear 79 = .ok (.dup2, 1) := by decide +kernel
theorem dX7_tear_80 : decode cX7_tear 80 = .ok (.iaload, 1) := by decide +kernel
theorem dX7_tear_81 : decode cX7_tear 81 = .ok (.iload_n 3, 1) := by decide +kernel
theorem dX7_tear_82 : decode cX7_tear 82 = .ok (.iadd, 1) := by decide +kernel
theorem dX7_tear_83 : decode cX7_tear 83 = .ok (.iastore, 1) := by decide +kernel
theorem dX7_tear_84 : decode cX7_tear 84 = .ok (.iinc 4 1, 3) := by decide +kernel
theorem dX7_tear_87 : decode cX7_tear 87 = .ok (.goto (-24), 3) := by decide +kernel
theorem dX7_tear_90 : decode cX7_tear 90 = .ok (.aload_n 0, 1) := by decide +kernel
theorem dX7_tear_91 : decode cX7_tear 91 = .ok (.invokevirtual 129, 3) := by decide +kernel
theorem dX7_tear_94 : decode cX7_tear 94 = .ok (.ireturn, 1) := by decide +kernel
set_option maxRecDepth 20000 in
theorem ggX7_steer_X7_refusedRange : GoodIn wsX7_steer wsX7_refusedRange := goodIn_r _ [6, 7, 8, 5, 9, 10, 11, 12] (by decide +kernel) (by decide +kernel)
set_option maxRecDepth 20000 in
theorem gX7_steer_X7_refusedRange : GoodIn wsX7_steer (va_wsS RX7 116 yX7_refusedRange wsX7_refusedRange) := goodIn_app (goodIn_of _ (by decide +kernel)) ggX7_steer_X7_refusedRange
set_option maxRecDepth 20000 in
theorem ggX7_steer_X7_isSide : GoodIn wsX7_steer wsX7_isSide := goodIn_r _ [15, 10, 11, 5, 12] (by decide +kernel) (by decide +kernel)
set_option maxRecDepth 20000 in
theorem gX7_steer_X7_isSide : GoodIn wsX7_steer (va_wsS RX7 120 yX7_isSide wsX7_isSide) := goodIn_app (goodIn_of _ (by decide +kernel)) ggX7_steer_X7_isSide
set_option maxRecDepth 20000 in
theorem ggX7_steer_X7_save : GoodIn wsX7_steer wsX7_save := goodIn_r _ [19, 20, 21, 2, 76, 77, 78, 79, 80, 81, 82, 83, 84, 85, 86, 87, 88, 89, 90, 91, 92, 93, 94] (by decide +kernel) (by decide +kernel)
set_option maxRecDepth 20000 in
theorem gX7_steer_X7_save : GoodIn wsX7_steer (wsV RX7 109 RX7 yX7_save wsX7_save) := goodIn_app (goodIn_of _ (by decide +kernel)) ggX7_steer_X7_save
set_option maxRecDepth 20000 in
theorem ggX7_steer_X7_rightsNow : GoodIn wsX7_steer wsX7_rightsNow := goodIn_r _ [25, 26, 27, 28, 5, 29, 30, 31, 32, 33, 34, 35, 36, 37, 38, 39, 40, 41, 42, 43, 44, 45, 2, 46, 47, 48, 49, 50, 51, 52, 10, 11, 12, 53, 54, 55, 56, 57, 58, 59, 60, 61, 62, 63, 64, 65, 66, 67, 68, 69, 70, 71, 72, 73, 74, 75, 76, 77, 78, 79, 80, 81, 82, 83, 84, 85, 86, 87, 88, 89, 90, 91, 92, 93, 94] (by decide +kernel) (by decide +kernel)
set_option maxRecDepth 20000 in
theorem gX7_steer_X7_rightsNow : GoodIn wsX7_steer (wsV RX7 129 RX7 yX7_rightsNow wsX7_rightsNow) := goodIn_app (goodIn_of _ (by decide +kernel)) ggX7_steer_X7_rightsNow
theorem dX7_steer_0 : decode cX7_steer 0 = .ok (.aload_n 0, 1) := by decide +kernel
theorem dX7_steer_1 : decode cX7_steer 1 = .ok (.iconst 1, 1) := by decide +kernel
theorem dX7_steer_2 : decode cX7_steer 2 = .ok (.iload_n 1, 1) := by decide +kernel
theorem dX7_steer_3 : decode cX7_steer 3 = .ok (.iload_n 2, 1) := by decide +kernel
theorem dX7_steer_4 : decode cX7_steer 4 = .ok (.invokestatic 116, 3) := by decide +kernel
theorem dX7_steer_7 : decode cX7_steer 7 = .ok (.putfield 46, 3) := by decide +kernel
theorem dX7_steer_10 : decode cX7_steer 10 = .ok (.aload_n 0, 1) := by decide +kernel
theorem dX7_steer_11 : decode cX7_steer 11 = .ok (.getfield 46, 3) := by decide +kernel
theorem dX7_steer_14 : decode cX7_steer 14 = .ok (.ifCond .ne 19, 3) := by decide +kernel
theorem dX7_steer_17 : decode cX7_steer 17 = .ok (.aload_n 0, 1) := by decide +kernel
theorem dX7_steer_18 : decode cX7_steer 18 = .ok (.iload_n 3, 1) := by decide +kernel
theorem dX7_steer_19 : decode cX7_steer 19 = .ok (.invokestatic 120, 3) := by decide +kernel
theorem dX7_steer_22 : decode cX7_steer 22 = .ok (.ifCond .eq 7, 3) := by decide +kernel
theorem dX7_steer_25 : decode cX7_steer 25 = .ok (.iconst 0, 1) := by decide +kernel
theorem dX7_steer_26 : decode cX7_steer 26 = .ok (.goto 4, 3) := by decide +kernel
theorem dX7_steer_29 : decode cX7_steer 29 = .ok (.iconst 2, 1) := by decide +kernel
theorem dX7_steer_30 : decode cX7_steer 30 = .ok (.putfield 46, 3) := by decide +kernel
theorem dX7_steer_33 : decode cX7_steer 33 = .ok (.aload_n 0, 1) := by decide +kernel
theorem dX7_steer_34 : decode cX7_steer 34 = .ok (.getfield 46, 3) := by decide +kernel
theorem dX7_steer_37 : decode cX7_steer 37 = .ok (.ifCond .le 5, 3) := by decide +kernel
theorem dX7_steer_40 : decode cX7_steer 40 = .ok (.iconst 0, 1) := by decide +kernel
theorem dX7_steer_41 : decode cX7_steer 41 = .ok (.ireturn, 1) := by decide +kernel
theorem dX7_steer_42 : decode cX7_steer 42 = .ok (.aload_n 0, 1) := by decide +kernel
theorem dX7_steer_43 : decode cX7_steer 43 = .ok (.invokevirtual 109, 3) := by decide +kernel
theorem dX7_steer_46 : decode cX7_steer 46 = .ok (.iload_n 1, 1) := by decide +kernel
theorem dX7_steer_47 : decode cX7_steer 47 = .ok (.istore 4, 2) := by decide +kernel
theorem dX7_steer_49 : decode cX7_steer 49 = .ok (.iload 4, 2) := by decide +kernel
theorem dX7_steer_51 : decode cX7_steer 51 = .ok (.iload_n 2, 1) := by decide +kernel
theorem dX7_steer_52 : decode cX7_steer 52 = .ok (.if_icmp .gt 21, 3) := by decide +kernel
theorem dX7_steer_55 : decode cX7_steer 55 = .ok (.aload_n 0, 1) := by decide +kernel
theorem dX7_steer_56 : decode cX7_steer 56 = .ok (.getfield 7, 3) := by decide +kernel
theorem dX7_steer_59 : decode cX7_steer 59 = .ok (.sipush 288, 3) := by decide +kernel
theorem dX7_steer_62 : decode cX7_steer 62 = .ok (.iload 4, 2) := by decide +kernel
theorem dX7_steer_64 : decode cX7_steer 64 = .ok (.iadd, 1) := by decide +kernel
theorem dX7_steer_65 : decode cX7_steer 65 = .ok (.iload_n 3, 1) := by decide +kernel
theorem dX7_steer_66 : decode cX7_steer 66 = .ok (.iastore, 1) := by decide +kernel
theorem dX7_steer_67 : decode cX7_steer 67 = .ok (.iinc 4 1, 3) := by decide +kernel
theorem dX7_steer_70 : decode cX7_steer 70 = .ok (.goto (-21), 3) := by decide +kernel
theorem dX7_steer_73 : decode cX7_steer 73 = .ok (.aload_n 0, 1) := by decide +kernel
theorem dX7_steer_74 : decode cX7_steer 74 = .ok (.invokevirtual 129, 3) := by decide +kernel
theorem dX7_steer_77 : decode cX7_steer 77 = .ok (.ireturn, 1) := by decide +kernel
set_option maxRecDepth 20000 in
theorem ggX7_isSetting_X7_within : GoodIn wsX7_isSetting wsX7_within := goodIn_r _ [4] (by decide +kernel) (by decide +kernel)
set_option maxRecDepth 20000 in
theorem gX7_isSetting_X7_within : GoodIn wsX7_isSetting (va_wsS RX7 53 yX7_within wsX7_within) := goodIn_app (goodIn_of _ (by decide +kernel)) ggX7_isSetting_X7_within
theorem dX7_isSetting_0 : decode cX7_isSetting 0 = .ok (.iload_n 0, 1) := by decide +kernel
theorem dX7_isSetting_1 : decode cX7_isSetting 1 = .ok (.iconst 0, 1) := by decide +kernel
theorem dX7_isSetting_2 : decode cX7_isSetting 2 = .ok (.iconst 1, 1) := by decide +kernel
theorem dX7_isSetting_3 : decode cX7_isSetting 3 = .ok (.invokestatic 53, 3) := by decide +kernel
theorem dX7_isSetting_6 : decode cX7_isSetting 6 = .ok (.ireturn, 1) := by decide +kernel
set_option maxRecDepth 20000 in
theorem ggX7_set_X7_isSetting : GoodIn wsX7_set wsX7_isSetting := goodIn_r _ [6, 7, 8, 5, 9] (by decide +kernel) (by decide +kernel)
set_option maxRecDepth 20000 in
theorem gX7_set_X7_isSetting : GoodIn wsX7_set (va_wsS RX7 135 yX7_isSetting wsX7_isSetting) := goodIn_app (goodIn_of _ (by decide +kernel)) ggX7_set_X7_isSetting
set_option maxRecDepth 20000 in
theorem ggX7_set_X7_within : GoodIn wsX7_set wsX7_within := goodIn_r _ [9] (by decide +kernel) (by decide +kernel)
set_option maxRecDepth 20000 in
theorem gX7_set_X7_within : GoodIn wsX7_set (va_wsS RX7 53 yX7_within wsX7_within) := goodIn_app (goodIn_of _ (by decide +kernel)) ggX7_set_X7_within
set_option maxRecDepth 20000 in
theorem ggX7_set_X7_save : GoodIn wsX7_set wsX7_save := goodIn_r _ [13, 14, 15, 2, 16, 17, 18, 19, 20, 21, 22, 23, 24, 25, 26, 27, 28, 29, 30, 31, 32, 33, 34] (by decide +kernel) (by decide +kernel)
set_option maxRecDepth 20000 in
theorem gX7_set_X7_save : GoodIn wsX7_set (wsV RX7 109 RX7 yX7_save wsX7_save) := goodIn_app (goodIn_of _ (by decide +kernel)) ggX7_set_X7_save
theorem dX7_set_0 : decode cX7_set 0 = .ok (.aload_n 0, 1) := by decide +kernel
theorem dX7_set_1 : decode cX7_set 1 = .ok (.iload_n 1, 1) := by decide +kernel
theorem dX7_set_2 : decode cX7_set 2 = .ok (.invokestatic 135, 3) := by decide +kernel
theorem dX7_set_5 : decode cX7_set 5 = .ok (.ifCond .ne 7, 3) := by decide +kernel
theorem dX7_set_8 : decode cX7_set 8 = .ok (.iconst 1, 1) := by decide +kernel
theorem dX7_set_9 : decode cX7_set 9 = .ok (.goto 26, 3) := by decide +kernel
theorem dX7_set_12 : decode cX7_set 12 = .ok (.iload_n 2, 1) := by decide +kernel
theorem dX7_set_13 : decode cX7_set 13 = .ok (.iconst 0, 1) := by decide +kernel
theorem dX7_set_14 : decode cX7_set 14 = .ok (.iload_n 1, 1) := by decide +kernel
theorem dX7_set_15 : decode cX7_set 15 = .ok (.ifCond .ne 7, 3) := by decide +kernel
theorem dX7_set_18 : decode cX7_set 18 = .ok (.iconst 3, 1) := by decide +kernel
theorem dX7_set_19 : decode cX7_set 19 = .ok (.goto 5, 3) := by decide +kernel
theorem dX7_set_22 : decode cX7_set 22 = .ok (.bipush 8, 2) := by decide +kernel
theorem dX7_set_24 : decode cX7_set 24 = .ok (.invokestatic 53, 3) := by decide +kernel
theorem dX7_set_27 : decode cX7_set 27 = .ok (.ifCond .eq 7, 3) := by decide +kernel
theorem dX7_set_30 : decode cX7_set 30 = .ok (.iconst 0, 1) := by decide +kernel
theorem dX7_set_31 : decode cX7_set 31 = .ok (.goto 4, 3) := by decide +kernel
theorem dX7_set_34 : decode cX7_set 34 = .ok (.iconst 2, 1) := by decide +kernel
theorem dX7_set_35 : decode cX7_set 35 = .ok (.putfield 46, 3) := by decide +kernel
theorem dX7_set_38 : decode cX7_set 38 = .ok (.aload_n 0, 1) := by decide +kernel
theorem dX7_set_39 : decode cX7_set 39 = .ok (.getfield 46, 3) := by decide +kernel
theorem dX7_set_42 : decode cX7_set 42 = .ok (.ifCond .le 5, 3) := by decide +kernel
theorem dX7_set_45 : decode cX7_set 45 = .ok (.iconst 0, 1) := by decide +kernel
theorem dX7_set_46 : decode cX7_set 46 = .ok (.ireturn, 1) := by decide +kernel
theorem dX7_set_47 : decode cX7_set 47 = .ok (.aload_n 0, 1) := by decide +kernel
theorem dX7_set_48 : decode cX7_set 48 = .ok (.invokevirtual 109, 3) := by decide +kernel
theorem dX7_set_51 : decode cX7_set 51 = .ok (.aload_n 0, 1) := by decide +kernel
theorem dX7_set_52 : decode cX7_set 52 = .ok (.getfield 7, 3) := by decide +kernel
theorem dX7_set_55 : decode cX7_set 55 = .ok (.sipush 384, 3) := by decide +kernel
theorem dX7_set_58 : decode cX7_set 58 = .ok (.iload_n 1, 1) := by decide +kernel
theorem dX7_set_59 : decode cX7_set 59 = .ok (.iadd, 1) := by decide +kernel
theorem dX7_set_60 : decode cX7_set 60 = .ok (.iaload, 1) := by decide +kernel
theorem dX7_set_61 : decode cX7_set 61 = .ok (.istore_n 3, 1) := by decide +kernel
theorem dX7_set_62 : decode cX7_set 62 = .ok (.aload_n 0, 1) := by decide +kernel
theorem dX7_set_63 : decode cX7_set 63 = .ok (.getfield 7, 3) := by decide +kernel
theorem dX7_set_66 : decode cX7_set 66 = .ok (.sipush 384, 3) := by decide +kernel
theorem dX7_set_69 : decode cX7_set 69 = .ok (.iload_n 1, 1) := by decide +kernel
theorem dX7_set_70 : decode cX7_set 70 = .ok (.iadd, 1) := by decide +kernel
theorem dX7_set_71 : decode cX7_set 71 = .ok (.iload_n 2, 1) := by decide +kernel
theorem dX7_set_72 : decode cX7_set 72 = .ok (.iastore, 1) := by decide +kernel
theorem dX7_set_73 : decode cX7_set 73 = .ok (.iload_n 3, 1) := by decide +kernel
theorem dX7_set_74 : decode cX7_set 74 = .ok (.ireturn, 1) := by decide +kernel
set_option maxRecDepth 20000 in
theorem ggX7_learn_X7_save : GoodIn wsX7_learn wsX7_save := goodIn_r _ [11, 12, 13, 3, 52, 53, 54, 55, 56, 57, 58, 59, 60, 61, 62, 63, 64, 65, 66, 67, 68, 69, 70] (by decide +kernel) (by decide +kernel)
set_option maxRecDepth 20000 in
theorem gX7_learn_X7_save : GoodIn wsX7_learn (wsV RX7 109 RX7 yX7_save wsX7_save) := goodIn_app (goodIn_of _ (by decide +kernel)) ggX7_learn_X7_save
set_option maxRecDepth 20000 in
theorem ggX7_learn_X7_lay : GoodIn wsX7_learn wsX7_lay := goodIn_r _ [17, 6, 4, 18, 19, 20, 5, 21, 22, 23, 10, 24, 25, 26, 27, 28, 29, 30, 3, 31, 32, 33, 34, 35, 36, 37, 38, 39, 40, 41, 42, 43, 44, 45, 46, 47, 48, 49, 50, 51, 52, 53, 54, 55, 56, 57, 58, 59, 60, 61, 62, 63, 64, 65, 66, 67, 68, 69, 70] (by decide +kernel) (by decide +kernel)
set_option maxRecDepth 20000 in
theorem gX7_learn_X7_lay : GoodIn wsX7_learn (wsV RX7 93 RX7 yX7_lay wsX7_lay) := goodIn_app (goodIn_of _ (by decide +kernel)) ggX7_learn_X7_lay
theorem dX7_learn_0 : decode cX7_learn 0 = .ok (.aload_n 0, 1) := by decide +kernel
theorem dX7_learn_1 : decode cX7_learn 1 = .ok (.iconst 0, 1) := by decide +kernel
theorem dX7_learn_2 : decode cX7_learn 2 = .ok (.putfield 46, 3) := by decide +kernel
theorem dX7_learn_5 : decode cX7_learn 5 = .ok (.aload_n 0, 1) := by decide +kernel
theorem dX7_learn_6 : decode cX7_learn 6 = .ok (.invokevirtual 109, 3) := by decide +kernel
theorem dX7_learn_9 : decode cX7_learn 9 = .ok (.aload_n 0, 1) := by decide +kernel
theorem dX7_learn_10 : decode cX7_learn 10 = .ok (.invokevirtual 93, 3) := by decide +kernel
theorem dX7_learn_13 : decode cX7_learn 13 = .ok (.ldc 138, 2) := by decide +kernel
theorem dX7_learn_15 : decode cX7_learn 15 = .ok (.istore_n 1, 1) := by decide +kernel
theorem dX7_learn_16 : decode cX7_learn 16 = .ok (.iconst 0, 1) := by decide +kernel
theorem dX7_learn_17 : decode cX7_learn 17 = .ok (.istore_n 2, 1) := by decide +kernel
theorem dX7_learn_18 : decode cX7_learn 18 = .ok (.iload_n 2, 1) := by decide +kernel
theorem dX7_learn_19 : decode cX7_learn 19 = .ok (.bipush 96, 2) := by decide +kernel
theorem dX7_learn_21 : decode cX7_learn 21 = .ok (.if_icmp .ge 45, 3) := by decide +kernel
theorem dX7_learn_24 : decode cX7_learn 24 = .ok (.aload_n 0, 1) := by decide +kernel
theorem dX7_learn_25 : decode cX7_learn 25 = .ok (.getfield 7, 3) := by decide +kernel
theorem dX7_learn_28 : decode cX7_learn 28 = .ok (.sipush 386, 3) := by decide +kernel
theorem dX7_learn_31 : decode cX7_learn 31 = .ok (.iload_n 2, 1) := by decide +kernel
theorem dX7_learn_32 : decode cX7_learn 32 = .ok (.iadd, 1) := by decide +kernel
theorem dX7_learn_33 : decode cX7_learn 33 = .ok (.aload_n 0, 1) := by decide +kernel
theorem dX7_learn_34 : decode cX7_learn 34 = .ok (.getfield 22, 3) := by decide +kernel
theorem dX7_learn_37 : decode cX7_learn 37 = .ok (.iload_n 2, 1) := by decide +kernel
theorem dX7_learn_38 : decode cX7_learn 38 = .ok (.iaload, 1) := by decide +kernel
theorem dX7_learn_39 : decode cX7_learn 39 = .ok (.iload_n 1, 1) := by decide +kernel
theorem dX7_learn_40 : decode cX7_learn 40 = .ok (.iand, 1) := by decide +kernel
theorem dX7_learn_41 : decode cX7_learn 41 = .ok (.iastore, 1) := by decide +kernel
theorem dX7_learn_42 : decode cX7_learn 42 = .ok (.aload_n 0, 1) := by decide +kernel
theorem dX7_learn_43 : decode cX7_learn 43 = .ok (.getfield 7, 3) := by decide +kernel
theorem dX7_learn_46 : decode cX7_learn 46 = .ok (.sipush 482, 3) := by decide +kernel
theorem dX7_learn_49 : decode cX7_learn 49 = .ok (.iload_n 2, 1) := by decide +kernel
theorem dX7_learn_50 : decode cX7_learn 50 = .ok (.iadd, 1) := by decide +kernel
theorem dX7_learn_51 : decode cX7_learn 51 = .ok (.aload_n 0, 1) := by decide +kernel
theorem dX7_learn_52 : decode cX7_learn 52 = .ok (.getfield 25, 3) := by decide +kernel
theorem dX7_learn_55 : decode cX7_learn 55 = .ok (.iload_n 2, 1) := by decide +kernel
theorem dX7_learn_56 : decode cX7_learn 56 = .ok (.iaload, 1) := by decide +kernel
theorem dX7_learn_57 : decode cX7_learn 57 = .ok (.iload_n 1, 1) := by decide +kernel
theorem dX7_learn_58 : decode cX7_learn 58 = .ok (.iand, 1) := by decide +kernel
theorem dX7_learn_59 : decode cX7_learn 59 = .ok (.iastore, 1) := by decide +kernel
theorem dX7_learn_60 : decode cX7_learn 60 = .ok (.iinc 2 1, 3) := by decide +kernel
theorem dX7_learn_63 : decode cX7_learn 63 = .ok (.goto (-45), 3) := by decide +kernel
theorem dX7_learn_66 : decode cX7_learn 66 = .ok (.aload_n 0, 1) := by decide +kernel
theorem dX7_learn_67 : decode cX7_learn 67 = .ok (.getfield 79, 3) := by decide +kernel
theorem dX7_learn_70 : decode cX7_learn 70 = .ok (.ireturn, 1) := by decide +kernel
set_option maxRecDepth 20000 in
theorem ggX7_append_X7_within : GoodIn wsX7_append wsX7_within := goodIn_r _ [7] (by decide +kernel) (by decide +kernel)
set_option maxRecDepth 20000 in
theorem gX7_append_X7_within : GoodIn wsX7_append (va_wsS RX7 53 yX7_within wsX7_within) := goodIn_app (goodIn_of _ (by decide +kernel)) ggX7_append_X7_within
theorem dX7_append_0 : decode cX7_append 0 = .ok (.aload_n 0, 1) := by decide +kernel
theorem dX7_append_1 : decode cX7_append 1 = .ok (.iload_n 1, 1) := by decide +kernel
theorem dX7_append_2 : decode cX7_append 2 = .ok (.bipush 33, 2) := by decide +kernel
theorem dX7_append_4 : decode cX7_append 4 = .ok (.bipush 126, 2) := by decide +kernel
theorem dX7_append_6 : decode cX7_append 6 = .ok (.invokestatic 53, 3) := by decide +kernel
theorem dX7_append_9 : decode cX7_append 9 = .ok (.ifCond .ne 7, 3) := by decide +kernel
theorem dX7_append_12 : decode cX7_append 12 = .ok (.iconst 1, 1) := by decide +kernel
theorem dX7_append_13 : decode cX7_append 13 = .ok (.goto 17, 3) := by decide +kernel
theorem dX7_append_16 : decode cX7_append 16 = .ok (.aload_n 0, 1) := by decide +kernel
theorem dX7_append_17 : decode cX7_append 17 = .ok (.getfield 139, 3) := by decide +kernel
theorem dX7_append_20 : decode cX7_append 20 = .ok (.bipush 60, 2) := by decide +kernel
theorem dX7_append_22 : decode cX7_append 22 = .ok (.if_icmp .ne 7, 3) := by decide +kernel
theorem dX7_append_25 : decode cX7_append 25 = .ok (.iconst 2, 1) := by decide +kernel
theorem dX7_append_26 : decode cX7_append 26 = .ok (.goto 4, 3) := by decide +kernel
theorem dX7_append_29 : decode cX7_append 29 = .ok (.iconst 0, 1) := by decide +kernel
theorem dX7_append_30 : decode cX7_append 30 = .ok (.putfield 46, 3) := by decide +kernel
theorem dX7_append_33 : decode cX7_append 33 = .ok (.aload_n 0, 1) := by decide +kernel
theorem dX7_append_34 : decode cX7_append 34 = .ok (.getfield 46, 3) := by decide +kernel
theorem dX7_append_37 : decode cX7_append 37 = .ok (.ifCond .le 5, 3) := by decide +kernel
theorem dX7_append_40 : decode cX7_append 40 = .ok (.iconst 0, 1) := by decide +kernel
theorem dX7_append_41 : decode cX7_append 41 = .ok (.ireturn, 1) := by decide +kernel
theorem dX7_append_42 : decode cX7_append 42 = .ok (.aload_n 0, 1) := by decide +kernel
theorem dX7_append_43 : decode cX7_append 43 = .ok (.getfield 16, 3) := by decide +kernel
theorem dX7_append_46 : decode cX7_append 46 = .ok (.aload_n 0, 1) := by decide +kernel
theorem dX7_append_47 : decode cX7_append 47 = .ok (.getfield 139, 3) := by decide +kernel
theorem dX7_append_50 : decode cX7_append 50 = .ok (.iload_n 1, 1) := by decide +kernel
theorem dX7_append_51 : decode cX7_append 51 = .ok (.iastore, 1) := by decide +kernel
theorem dX7_append_52 : decode cX7_append 52 = .ok (.aload_n 0, 1) := by decide +kernel
theorem dX7_append_53 : decode cX7_append 53 = .ok (.dup, 1) := by decide +kernel
theorem dX7_append_54 : decode cX7_append 54 = .ok (.getfield 139, 3) := by decide +kernel
theorem dX7_append_57 : decode cX7_append 57 = .ok (.iconst 1, 1) := by decide +kernel
theorem dX7_append_58 : decode cX7_append 58 = .ok (.iadd, 1) := by decide +kernel
theorem dX7_append_59 : decode cX7_append 59 = .ok (.putfield 139, 3) := by decide +kernel
theorem dX7_append_62 : decode cX7_append 62 = .ok (.aload_n 0, 1) := by decide +kernel
theorem dX7_append_63 : decode cX7_append 63 = .ok (.getfield 139, 3) := by decide +kernel
theorem dX7_append_66 : decode cX7_append 66 = .ok (.ireturn, 1) := by decide +kernel
theorem dX7_clearBuffer_0 : decode cX7_clearBuffer 0 = .ok (.aload_n 0, 1) := by decide +kernel
theorem dX7_clearBuffer_1 : decode cX7_clearBuffer 1 = .ok (.iconst 0, 1) := by decide +kernel
theorem dX7_clearBuffer_2 : decode cX7_clearBuffer 2 = .ok (.putfield 46, 3) := by decide +kernel
theorem dX7_clearBuffer_5 : decode cX7_clearBuffer 5 = .ok (.aload_n 0, 1) := by decide +kernel
theorem dX7_clearBuffer_6 : decode cX7_clearBuffer 6 = .ok (.getfield 139, 3) := by decide +kernel
theorem dX7_clearBuffer_9 : decode cX7_clearBuffer 9 = .ok (.istore_n 1, 1) := by decide +kernel
theorem dX7_clearBuffer_10 : decode cX7_clearBuffer 10 = .ok (.aload_n 0, 1) := by decide +kernel
theorem dX7_clearBuffer_11 : decode cX7_clearBuffer 11 = .ok (.iconst 0, 1) := by decide +kernel
theorem dX7_clearBuffer_12 : decode cX7_clearBuffer 12 = .ok (.putfield 139, 3) := by decide +kernel
theorem dX7_clearBuffer_15 : decode cX7_clearBuffer 15 = .ok (.iload_n 1, 1) := by decide +kernel
theorem dX7_clearBuffer_16 : decode cX7_clearBuffer 16 = .ok (.ireturn, 1) := by decide +kernel
set_option maxRecDepth 20000 in
theorem ggX7_takesFigure_X7_within : GoodIn wsX7_takesFigure wsX7_within := goodIn_r _ [7] (by decide +kernel) (by decide +kernel)
set_option maxRecDepth 20000 in
theorem gX7_takesFigure_X7_within : GoodIn wsX7_takesFigure (va_wsS RX7 53 yX7_within wsX7_within) := goodIn_app (goodIn_of _ (by decide +kernel)) ggX7_takesFigure_X7_within
theorem dX7_takesFigure_0 : decode cX7_takesFigure 0 = .ok (.iconst 3, 1) := by decide +kernel
theorem dX7_takesFigure_1 : decode cX7_takesFigure 1 = .ok (.aload_n 0, 1) := by decide +kernel
theorem dX7_takesFigure_2 : decode cX7_takesFigure 2 = .ok (.getfield 142, 3) := by decide +kernel
theorem dX7_takesFigure_5 : decode cX7_takesFigure 5 = .ok (.imul, 1) := by decide +kernel
theorem dX7_takesFigure_6 : decode cX7_takesFigure 6 = .ok (.iload_n 2, 1) := by decide +kernel
theorem dX7_takesFigure_7 : decode cX7_takesFigure 7 = .ok (.iadd, 1) := by decide +kernel
theorem dX7_takesFigure_8 : decode cX7_takesFigure 8 = .ok (.istore 5, 2) := by decide +kernel
theorem dX7_takesFigure_10 : decode cX7_takesFigure 10 = .ok (.aload_n 0, 1) := by decide +kernel
theorem dX7_takesFigure_11 : decode cX7_takesFigure 11 = .ok (.getfield 145, 3) := by decide +kernel
theorem dX7_takesFigure_14 : decode cX7_takesFigure 14 = .ok (.ifCond .eq 19, 3) := by decide +kernel
theorem dX7_takesFigure_17 : decode cX7_takesFigure 17 = .ok (.aload_n 0, 1) := by decide +kernel
theorem dX7_takesFigure_18 : decode cX7_takesFigure 18 = .ok (.getfield 145, 3) := by decide +kernel
theorem dX7_takesFigure_21 : decode cX7_takesFigure 21 = .ok (.iconst 3, 1) := by decide +kernel
theorem dX7_takesFigure_22 : decode cX7_takesFigure 22 = .ok (.if_icmp .eq 11, 3) := by decide +kernel
theorem dX7_takesFigure_25 : decode cX7_takesFigure 25 = .ok (.aload_n 0, 1) := by decide +kernel
theorem dX7_takesFigure_26 : decode cX7_takesFigure 26 = .ok (.getfield 145, 3) := by decide +kernel
theorem dX7_takesFigure_29 : decode cX7_takesFigure 29 = .ok (.iconst 5, 1) := by decide +kernel
theorem dX7_takesFigure_30 : decode cX7_takesFigure 30 = .ok (.if_icmp .ne 7, 3) := by decide +kernel
theorem dX7_takesFigure_33 : decode cX7_takesFigure 33 = .ok (.iconst 1, 1) := by decide +kernel
theorem dX7_takesFigure_34 : decode cX7_takesFigure 34 = .ok (.goto 4, 3) := by decide +kernel
theorem dX7_takesFigure_37 : decode cX7_takesFigure 37 = .ok (.iconst 0, 1) := by decide +kernel
theorem dX7_takesFigure_38 : decode cX7_takesFigure 38 = .ok (.istore 6, 2) := by decide +kernel
theorem dX7_takesFigure_40 : decode cX7_takesFigure 40 = .ok (.iload 6, 2) := by decide +kernel
theorem dX7_takesFigure_42 : decode cX7_takesFigure 42 = .ok (.ifCond .eq 7, 3) := by decide +kernel
theorem dX7_takesFigure_45 : decode cX7_takesFigure 45 = .ok (.iconst 0, 1) := by decide +kernel
theorem dX7_takesFigure_46 : decode cX7_takesFigure 46 = .ok (.goto 13, 3) := by decide +kernel
theorem dX7_takesFigure_49 : decode cX7_takesFigure 49 = .ok (.bipush 10, 2) := by decide +kernel
theorem dX7_takesFigure_51 : decode cX7_takesFigure 51 = .ok (.aload_n 0, 1) := by decide +kernel
theorem dX7_takesFigure_52 : decode cX7_takesFigure 52 = .ok (.getfield 40, 3) := by decide +kernel
theorem dX7_takesFigure_55 : decode cX7_takesFigure 55 = .ok (.iload 5, 2) := by decide +kernel
theorem dX7_takesFigure_57 : decode cX7_takesFigure 57 = .ok (.iaload, 1) := by decide +kernel
theorem dX7_takesFigure_58 : decode cX7_takesFigure 58 = .ok (.imul, 1) := by decide +kernel
theorem dX7_takesFigure_59 : decode cX7_takesFigure 59 = .ok (.iload_n 1, 1) := by decide +kernel
theorem dX7_takesFigure_60 : decode cX7_takesFigure 60 = .ok (.iadd, 1) := by decide +kernel
theorem dX7_takesFigure_61 : decode cX7_takesFigure 61 = .ok (.bipush 48, 2) := by decide +kernel
theorem dX7_takesFigure_63 : decode cX7_takesFigure 63 = .ok (.isub, 1) := by decide +kernel
theorem dX7_takesFigure_64 : decode cX7_takesFigure 64 = .ok (.istore 7, 2) := by decide +kernel
theorem dX7_takesFigure_66 : decode cX7_takesFigure 66 = .ok (.iload_n 1, 1) := by decide +kernel
theorem dX7_takesFigure_67 : decode cX7_takesFigure 67 = .ok (.bipush 48, 2) := by decide +kernel
theorem dX7_takesFigure_69 : decode cX7_takesFigure 69 = .ok (.bipush 57, 2) := by decide +kernel
theorem dX7_takesFigure_71 : decode cX7_takesFigure 71 = .ok (.invokestatic 53, 3) := by decide +kernel
theorem dX7_takesFigure_74 : decode cX7_takesFigure 74 = .ok (.ifCond .eq 33, 3) := by decide +kernel
theorem dX7_takesFigure_77 : decode cX7_takesFigure 77 = .ok (.iload 7, 2) := by decide +kernel
theorem dX7_takesFigure_79 : decode cX7_takesFigure 79 = .ok (.iload_n 3, 1) := by decide +kernel
theorem dX7_takesFigure_80 : decode cX7_takesFigure 80 = .ok (.iload 4, 2) := by decide +kernel
theorem dX7_takesFigure_82 : decode cX7_takesFigure 82 = .ok (.invokestatic 53, 3) := by decide +kernel
theorem dX7_takesFigure_85 : decode cX7_takesFigure 85 = .ok (.ifCond .eq 22, 3) := by decide +kernel
theorem dX7_takesFigure_88 : decode cX7_takesFigure 88 = .ok (.iload 6, 2) := by decide +kernel
theorem dX7_takesFigure_90 : decode cX7_takesFigure 90 = .ok (.ifCond .ne 13, 3) := by decide +kernel
theorem dX7_takesFigure_93 : decode cX7_takesFigure 93 = .ok (.aload_n 0, 1) := by decide +kernel
theorem dX7_takesFigure_94 : decode cX7_takesFigure 94 = .ok (.getfield 40, 3) := by decide +kernel
theorem dX7_takesFigure_97 : decode cX7_takesFigure 97 = .ok (.iload 5, 2) := by decide +kernel
theorem dX7_takesFigure_99 : decode cX7_takesFigure 99 = .ok (.iaload, 1) := by decide +kernel
theorem dX7_takesFigure_100 : decode cX7_takesFigure 100 = .ok (.ifCond .le 7, 3) := by decide +kernel
theorem dX7_takesFigure_103 : decode cX7_takesFigure 103 = .ok (.iconst 1, 1) := by decide +kernel
theorem dX7_takesFigure_104 : decode cX7_takesFigure 104 = .ok (.goto 4, 3) := by decide +kernel
theorem dX7_takesFigure_107 : decode cX7_takesFigure 107 = .ok (.iconst 0, 1) := by decide +kernel
theorem dX7_takesFigure_108 : decode cX7_takesFigure 108 = .ok (.istore 8, 2) := by decide +kernel
theorem dX7_takesFigure_110 : decode cX7_takesFigure 110 = .ok (.aload_n 0, 1) := by decide +kernel
theorem dX7_takesFigure_111 : decode cX7_takesFigure 111 = .ok (.getfield 40, 3) := by decide +kernel
theorem dX7_takesFigure_114 : decode cX7_takesFigure 114 = .ok (.iload 5, 2) := by decide +kernel
theorem dX7_takesFigure_116 : decode cX7_takesFigure 116 = .ok (.iload 8, 2) := by decide +kernel
theorem dX7_takesFigure_118 : decode cX7_takesFigure 118 = .ok (.ifCond .eq 8, 3) := by decide +kernel
theorem dX7_takesFigure_121 : decode cX7_takesFigure 121 = .ok (.iload 7, 2) := by decide +kernel
theorem dX7_takesFigure_123 : decode cX7_takesFigure 123 = .ok (.goto 10, 3) := by decide +kernel
theorem dX7_takesFigure_126 : decode cX7_takesFigure 126 = .ok (.aload_n 0, 1) := by decide +kernel
theorem dX7_takesFigure_127 : decode cX7_takesFigure 127 = .ok (.getfield 40, 3) := by decide +kernel
theorem dX7_takesFigure_130 : decode cX7_takesFigure 130 = .ok (.iload 5, 2) := by decide +kernel
theorem dX7_takesFigure_132 : decode cX7_takesFigure 132 = .ok (.iaload, 1) := by decide +kernel
theorem dX7_takesFigure_133 : decode cX7_takesFigure 133 = .ok (.iastore, 1) := by decide +kernel
theorem dX7_takesFigure_134 : decode cX7_takesFigure 134 = .ok (.aload_n 0, 1) := by decide +kernel
theorem dX7_takesFigure_135 : decode cX7_takesFigure 135 = .ok (.dup, 1) := by decide +kernel
theorem dX7_takesFigure_136 : decode cX7_takesFigure 136 = .ok (.getfield 145, 3) := by decide +kernel
theorem dX7_takesFigure_139 : decode cX7_takesFigure 139 = .ok (.iload 8, 2) := by decide +kernel
theorem dX7_takesFigure_141 : decode cX7_takesFigure 141 = .ok (.ifCond .eq 12, 3) := by decide +kernel
theorem dX7_takesFigure_144 : decode cX7_takesFigure 144 = .ok (.iload 6, 2) := by decide +kernel
theorem dX7_takesFigure_146 : decode cX7_takesFigure 146 = .ok (.ifCond .eq 7, 3) := by decide +kernel
theorem dX7_takesFigure_149 : decode cX7_takesFigure 149 = .ok (.iconst 1, 1) := by decide +kernel
theorem dX7_takesFigure_150 : decode cX7_takesFigure 150 = .ok (.goto 4, 3) := by decide +kernel
theorem dX7_takesFigure_153 : decode cX7_takesFigure 153 = .ok (.iconst 0, 1) := by decide +kernel
theorem dX7_takesFigure_154 : decode cX7_takesFigure 154 = .ok (.iadd, 1) := by decide +kernel
theorem dX7_takesFigure_155 : decode cX7_takesFigure 155 = .ok (.putfield 145, 3) := by decide +kernel
theorem dX7_takesFigure_158 : decode cX7_takesFigure 158 = .ok (.iload 8, 2) := by decide +kernel
theorem dX7_takesFigure_160 : decode cX7_takesFigure 160 = .ok (.ireturn, 1) := by decide +kernel
theorem dX7_goesOn_0 : decode cX7_goesOn 0 = .ok (.aload_n 0, 1) := by decide +kernel
theorem dX7_goesOn_1 : decode cX7_goesOn 1 = .ok (.iload_n 1, 1) := by decide +kernel
theorem dX7_goesOn_2 : decode cX7_goesOn 2 = .ok (.ifCond .eq 7, 3) := by decide +kernel
theorem dX7_goesOn_5 : decode cX7_goesOn 5 = .ok (.iload_n 2, 1) := by decide +kernel
theorem dX7_goesOn_6 : decode cX7_goesOn 6 = .ok (.goto 7, 3) := by decide +kernel
theorem dX7_goesOn_9 : decode cX7_goesOn 9 = .ok (.aload_n 0, 1) := by decide +kernel
theorem dX7_goesOn_10 : decode cX7_goesOn 10 = .ok (.getfield 145, 3) := by decide +kernel
theorem dX7_goesOn_13 : decode cX7_goesOn 13 = .ok (.putfield 145, 3) := by decide +kernel
theorem dX7_goesOn_16 : decode cX7_goesOn 16 = .ok (.iload_n 1, 1) := by decide +kernel
theorem dX7_goesOn_17 : decode cX7_goesOn 17 = .ok (.ireturn, 1) := by decide +kernel
set_option maxRecDepth 20000 in
theorem ggX7_takes_X7_goesOn : GoodIn wsX7_takes wsX7_goesOn := goodIn_r _ [8, 1, 16, 17, 18, 19, 20, 21, 22, 23, 24, 25, 26, 27, 28, 29, 30, 31, 32, 33, 34] (by decide +kernel) (by decide +kernel)
set_option maxRecDepth 20000 in
theorem gX7_takes_X7_goesOn : GoodIn wsX7_takes (wsV RX7 148 RX7 yX7_goesOn wsX7_goesOn) := goodIn_app (goodIn_of _ (by decide +kernel)) ggX7_takes_X7_goesOn
set_option maxRecDepth 20000 in
theorem ggX7_takes_X7_takesFigure : GoodIn wsX7_takes wsX7_takesFigure := goodIn_r _ [12, 3, 1, 2, 13, 14, 7, 15, 16, 17, 18, 19, 20, 21, 22, 23, 24, 25, 26, 27, 28, 29, 30, 31, 32, 33, 34] (by decide +kernel) (by decide +kernel)
set_option maxRecDepth 20000 in
theorem gX7_takes_X7_takesFigure : GoodIn wsX7_takes (wsV RX7 152 RX7 yX7_takesFigure wsX7_takesFigure) := goodIn_app (goodIn_of _ (by decide +kernel)) ggX7_takes_X7_takesFigure
theorem dX7_takes_0 : decode cX7_takes 0 = .ok (.aload_n 0, 1) := by decide +kernel
theorem dX7_takes_1 : decode cX7_takes 1 = .ok (.getfield 145, 3) := by decide +kernel
theorem dX7_takes_4 : decode cX7_takes 4 = .ok (.tableswitch 162 0 5 #[40, 75, 100, 117, 127, 152], 40) := by decide +kernel
theorem dX7_takes_44 : decode cX7_takes 44 = .ok (.iload_n 1, 1) := by decide +kernel
theorem dX7_takes_45 : decode cX7_takes 45 = .ok (.bipush 112, 2) := by decide +kernel
theorem dX7_takes_47 : decode cX7_takes 47 = .ok (.if_icmp .ne 22, 3) := by decide +kernel
theorem dX7_takes_50 : decode cX7_takes 50 = .ok (.aload_n 0, 1) := by decide +kernel
theorem dX7_takes_51 : decode cX7_takes 51 = .ok (.getfield 40, 3) := by decide +kernel
theorem dX7_takes_54 : decode cX7_takes 54 = .ok (.iconst 3, 1) := by decide +kernel
theorem dX7_takes_55 : decode cX7_takes 55 = .ok (.aload_n 0, 1) := by decide +kernel
theorem dX7_takes_56 : decode cX7_takes 56 = .ok (.getfield 142, 3) := by decide +kernel
theorem dX7_takes_59 : decode cX7_takes 59 = .ok (.imul, 1) := by decide +kernel
theorem dX7_takes_60 : decode cX7_takes 60 = .ok (.iconst (-1), 1) := by decide +kernel
theorem dX7_takes_61 : decode cX7_takes 61 = .ok (.iastore, 1) := by decide +kernel
theorem dX7_takes_62 : decode cX7_takes 62 = .ok (.aload_n 0, 1) := by decide +kernel
theorem dX7_takes_63 : decode cX7_takes 63 = .ok (.iconst 1, 1) := by decide +kernel
theorem dX7_takes_64 : decode cX7_takes 64 = .ok (.iconst 2, 1) := by decide +kernel
theorem dX7_takes_65 : decode cX7_takes 65 = .ok (.invokevirtual 148, 3) := by decide +kernel
theorem dX7_takes_68 : decode cX7_takes 68 = .ok (.ireturn, 1) := by decide +kernel
theorem dX7_takes_69 : decode cX7_takes 69 = .ok (.aload_n 0, 1) := by decide +kernel
theorem dX7_takes_70 : decode cX7_takes 70 = .ok (.iload_n 1, 1) := by decide +kernel
theorem dX7_takes_71 : decode cX7_takes 71 = .ok (.iconst 0, 1) := by decide +kernel
theorem dX7_takes_72 : decode cX7_takes 72 = .ok (.iconst 0, 1) := by decide +kernel
theorem dX7_takes_73 : decode cX7_takes 73 = .ok (.bipush 19, 2) := by decide +kernel
theorem dX7_takes_75 : decode cX7_takes 75 = .ok (.invokevirtual 152, 3) := by decide +kernel
theorem dX7_takes_78 : decode cX7_takes 78 = .ok (.ireturn, 1) := by decide +kernel
theorem dX7_takes_79 : decode cX7_takes 79 = .ok (.iload_n 1, 1) := by decide +kernel
theorem dX7_takes_80 : decode cX7_takes 80 = .ok (.bipush 64, 2) := by decide +kernel
theorem dX7_takes_82 : decode cX7_takes 82 = .ok (.if_icmp .ne 12, 3) := by decide +kernel
theorem dX7_takes_85 : decode cX7_takes 85 = .ok (.aload_n 0, 1) := by decide +kernel
theorem dX7_takes_86 : decode cX7_takes 86 = .ok (.iconst 1, 1) := by decide +kernel
theorem dX7_takes_87 : decode cX7_takes 87 = .ok (.iconst 3, 1) := by decide +kernel
theorem dX7_takes_88 : decode cX7_takes 88 = .ok (.invokevirtual 148, 3) := by decide +kernel
theorem dX7_takes_91 : decode cX7_takes 91 = .ok (.goto 12, 3) := by decide +kernel
theorem dX7_takes_94 : decode cX7_takes 94 = .ok (.aload_n 0, 1) := by decide +kernel
theorem dX7_takes_95 : decode cX7_takes 95 = .ok (.iload_n 1, 1) := by decide +kernel
theorem dX7_takes_96 : decode cX7_takes 96 = .ok (.iconst 0, 1) := by decide +kernel
theorem dX7_takes_97 : decode cX7_takes 97 = .ok (.iconst 0, 1) := by decide +kernel
theorem dX7_takes_98 : decode cX7_takes 98 = .ok (.bipush 19, 2) := by decide +kernel
theorem dX7_takes_100 : decode cX7_takes 100 = .ok (.invokevirtual 152, 3) := by decide +kernel
theorem dX7_takes_103 : decode cX7_takes 103 = .ok (.ireturn, 1) := by decide +kernel
theorem dX7_takes_104 : decode cX7_takes 104 = .ok (.aload_n 0, 1) := by decide +kernel
theorem dX7_takes_105 : decode cX7_takes 105 = .ok (.iload_n 1, 1) := by decide +kernel
theorem dX7_takes_106 : decode cX7_takes 106 = .ok (.bipush 64, 2) := by decide +kernel
theorem dX7_takes_108 : decode cX7_takes 108 = .ok (.if_icmp .ne 7, 3) := by decide +kernel
theorem dX7_takes_111 : decode cX7_takes 111 = .ok (.iconst 1, 1) := by decide +kernel
theorem dX7_takes_112 : decode cX7_takes 112 = .ok (.goto 4, 3) := by decide +kernel
theorem dX7_takes_115 : decode cX7_takes 115 = .ok (.iconst 0, 1) := by decide +kernel
theorem dX7_takes_116 : decode cX7_takes 116 = .ok (.iconst 3, 1) := by decide +kernel
theorem dX7_takes_117 : decode cX7_takes 117 = .ok (.invokevirtual 148, 3) := by decide +kernel
theorem dX7_takes_120 : decode cX7_takes 120 = .ok (.ireturn, 1) := by decide +kernel
theorem dX7_takes_121 : decode cX7_takes 121 = .ok (.aload_n 0, 1) := by decide +kernel
theorem dX7_takes_122 : decode cX7_takes 122 = .ok (.iload_n 1, 1) := by decide +kernel
theorem dX7_takes_123 : decode cX7_takes 123 = .ok (.iconst 1, 1) := by decide +kernel
theorem dX7_takes_124 : decode cX7_takes 124 = .ok (.iconst 0, 1) := by decide +kernel
theorem dX7_takes_125 : decode cX7_takes 125 = .ok (.bipush 95, 2) := by decide +kernel
theorem dX7_takes_127 : decode cX7_takes 127 = .ok (.invokevirtual 152, 3) := by decide +kernel
theorem dX7_takes_130 : decode cX7_takes 130 = .ok (.ireturn, 1) := by decide +kernel
theorem dX7_takes_131 : decode cX7_takes 131 = .ok (.iload_n 1, 1) := by decide +kernel
theorem dX7_takes_132 : decode cX7_takes 132 = .ok (.bipush 58, 2) := by decide +kernel
theorem dX7_takes_134 : decode cX7_takes 134 = .ok (.if_icmp .ne 12, 3) := by decide +kernel
theorem dX7_takes_137 : decode cX7_takes 137 = .ok (.aload_n 0, 1) := by decide +kernel
theorem dX7_takes_138 : decode cX7_takes 138 = .ok (.iconst 1, 1) := by decide +kernel
theorem dX7_takes_139 : decode cX7_takes 139 = .ok (.iconst 5, 1) := by decide +kernel
theorem dX7_takes_140 : decode cX7_takes 140 = .ok (.invokevirtual 148, 3) := by decide +kernel
theorem dX7_takes_143 : decode cX7_takes 143 = .ok (.goto 12, 3) := by decide +kernel
theorem dX7_takes_146 : decode cX7_takes 146 = .ok (.aload_n 0, 1) := by decide +kernel
theorem dX7_takes_147 : decode cX7_takes 147 = .ok (.iload_n 1, 1) := by decide +kernel
theorem dX7_takes_148 : decode cX7_takes 148 = .ok (.iconst 1, 1) := by decide +kernel
theorem dX7_takes_149 : decode cX7_takes 149 = .ok (.iconst 0, 1) := by decide +kernel
theorem dX7_takes_150 : decode cX7_takes 150 = .ok (.bipush 95, 2) := by decide +kernel
theorem dX7_takes_152 : decode cX7_takes 152 = .ok (.invokevirtual 152, 3) := by decide +kernel
theorem dX7_takes_155 : decode cX7_takes 155 = .ok (.ireturn, 1) := by decide +kernel
theorem dX7_takes_156 : decode cX7_takes 156 = .ok (.aload_n 0, 1) := by decide +kernel
theorem dX7_takes_157 : decode cX7_takes 157 = .ok (.iload_n 1, 1) := by decide +kernel
theorem dX7_takes_158 : decode cX7_takes 158 = .ok (.iconst 2, 1) := by decide +kernel
theorem dX7_takes_159 : decode cX7_takes 159 = .ok (.iconst 1, 1) := by decide +kernel
theorem dX7_takes_160 : decode cX7_takes 160 = .ok (.bipush 96, 2) := by decide +kernel
theorem dX7_takes_162 : decode cX7_takes 162 = .ok (.invokevirtual 152, 3) := by decide +kernel
theorem dX7_takes_165 : decode cX7_takes 165 = .ok (.ireturn, 1) := by decide +kernel
theorem dX7_takes_166 : decode cX7_takes 166 = .ok (.iload_n 1, 1) := by decide +kernel
theorem dX7_takes_167 : decode cX7_takes 167 = .ok (.bipush 44, 2) := by decide +kernel
theorem dX7_takes_169 : decode cX7_takes 169 = .ok (.if_icmp .ne 20, 3) := by decide +kernel
theorem dX7_takes_172 : decode cX7_takes 172 = .ok (.aload_n 0, 1) := by decide +kernel
theorem dX7_takes_173 : decode cX7_takes 173 = .ok (.dup, 1) := by decide +kernel
theorem dX7_takes_174 : decode cX7_takes 174 = .ok (.getfield 142, 3) := by decide +kernel
theorem dX7_takes_177 : decode cX7_takes 177 = .ok (.iconst 1, 1) := by decide +kernel
theorem dX7_takes_178 : decode cX7_takes 178 = .ok (.iadd, 1) := by decide +kernel
theorem dX7_takes_179 : decode cX7_takes 179 = .ok (.putfield 142, 3) := by decide +kernel
theorem dX7_takes_182 : decode cX7_takes 182 = .ok (.aload_n 0, 1) := by decide +kernel
theorem dX7_takes_183 : decode cX7_takes 183 = .ok (.iconst 1, 1) := by decide +kernel
theorem dX7_takes_184 : decode cX7_takes 184 = .ok (.iconst 0, 1) := by decide +kernel
theorem dX7_takes_185 : decode cX7_takes 185 = .ok (.invokevirtual 148, 3) := by decide +kernel
theorem dX7_takes_188 : decode cX7_takes 188 = .ok (.ireturn, 1) := by decide +kernel
theorem dX7_takes_189 : decode cX7_takes 189 = .ok (.aload_n 0, 1) := by decide +kernel
theorem dX7_takes_190 : decode cX7_takes 190 = .ok (.iload_n 1, 1) := by decide +kernel
theorem dX7_takes_191 : decode cX7_takes 191 = .ok (.iconst 2, 1) := by decide +kernel
theorem dX7_takes_192 : decode cX7_takes 192 = .ok (.iconst 1, 1) := by decide +kernel
theorem dX7_takes_193 : decode cX7_takes 193 = .ok (.bipush 96, 2) := by decide +kernel
theorem dX7_takes_195 : decode cX7_takes 195 = .ok (.invokevirtual 152, 3) := by decide +kernel
theorem dX7_takes_198 : decode cX7_takes 198 = .ok (.ireturn, 1) := by decide +kernel
set_option maxRecDepth 20000 in
theorem ggX7_rightUpTo_X7_takes : GoodIn wsX7_rightUpTo wsX7_takes := goodIn_r _ [9, 2, 10, 1, 11, 12, 13, 8, 14, 15, 16, 17, 18, 19, 20, 21, 22, 23, 24, 25, 26, 27, 28, 29, 30, 31, 32, 33, 34, 35, 36, 37, 38, 39, 40] (by decide +kernel) (by decide +kernel)
set_option maxRecDepth 20000 in
theorem gX7_rightUpTo_X7_takes : GoodIn wsX7_rightUpTo (wsV RX7 156 RX7 yX7_takes wsX7_takes) := goodIn_app (goodIn_of _ (by decide +kernel)) ggX7_rightUpTo_X7_takes
theorem dX7_rightUpTo_0 : decode cX7_rightUpTo 0 = .ok (.aload_n 0, 1) := by decide +kernel
theorem dX7_rightUpTo_1 : decode cX7_rightUpTo 1 = .ok (.iconst 0, 1) := by decide +kernel
theorem dX7_rightUpTo_2 : decode cX7_rightUpTo 2 = .ok (.putfield 142, 3) := by decide +kernel
theorem dX7_rightUpTo_5 : decode cX7_rightUpTo 5 = .ok (.aload_n 0, 1) := by decide +kernel
theorem dX7_rightUpTo_6 : decode cX7_rightUpTo 6 = .ok (.iconst 0, 1) := by decide +kernel
theorem dX7_rightUpTo_7 : decode cX7_rightUpTo 7 = .ok (.putfield 145, 3) := by decide +kernel
theorem dX7_rightUpTo_10 : decode cX7_rightUpTo 10 = .ok (.iconst 0, 1) := by decide +kernel
theorem dX7_rightUpTo_11 : decode cX7_rightUpTo 11 = .ok (.istore_n 1, 1) := by decide +kernel
theorem dX7_rightUpTo_12 : decode cX7_rightUpTo 12 = .ok (.iload_n 1, 1) := by decide +kernel
theorem dX7_rightUpTo_13 : decode cX7_rightUpTo 13 = .ok (.aload_n 0, 1) := by decide +kernel
theorem dX7_rightUpTo_14 : decode cX7_rightUpTo 14 = .ok (.getfield 139, 3) := by decide +kernel
theorem dX7_rightUpTo_17 : decode cX7_rightUpTo 17 = .ok (.if_icmp .ge 22, 3) := by decide +kernel
theorem dX7_rightUpTo_20 : decode cX7_rightUpTo 20 = .ok (.aload_n 0, 1) := by decide +kernel
theorem dX7_rightUpTo_21 : decode cX7_rightUpTo 21 = .ok (.aload_n 0, 1) := by decide +kernel
theorem dX7_rightUpTo_22 : decode cX7_rightUpTo 22 = .ok (.getfield 16, 3) := by decide +kernel
theorem dX7_rightUpTo_25 : decode cX7_rightUpTo 25 = .ok (.iload_n 1, 1) := by decide +kernel
theorem dX7_rightUpTo_26 : decode cX7_rightUpTo 26 = .ok (.iaload, 1) := by decide +kernel
theorem dX7_rightUpTo_27 : decode cX7_rightUpTo 27 = .ok (.invokevirtual 156, 3) := by decide +kernel
theorem dX7_rightUpTo_30 : decode cX7_rightUpTo 30 = .ok (.ifCond .eq 9, 3) := by decide +kernel
theorem dX7_rightUpTo_33 : decode cX7_rightUpTo 33 = .ok (.iinc 1 1, 3) := by decide +kernel
theorem dX7_rightUpTo_36 : decode cX7_rightUpTo 36 = .ok (.goto (-24), 3) := by decide +kernel
theorem dX7_rightUpTo_39 : decode cX7_rightUpTo 39 = .ok (.iload_n 1, 1) := by decide +kernel
theorem dX7_rightUpTo_40 : decode cX7_rightUpTo 40 = .ok (.ireturn, 1) := by decide +kernel
set_option maxRecDepth 20000 in
theorem ggX7_firstError_X7_rightUpTo : GoodIn wsX7_firstError wsX7_rightUpTo := goodIn_r _ [6, 7, 8, 9, 10, 11, 12, 13, 5, 14, 15, 16, 17, 18, 19, 20, 21, 22, 23, 24, 25, 26, 27, 28, 29, 30, 31, 32, 33, 34, 35, 36, 37, 38, 39, 40, 41, 42, 43, 44, 45] (by decide +kernel) (by decide +kernel)
set_option maxRecDepth 20000 in
theorem gX7_firstError_X7_rightUpTo : GoodIn wsX7_firstError (wsV RX7 159 RX7 yX7_rightUpTo wsX7_rightUpTo) := goodIn_app (goodIn_of _ (by decide +kernel)) ggX7_firstError_X7_rightUpTo
theorem dX7_firstError_0 : decode cX7_firstError 0 = .ok (.aload_n 0, 1) := by decide +kernel
theorem dX7_firstError_1 : decode cX7_firstError 1 = .ok (.iconst 0, 1) := by decide +kernel
theorem dX7_firstError_2 : decode cX7_firstError 2 = .ok (.putfield 46, 3) := by decide +kernel
theorem dX7_firstError_5 : decode cX7_firstError 5 = .ok (.aload_n 0, 1) := by decide +kernel
theorem dX7_firstError_6 : decode cX7_firstError 6 = .ok (.invokevirtual 159, 3) := by decide +kernel
theorem dX7_firstError_9 : decode cX7_firstError 9 = .ok (.ireturn, 1) := by decide +kernel
theorem dX7_canPunchAll_0 : decode cX7_canPunchAll 0 = .ok (.iconst 1, 1) := by decide +kernel
theorem dX7_canPunchAll_1 : decode cX7_canPunchAll 1 = .ok (.istore_n 1, 1) := by decide +kernel
theorem dX7_canPunchAll_2 : decode cX7_canPunchAll 2 = .ok (.iconst 0, 1) := by decide +kernel
theorem dX7_canPunchAll_3 : decode cX7_canPunchAll 3 = .ok (.istore_n 2, 1) := by decide +kernel
theorem dX7_canPunchAll_4 : decode cX7_canPunchAll 4 = .ok (.iload_n 2, 1) := by decide +kernel
theorem dX7_canPunchAll_5 : decode cX7_canPunchAll 5 = .ok (.aload_n 0, 1) := by decide +kernel
theorem dX7_canPunchAll_6 : decode cX7_canPunchAll 6 = .ok (.getfield 142, 3) := by decide +kernel
theorem dX7_canPunchAll_9 : decode cX7_canPunchAll 9 = .ok (.if_icmp .gt 45, 3) := by decide +kernel
theorem dX7_canPunchAll_12 : decode cX7_canPunchAll 12 = .ok (.iload_n 1, 1) := by decide +kernel
theorem dX7_canPunchAll_13 : decode cX7_canPunchAll 13 = .ok (.ifCond .eq 33, 3) := by decide +kernel
theorem dX7_canPunchAll_16 : decode cX7_canPunchAll 16 = .ok (.aload_n 0, 1) := by decide +kernel
theorem dX7_canPunchAll_17 : decode cX7_canPunchAll 17 = .ok (.getfield 40, 3) := by decide +kernel
theorem dX7_canPunchAll_20 : decode cX7_canPunchAll 20 = .ok (.iconst 3, 1) := by decide +kernel
theorem dX7_canPunchAll_21 : decode cX7_canPunchAll 21 = .ok (.iload_n 2, 1) := by decide +kernel
theorem dX7_canPunchAll_22 : decode cX7_canPunchAll 22 = .ok (.imul, 1) := by decide +kernel
theorem dX7_canPunchAll_23 : decode cX7_canPunchAll 23 = .ok (.iconst 1, 1) := by decide +kernel
theorem dX7_canPunchAll_24 : decode cX7_canPunchAll 24 = .ok (.iadd, 1) := by decide +kernel
theorem dX7_canPunchAll_25 : decode cX7_canPunchAll 25 = .ok (.iaload, 1) := by decide +kernel
theorem dX7_canPunchAll_26 : decode cX7_canPunchAll 26 = .ok (.aload_n 0, 1) := by decide +kernel
theorem dX7_canPunchAll_27 : decode cX7_canPunchAll 27 = .ok (.getfield 40, 3) := by decide +kernel
theorem dX7_canPunchAll_30 : decode cX7_canPunchAll 30 = .ok (.iconst 3, 1) := by decide +kernel
theorem dX7_canPunchAll_31 : decode cX7_canPunchAll 31 = .ok (.iload_n 2, 1) := by decide +kernel
theorem dX7_canPunchAll_32 : decode cX7_canPunchAll 32 = .ok (.imul, 1) := by decide +kernel
theorem dX7_canPunchAll_33 : decode cX7_canPunchAll 33 = .ok (.iconst 2, 1) := by decide +kernel
theorem dX7_canPunchAll_34 : decode cX7_canPunchAll 34 = .ok (.iadd, 1) := by decide +kernel
theorem dX7_canPunchAll_35 : decode cX7_canPunchAll 35 = .ok (.iaload, 1) := by decide +kernel
theorem dX7_canPunchAll_36 : decode cX7_canPunchAll 36 = .ok (.iadd, 1) := by decide +kernel
theorem dX7_canPunchAll_37 : decode cX7_canPunchAll 37 = .ok (.bipush 96, 2) := by decide +kernel
theorem dX7_canPunchAll_39 : decode cX7_canPunchAll 39 = .ok (.if_icmp .gt 7, 3) := by decide +kernel
theorem dX7_canPunchAll_42 : decode cX7_canPunchAll 42 = .ok (.iconst 1, 1) := by decide +kernel
theorem dX7_canPunchAll_43 : decode cX7_canPunchAll 43 = .ok (.goto 4, 3) := by decide +kernel
theorem dX7_canPunchAll_46 : decode cX7_canPunchAll 46 = .ok (.iconst 0, 1) := by decide +kernel
theorem dX7_canPunchAll_47 : decode cX7_canPunchAll 47 = .ok (.istore_n 1, 1) := by decide +kernel
theorem dX7_canPunchAll_48 : decode cX7_canPunchAll 48 = .ok (.iinc 2 1, 3) := by decide +kernel
theorem dX7_canPunchAll_51 : decode cX7_canPunchAll 51 = .ok (.goto (-47), 3) := by decide +kernel
theorem dX7_canPunchAll_54 : decode cX7_canPunchAll 54 = .ok (.iload_n 1, 1) := by decide +kernel
theorem dX7_canPunchAll_55 : decode cX7_canPunchAll 55 = .ok (.ireturn, 1) := by decide +kernel
set_option maxRecDepth 20000 in
theorem ggX7_punchAll_X7_rightUpTo : GoodIn wsX7_punchAll wsX7_rightUpTo := goodIn_r _ [10, 4, 2, 1, 11, 12, 13, 14, 9, 15, 5, 16, 17, 18, 19, 20, 21, 22, 23, 24, 25, 26, 46, 47, 48, 49, 50, 51, 52, 53, 54, 55, 56, 57, 58, 59, 60, 61, 62, 63, 64] (by decide +kernel) (by decide +kernel)
set_option maxRecDepth 20000 in
theorem gX7_punchAll_X7_rightUpTo : GoodIn wsX7_punchAll (wsV RX7 159 RX7 yX7_rightUpTo wsX7_rightUpTo) := goodIn_app (goodIn_of _ (by decide +kernel)) ggX7_punchAll_X7_rightUpTo
set_option maxRecDepth 20000 in
theorem ggX7_punchAll_X7_canPunchAll : GoodIn wsX7_punchAll wsX7_canPunchAll := goodIn_r _ [30, 4, 5, 46, 47, 48, 49, 50, 51, 52, 53, 54, 55, 56, 57, 58, 59, 60, 61, 62, 63, 64] (by decide +kernel) (by decide +kernel)
set_option maxRecDepth 20000 in
theorem gX7_punchAll_X7_canPunchAll : GoodIn wsX7_punchAll (wsV RX7 162 RX7 yX7_canPunchAll wsX7_canPunchAll) := goodIn_app (goodIn_of _ (by decide +kernel)) ggX7_punchAll_X7_canPunchAll
set_option maxRecDepth 20000 in
theorem ggX7_punchAll_X7_save : GoodIn wsX7_punchAll wsX7_save := goodIn_r _ [34, 35, 36, 37, 46, 47, 48, 49, 50, 51, 52, 53, 54, 55, 56, 57, 58, 59, 60, 61, 62, 63, 64] (by decide +kernel) (by decide +kernel)
set_option maxRecDepth 20000 in
theorem gX7_punchAll_X7_save : GoodIn wsX7_punchAll (wsV RX7 109 RX7 yX7_save wsX7_save) := goodIn_app (goodIn_of _ (by decide +kernel)) ggX7_punchAll_X7_save
set_option maxRecDepth 20000 in
theorem ggX7_punchAll_X7_punchChain : GoodIn wsX7_punchAll wsX7_punchChain := goodIn_r _ [41, 37, 42, 43, 44, 9, 45, 46, 47, 48, 49, 50, 51, 52, 53, 54, 55, 56, 57, 58, 59, 60, 61, 62, 63, 64] (by decide +kernel) (by decide +kernel)
set_option maxRecDepth 20000 in
theorem gX7_punchAll_X7_punchChain : GoodIn wsX7_punchAll (wsV RX7 112 RX7 yX7_punchChain wsX7_punchChain) := goodIn_app (goodIn_of _ (by decide +kernel)) ggX7_punchAll_X7_punchChain
theorem dX7_punchAll_0 : decode cX7_punchAll 0 = .ok (.aload_n 0, 1) := by decide +kernel
theorem dX7_punchAll_1 : decode cX7_punchAll 1 = .ok (.invokevirtual 159, 3) := by decide +kernel
theorem dX7_punchAll_4 : decode cX7_punchAll 4 = .ok (.aload_n 0, 1) := by decide +kernel
theorem dX7_punchAll_5 : decode cX7_punchAll 5 = .ok (.getfield 139, 3) := by decide +kernel
theorem dX7_punchAll_8 : decode cX7_punchAll 8 = .ok (.if_icmp .ne 16, 3) := by decide +kernel
theorem dX7_punchAll_11 : decode cX7_punchAll 11 = .ok (.aload_n 0, 1) := by decide +kernel
theorem dX7_punchAll_12 : decode cX7_punchAll 12 = .ok (.getfield 145, 3) := by decide +kernel
theorem dX7_punchAll_15 : decode cX7_punchAll 15 = .ok (.bipush 6, 2) := by decide +kernel
theorem dX7_punchAll_17 : decode cX7_punchAll 17 = .ok (.if_icmp .ne 7, 3) := by decide +kernel
theorem dX7_punchAll_20 : decode cX7_punchAll 20 = .ok (.iconst 1, 1) := by decide +kernel
theorem dX7_punchAll_21 : decode cX7_punchAll 21 = .ok (.goto 4, 3) := by decide +kernel
theorem dX7_punchAll_24 : decode cX7_punchAll 24 = .ok (.iconst 0, 1) := by decide +kernel
theorem dX7_punchAll_25 : decode cX7_punchAll 25 = .ok (.istore_n 1, 1) := by decide +kernel
theorem dX7_punchAll_26 : decode cX7_punchAll 26 = .ok (.aload_n 0, 1) := by decide +kernel
theorem dX7_punchAll_27 : decode cX7_punchAll 27 = .ok (.iload_n 1, 1) := by decide +kernel
theorem dX7_punchAll_28 : decode cX7_punchAll 28 = .ok (.ifCond .ne 7, 3) := by decide +kernel
theorem dX7_punchAll_31 : decode cX7_punchAll 31 = .ok (.iconst 1, 1) := by decide +kernel
theorem dX7_punchAll_32 : decode cX7_punchAll 32 = .ok (.goto 15, 3) := by decide +kernel
theorem dX7_punchAll_35 : decode cX7_punchAll 35 = .ok (.aload_n 0, 1) := by decide +kernel
theorem dX7_punchAll_36 : decode cX7_punchAll 36 = .ok (.invokevirtual 162, 3) := by decide +kernel
theorem dX7_punchAll_39 : decode cX7_punchAll 39 = .ok (.ifCond .eq 7, 3) := by decide +kernel
theorem dX7_punchAll_42 : decode cX7_punchAll 42 = .ok (.iconst 0, 1) := by decide +kernel
theorem dX7_punchAll_43 : decode cX7_punchAll 43 = .ok (.goto 4, 3) := by decide +kernel
theorem dX7_punchAll_46 : decode cX7_punchAll 46 = .ok (.iconst 2, 1) := by decide +kernel
theorem dX7_punchAll_47 : decode cX7_punchAll 47 = .ok (.putfield 46, 3) := by decide +kernel
theorem dX7_punchAll_50 : decode cX7_punchAll 50 = .ok (.aload_n 0, 1) := by decide +kernel
theorem dX7_punchAll_51 : decode cX7_punchAll 51 = .ok (.getfield 46, 3) := by decide +kernel
theorem dX7_punchAll_54 : decode cX7_punchAll 54 = .ok (.ifCond .le 5, 3) := by decide +kernel
theorem dX7_punchAll_57 : decode cX7_punchAll 57 = .ok (.iconst 0, 1) := by decide +kernel
theorem dX7_punchAll_58 : decode cX7_punchAll 58 = .ok (.ireturn, 1) := by decide +kernel
theorem dX7_punchAll_59 : decode cX7_punchAll 59 = .ok (.aload_n 0, 1) := by decide +kernel
theorem dX7_punchAll_60 : decode cX7_punchAll 60 = .ok (.invokevirtual 109, 3) := by decide +kernel
theorem dX7_punchAll_63 : decode cX7_punchAll 63 = .ok (.aload_n 0, 1) := by decide +kernel
theorem dX7_punchAll_64 : decode cX7_punchAll 64 = .ok (.iconst 0, 1) := by decide +kernel
theorem dX7_punchAll_65 : decode cX7_punchAll 65 = .ok (.putfield 139, 3) := by decide +kernel
theorem dX7_punchAll_68 : decode cX7_punchAll 68 = .ok (.iconst 0, 1) := by decide +kernel
theorem dX7_punchAll_69 : decode cX7_punchAll 69 = .ok (.istore_n 2, 1) := by decide +kernel
theorem dX7_punchAll_70 : decode cX7_punchAll 70 = .ok (.iconst 0, 1) := by decide +kernel
theorem dX7_punchAll_71 : decode cX7_punchAll 71 = .ok (.istore_n 3, 1) := by decide +kernel
theorem dX7_punchAll_72 : decode cX7_punchAll 72 = .ok (.iload_n 3, 1) := by decide +kernel
theorem dX7_punchAll_73 : decode cX7_punchAll 73 = .ok (.aload_n 0, 1) := by decide +kernel
theorem dX7_punchAll_74 : decode cX7_punchAll 74 = .ok (.getfield 142, 3) := by decide +kernel
theorem dX7_punchAll_77 : decode cX7_punchAll 77 = .ok (.if_icmp .gt 44, 3) := by decide +kernel
theorem dX7_punchAll_80 : decode cX7_punchAll 80 = .ok (.iload_n 2, 1) := by decide +kernel
theorem dX7_punchAll_81 : decode cX7_punchAll 81 = .ok (.aload_n 0, 1) := by decide +kernel
theorem dX7_punchAll_82 : decode cX7_punchAll 82 = .ok (.aload_n 0, 1) := by decide +kernel
theorem dX7_punchAll_83 : decode cX7_punchAll 83 = .ok (.getfield 40, 3) := by decide +kernel
theorem dX7_punchAll_86 : decode cX7_punchAll 86 = .ok (.iconst 3, 1) := by decide +kernel
theorem dX7_punchAll_87 : decode cX7_punchAll 87 = .ok (.iload_n 3, 1) := by decide +kernel
theorem dX7_punchAll_88 : decode cX7_punchAll 88 = .ok (.imul, 1) := by decide +kernel
theorem dX7_punchAll_89 : decode cX7_punchAll 89 = .ok (.iaload, 1) := by decide +kernel
theorem dX7_punchAll_90 : decode cX7_punchAll 90 = .ok (.aload_n 0, 1) := by decide +kernel
theorem dX7_punchAll_91 : decode cX7_punchAll 91 = .ok (.getfield 40, 3) := by decide +kernel
theorem dX7_punchAll_94 : decode cX7_punchAll 94 = .ok (.iconst 3, 1) := by decide +kernel
theorem dX7_punchAll_95 : decode cX7_punchAll 95 = .ok (.iload_n 3, 1) := by decide +kernel
theorem dX7_punchAll_96 : decode cX7_punchAll 96 = .ok (.imul, 1) := by decide +kernel
theorem dX7_punchAll_97 : decode cX7_punchAll 97 = .ok (.iconst 1, 1) := by decide +kernel
theorem dX7_punchAll_98 : decode cX7_punchAll 98 = .ok (.iadd, 1) := by decide +kernel
theorem dX7_punchAll_99 : decode cX7_punchAll 99 = .ok (.iaload, 1) := by decide +kernel
theorem dX7_punchAll_100 : decode cX7_punchAll 100 = .ok (.aload_n 0, 1) := by decide +kernel
theorem dX7_punchAll_101 : decode cX7_punchAll 101 = .ok (.getfield 40, 3) := by decide +kernel
theorem dX7_punchAll_104 : decode cX7_punchAll 104 = .ok (.iconst 3, 1) := by decide +kernel
theorem dX7_punchAll_105 : decode cX7_punchAll 105 = .ok (.iload_n 3, 1) := by decide +kernel
theorem dX7_punchAll_106 : decode cX7_punchAll 106 = .ok (.imul, 1) := by decide +kernel
theorem dX7_punchAll_107 : decode cX7_punchAll 107 = .ok (.iconst 2, 1) := by decide +kernel
theorem dX7_punchAll_108 : decode cX7_punchAll 108 = .ok (.iadd, 1) := by decide +kernel
theorem dX7_punchAll_109 : decode cX7_punchAll 109 = .ok (.iaload, 1) := by decide +kernel
theorem dX7_punchAll_110 : decode cX7_punchAll 110 = .ok (.invokevirtual 112, 3) := by decide +kernel
theorem dX7_punchAll_113 : decode cX7_punchAll 113 = .ok (.iadd, 1) := by decide +kernel
theorem dX7_punchAll_114 : decode cX7_punchAll 114 = .ok (.istore_n 2, 1) := by decide +kernel
theorem dX7_punchAll_115 : decode cX7_punchAll 115 = .ok (.iinc 3 1, 3) := by decide +kernel

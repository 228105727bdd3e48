theorem dX0_init_0 : decode cX0_init 0 = .ok (.aload_n 0, 1) := by decide +kernel
theorem dX0_init_1 : decode cX0_init 1 = .ok (.invokespecial 3, 3) := by decide +kernel
theorem dX0_init_4 : decode cX0_init 4 = .ok (.aload_n 0, 1) := by decide +kernel
theorem dX0_init_5 : decode cX0_init 5 = .ok (.bipush 96, 2) := by decide +kernel
theorem dX0_init_7 : decode cX0_init 7 = .ok (.newarray .int, 2) := by decide +kernel
theorem dX0_init_9 : decode cX0_init 9 = .ok (.putfield 9, 3) := by decide +kernel
theorem dX0_init_12 : decode cX0_init 12 = .ok (.aload_n 0, 1) := by decide +kernel
theorem dX0_init_13 : decode cX0_init 13 = .ok (.bipush 96, 2) := by decide +kernel
theorem dX0_init_15 : decode cX0_init 15 = .ok (.newarray .int, 2) := by decide +kernel
theorem dX0_init_17 : decode cX0_init 17 = .ok (.putfield 15, 3) := by decide +kernel
theorem dX0_init_20 : decode cX0_init 20 = .ok (.return_, 1) := by decide +kernel
theorem dX0_link_0 : decode cX0_link 0 = .ok (.iconst 0, 1) := by decide +kernel
theorem dX0_link_1 : decode cX0_link 1 = .ok (.istore_n 3, 1) := by decide +kernel
theorem dX0_link_2 : decode cX0_link 2 = .ok (.iload_n 3, 1) := by decide +kernel
theorem dX0_link_3 : decode cX0_link 3 = .ok (.bipush 96, 2) := by decide +kernel
theorem dX0_link_5 : decode cX0_link 5 = .ok (.if_icmp .ge 117, 3) := by decide +kernel
theorem dX0_link_8 : decode cX0_link 8 = .ok (.iload_n 3, 1) := by decide +kernel
theorem dX0_link_9 : decode cX0_link 9 = .ok (.aload_n 1, 1) := by decide +kernel
theorem dX0_link_10 : decode cX0_link 10 = .ok (.arraylength, 1) := by decide +kernel
theorem dX0_link_11 : decode cX0_link 11 = .ok (.if_icmp .ge 111, 3) := by decide +kernel
theorem dX0_link_14 : decode cX0_link 14 = .ok (.iconst 0, 1) := by decide +kernel
theorem dX0_link_15 : decode cX0_link 15 = .ok (.istore 4, 2) := by decide +kernel
theorem dX0_link_17 : decode cX0_link 17 = .ok (.iconst 0, 1) := by decide +kernel
theorem dX0_link_18 : decode cX0_link 18 = .ok (.istore 5, 2) := by decide +kernel
theorem dX0_link_20 : decode cX0_link 20 = .ok (.iconst 1, 1) := by decide +kernel
theorem dX0_link_21 : decode cX0_link 21 = .ok (.istore 6, 2) := by decide +kernel
theorem dX0_link_23 : decode cX0_link 23 = .ok (.iload 6, 2) := by decide +kernel
theorem dX0_link_25 : decode cX0_link 25 = .ok (.iload_n 2, 1) := by decide +kernel
theorem dX0_link_26 : decode cX0_link 26 = .ok (.iconst 1, 1) := by decide +kernel
theorem dX0_link_27 : decode cX0_link 27 = .ok (.iadd, 1) := by decide +kernel
theorem dX0_link_28 : decode cX0_link 28 = .ok (.if_icmp .gt 60, 3) := by decide +kernel
theorem dX0_link_31 : decode cX0_link 31 = .ok (.aload_n 1, 1) := by decide +kernel
theorem dX0_link_32 : decode cX0_link 32 = .ok (.iload_n 3, 1) := by decide +kernel
theorem dX0_link_33 : decode cX0_link 33 = .ok (.iaload, 1) := by decide +kernel
theorem dX0_link_34 : decode cX0_link 34 = .ok (.ifCond .eq 54, 3) := by decide +kernel
theorem dX0_link_37 : decode cX0_link 37 = .ok (.iload 4, 2) := by decide +kernel
theorem dX0_link_39 : decode cX0_link 39 = .ok (.iload_n 3, 1) := by decide +kernel
theorem dX0_link_40 : decode cX0_link 40 = .ok (.iload 6, 2) := by decide +kernel
theorem dX0_link_42 : decode cX0_link 42 = .ok (.if_icmp .lt 12, 3) := by decide +kernel
theorem dX0_link_45 : decode cX0_link 45 = .ok (.aload_n 1, 1) := by decide +kernel
theorem dX0_link_46 : decode cX0_link 46 = .ok (.iload_n 3, 1) := by decide +kernel
theorem dX0_link_47 : decode cX0_link 47 = .ok (.iload 6, 2) := by decide +kernel
theorem dX0_link_49 : decode cX0_link 49 = .ok (.isub, 1) := by decide +kernel
theorem dX0_link_50 : decode cX0_link 50 = .ok (.iaload, 1) := by decide +kernel
theorem dX0_link_51 : decode cX0_link 51 = .ok (.goto 4, 3) := by decide +kernel
theorem dX0_link_54 : decode cX0_link 54 = .ok (.iconst 0, 1) := by decide +kernel
theorem dX0_link_55 : decode cX0_link 55 = .ok (.ior, 1) := by decide +kernel
theorem dX0_link_56 : decode cX0_link 56 = .ok (.istore 4, 2) := by decide +kernel
theorem dX0_link_58 : decode cX0_link 58 = .ok (.iload 5, 2) := by decide +kernel
theorem dX0_link_60 : decode cX0_link 60 = .ok (.iload_n 3, 1) := by decide +kernel
theorem dX0_link_61 : decode cX0_link 61 = .ok (.iload 6, 2) := by decide +kernel
theorem dX0_link_63 : decode cX0_link 63 = .ok (.iadd, 1) := by decide +kernel
theorem dX0_link_64 : decode cX0_link 64 = .ok (.aload_n 1, 1) := by decide +kernel
theorem dX0_link_65 : decode cX0_link 65 = .ok (.arraylength, 1) := by decide +kernel
theorem dX0_link_66 : decode cX0_link 66 = .ok (.if_icmp .ge 12, 3) := by decide +kernel
theorem dX0_link_69 : decode cX0_link 69 = .ok (.aload_n 1, 1) := by decide +kernel
theorem dX0_link_70 : decode cX0_link 70 = .ok (.iload_n 3, 1) := by decide +kernel
theorem dX0_link_71 : decode cX0_link 71 = .ok (.iload 6, 2) := by decide +kernel
theorem dX0_link_73 : decode cX0_link 73 = .ok (.iadd, 1) := by decide +kernel
theorem dX0_link_74 : decode cX0_link 74 = .ok (.iaload, 1) := by decide +kernel
theorem dX0_link_75 : decode cX0_link 75 = .ok (.goto 4, 3) := by decide +kernel
theorem dX0_link_78 : decode cX0_link 78 = .ok (.iconst 0, 1) := by decide +kernel
theorem dX0_link_79 : decode cX0_link 79 = .ok (.ior, 1) := by decide +kernel
theorem dX0_link_80 : decode cX0_link 80 = .ok (.istore 5, 2) := by decide +kernel
theorem dX0_link_82 : decode cX0_link 82 = .ok (.iinc 6 1, 3) := by decide +kernel
theorem dX0_link_85 : decode cX0_link 85 = .ok (.goto (-62), 3) := by decide +kernel
theorem dX0_link_88 : decode cX0_link 88 = .ok (.aload_n 0, 1) := by decide +kernel
theorem dX0_link_89 : decode cX0_link 89 = .ok (.getfield 9, 3) := by decide +kernel
theorem dX0_link_92 : decode cX0_link 92 = .ok (.iload_n 3, 1) := by decide +kernel
theorem dX0_link_93 : decode cX0_link 93 = .ok (.aload_n 1, 1) := by decide +kernel
theorem dX0_link_94 : decode cX0_link 94 = .ok (.iload_n 3, 1) := by decide +kernel
theorem dX0_link_95 : decode cX0_link 95 = .ok (.iaload, 1) := by decide +kernel
theorem dX0_link_96 : decode cX0_link 96 = .ok (.iload 4, 2) := by decide +kernel
theorem dX0_link_98 : decode cX0_link 98 = .ok (.iconst (-1), 1) := by decide +kernel
theorem dX0_link_99 : decode cX0_link 99 = .ok (.ixor, 1) := by decide +kernel
theorem dX0_link_100 : decode cX0_link 100 = .ok (.iand, 1) := by decide +kernel
theorem dX0_link_101 : decode cX0_link 101 = .ok (.iastore, 1) := by decide +kernel
theorem dX0_link_102 : decode cX0_link 102 = .ok (.aload_n 0, 1) := by decide +kernel
theorem dX0_link_103 : decode cX0_link 103 = .ok (.getfield 15, 3) := by decide +kernel
theorem dX0_link_106 : decode cX0_link 106 = .ok (.iload_n 3, 1) := by decide +kernel
theorem dX0_link_107 : decode cX0_link 107 = .ok (.aload_n 1, 1) := by decide +kernel
theorem dX0_link_108 : decode cX0_link 108 = .ok (.iload_n 3, 1) := by decide +kernel
theorem dX0_link_109 : decode cX0_link 109 = .ok (.iaload, 1) := by decide +kernel
theorem dX0_link_110 : decode cX0_link 110 = .ok (.iload 5, 2) := by decide +kernel
theorem dX0_link_112 : decode cX0_link 112 = .ok (.iconst (-1), 1) := by decide +kernel
theorem dX0_link_113 : decode cX0_link 113 = .ok (.ixor, 1) := by decide +kernel
theorem dX0_link_114 : decode cX0_link 114 = .ok (.iand, 1) := by decide +kernel
theorem dX0_link_115 : decode cX0_link 115 = .ok (.iastore, 1) := by decide +kernel
theorem dX0_link_116 : decode cX0_link 116 = .ok (.iinc 3 1, 3) := by decide +kernel
theorem dX0_link_119 : decode cX0_link 119 = .ok (.goto (-117), 3) := by decide +kernel
theorem dX0_link_122 : decode cX0_link 122 = .ok (.return_, 1) := by decide +kernel
theorem dX0_copyNotes_0 : decode cX0_copyNotes 0 = .ok (.iconst 0, 1) := by decide +kernel
theorem dX0_copyNotes_1 : decode cX0_copyNotes 1 = .ok (.istore_n 2, 1) := by decide +kernel
theorem dX0_copyNotes_2 : decode cX0_copyNotes 2 = .ok (.iload_n 2, 1) := by decide +kernel
theorem dX0_copyNotes_3 : decode cX0_copyNotes 3 = .ok (.bipush 96, 2) := by decide +kernel
theorem dX0_copyNotes_5 : decode cX0_copyNotes 5 = .ok (.if_icmp .ge 39, 3) := by decide +kernel
theorem dX0_copyNotes_8 : decode cX0_copyNotes 8 = .ok (.aload_n 0, 1) := by decide +kernel
theorem dX0_copyNotes_9 : decode cX0_copyNotes 9 = .ok (.getfield 9, 3) := by decide +kernel
theorem dX0_copyNotes_12 : decode cX0_copyNotes 12 = .ok (.iload_n 2, 1) := by decide +kernel
theorem dX0_copyNotes_13 : decode cX0_copyNotes 13 = .ok (.aload_n 1, 1) := by decide +kernel
theorem dX0_copyNotes_14 : decode cX0_copyNotes 14 = .ok (.getfield 9, 3) := by decide +kernel
theorem dX0_copyNotes_17 : decode cX0_copyNotes 17 = .ok (.iload_n 2, 1) := by decide +kernel
theorem dX0_copyNotes_18 : decode cX0_copyNotes 18 = .ok (.iaload, 1) := by decide +kernel
theorem dX0_copyNotes_19 : decode cX0_copyNotes 19 = .ok (.ldc 18, 2) := by decide +kernel
theorem dX0_copyNotes_21 : decode cX0_copyNotes 21 = .ok (.iand, 1) := by decide +kernel
theorem dX0_copyNotes_22 : decode cX0_copyNotes 22 = .ok (.iastore, 1) := by decide +kernel
theorem dX0_copyNotes_23 : decode cX0_copyNotes 23 = .ok (.aload_n 0, 1) := by decide +kernel
theorem dX0_copyNotes_24 : decode cX0_copyNotes 24 = .ok (.getfield 15, 3) := by decide +kernel
theorem dX0_copyNotes_27 : decode cX0_copyNotes 27 = .ok (.iload_n 2, 1) := by decide +kernel
theorem dX0_copyNotes_28 : decode cX0_copyNotes 28 = .ok (.aload_n 1, 1) := by decide +kernel
theorem dX0_copyNotes_29 : decode cX0_copyNotes 29 = .ok (.getfield 15, 3) := by decide +kernel
theorem dX0_copyNotes_32 : decode cX0_copyNotes 32 = .ok (.iload_n 2, 1) := by decide +kernel
theorem dX0_copyNotes_33 : decode cX0_copyNotes 33 = .ok (.iaload, 1) := by decide +kernel
theorem dX0_copyNotes_34 : decode cX0_copyNotes 34 = .ok (.ldc 18, 2) := by decide +kernel
theorem dX0_copyNotes_36 : decode cX0_copyNotes 36 = .ok (.iand, 1) := by decide +kernel
theorem dX0_copyNotes_37 : decode cX0_copyNotes 37 = .ok (.iastore, 1) := by decide +kernel
theorem dX0_copyNotes_38 : decode cX0_copyNotes 38 = .ok (.iinc 2 1, 3) := by decide +kernel
theorem dX0_copyNotes_41 : decode cX0_copyNotes 41 = .ok (.goto (-39), 3) := by decide +kernel
theorem dX0_copyNotes_44 : decode cX0_copyNotes 44 = .ok (.return_, 1) := by decide +kernel
set_option maxRecDepth 20000 in
theorem ggX0_noteCount_X6_bitsIn : GoodIn wsX0_noteCount wsX6_bitsIn := goodIn_r _ [5, 6, 7, 8, 9, 10, 11, 12] (by decide +kernel) (by decide +kernel)
set_option maxRecDepth 20000 in
theorem gX0_noteCount_X6_bitsIn_n19 : GoodIn wsX0_noteCount (wsX6_bitsIn) := ggX0_noteCount_X6_bitsIn
theorem dX0_noteCount_0 : decode cX0_noteCount 0 = .ok (.aload_n 0, 1) := by decide +kernel
theorem dX0_noteCount_1 : decode cX0_noteCount 1 = .ok (.getfield 9, 3) := by decide +kernel
theorem dX0_noteCount_4 : decode cX0_noteCount 4 = .ok (.ldc 18, 2) := by decide +kernel
theorem dX0_noteCount_6 : decode cX0_noteCount 6 = .ok (.invokestatic 19, 3) := by decide +kernel
theorem dX0_noteCount_9 : decode cX0_noteCount 9 = .ok (.ireturn, 1) := by decide +kernel
set_option maxRecDepth 20000 in
theorem ggX0_sameNotes_J6_bitCount_0f7a4 : GoodIn wsX0_sameNotes wsJ6_bitCount_0f7a4 := goodIn_r _ [7, 8, 9, 10] (by decide +kernel) (by decide +kernel)
set_option maxRecDepth 20000 in
theorem gX0_sameNotes_J6_bitCount_0f7a4 : GoodIn wsX0_sameNotes (va_wsS RX0 23 yJ6_bitCount_0f7a4 wsJ6_bitCount_0f7a4) := goodIn_app (goodIn_of _ (by decide +kernel)) ggX0_sameNotes_J6_bitCount_0f7a4
theorem dX0_sameNotes_0 : decode cX0_sameNotes 0 = .ok (.iconst 0, 1) := by decide +kernel
theorem dX0_sameNotes_1 : decode cX0_sameNotes 1 = .ok (.istore_n 2, 1) := by decide +kernel
theorem dX0_sameNotes_2 : decode cX0_sameNotes 2 = .ok (.iconst 0, 1) := by decide +kernel
theorem dX0_sameNotes_3 : decode cX0_sameNotes 3 = .ok (.istore_n 3, 1) := by decide +kernel
theorem dX0_sameNotes_4 : decode cX0_sameNotes 4 = .ok (.iconst 0, 1) := by decide +kernel
theorem dX0_sameNotes_5 : decode cX0_sameNotes 5 = .ok (.istore 4, 2) := by decide +kernel
theorem dX0_sameNotes_7 : decode cX0_sameNotes 7 = .ok (.iload 4, 2) := by decide +kernel
theorem dX0_sameNotes_9 : decode cX0_sameNotes 9 = .ok (.bipush 96, 2) := by decide +kernel
theorem dX0_sameNotes_11 : decode cX0_sameNotes 11 = .ok (.if_icmp .ge 73, 3) := by decide +kernel
theorem dX0_sameNotes_14 : decode cX0_sameNotes 14 = .ok (.iload_n 3, 1) := by decide +kernel
theorem dX0_sameNotes_15 : decode cX0_sameNotes 15 = .ok (.aload_n 0, 1) := by decide +kernel
theorem dX0_sameNotes_16 : decode cX0_sameNotes 16 = .ok (.getfield 9, 3) := by decide +kernel
theorem dX0_sameNotes_19 : decode cX0_sameNotes 19 = .ok (.iload 4, 2) := by decide +kernel
theorem dX0_sameNotes_21 : decode cX0_sameNotes 21 = .ok (.iaload, 1) := by decide +kernel
theorem dX0_sameNotes_22 : decode cX0_sameNotes 22 = .ok (.aload_n 1, 1) := by decide +kernel
theorem dX0_sameNotes_23 : decode cX0_sameNotes 23 = .ok (.getfield 9, 3) := by decide +kernel
theorem dX0_sameNotes_26 : decode cX0_sameNotes 26 = .ok (.iload 4, 2) := by decide +kernel
theorem dX0_sameNotes_28 : decode cX0_sameNotes 28 = .ok (.iaload, 1) := by decide +kernel
theorem dX0_sameNotes_29 : decode cX0_sameNotes 29 = .ok (.iand, 1) := by decide +kernel
theorem dX0_sameNotes_30 : decode cX0_sameNotes 30 = .ok (.ldc 18, 2) := by decide +kernel
theorem dX0_sameNotes_32 : decode cX0_sameNotes 32 = .ok (.iand, 1) := by decide +kernel
theorem dX0_sameNotes_33 : decode cX0_sameNotes 33 = .ok (.ior, 1) := by decide +kernel
theorem dX0_sameNotes_34 : decode cX0_sameNotes 34 = .ok (.istore_n 3, 1) := by decide +kernel
theorem dX0_sameNotes_35 : decode cX0_sameNotes 35 = .ok (.iload_n 2, 1) := by decide +kernel
theorem dX0_sameNotes_36 : decode cX0_sameNotes 36 = .ok (.iload_n 3, 1) := by decide +kernel
theorem dX0_sameNotes_37 : decode cX0_sameNotes 37 = .ok (.aload_n 0, 1) := by decide +kernel
theorem dX0_sameNotes_38 : decode cX0_sameNotes 38 = .ok (.getfield 15, 3) := by decide +kernel
theorem dX0_sameNotes_41 : decode cX0_sameNotes 41 = .ok (.iload 4, 2) := by decide +kernel
theorem dX0_sameNotes_43 : decode cX0_sameNotes 43 = .ok (.iaload, 1) := by decide +kernel
theorem dX0_sameNotes_44 : decode cX0_sameNotes 44 = .ok (.iand, 1) := by decide +kernel
theorem dX0_sameNotes_45 : decode cX0_sameNotes 45 = .ok (.aload_n 1, 1) := by decide +kernel
theorem dX0_sameNotes_46 : decode cX0_sameNotes 46 = .ok (.getfield 15, 3) := by decide +kernel
theorem dX0_sameNotes_49 : decode cX0_sameNotes 49 = .ok (.iload 4, 2) := by decide +kernel
theorem dX0_sameNotes_51 : decode cX0_sameNotes 51 = .ok (.iaload, 1) := by decide +kernel
theorem dX0_sameNotes_52 : decode cX0_sameNotes 52 = .ok (.iand, 1) := by decide +kernel
theorem dX0_sameNotes_53 : decode cX0_sameNotes 53 = .ok (.invokestatic 23, 3) := by decide +kernel
theorem dX0_sameNotes_56 : decode cX0_sameNotes 56 = .ok (.iadd, 1) := by decide +kernel
theorem dX0_sameNotes_57 : decode cX0_sameNotes 57 = .ok (.istore_n 2, 1) := by decide +kernel
theorem dX0_sameNotes_58 : decode cX0_sameNotes 58 = .ok (.iload_n 3, 1) := by decide +kernel
theorem dX0_sameNotes_59 : decode cX0_sameNotes 59 = .ok (.aload_n 0, 1) := by decide +kernel
theorem dX0_sameNotes_60 : decode cX0_sameNotes 60 = .ok (.getfield 15, 3) := by decide +kernel
theorem dX0_sameNotes_63 : decode cX0_sameNotes 63 = .ok (.iload 4, 2) := by decide +kernel
theorem dX0_sameNotes_65 : decode cX0_sameNotes 65 = .ok (.iaload, 1) := by decide +kernel
theorem dX0_sameNotes_66 : decode cX0_sameNotes 66 = .ok (.aload_n 1, 1) := by decide +kernel
theorem dX0_sameNotes_67 : decode cX0_sameNotes 67 = .ok (.getfield 15, 3) := by decide +kernel
theorem dX0_sameNotes_70 : decode cX0_sameNotes 70 = .ok (.iload 4, 2) := by decide +kernel
theorem dX0_sameNotes_72 : decode cX0_sameNotes 72 = .ok (.iaload, 1) := by decide +kernel
theorem dX0_sameNotes_73 : decode cX0_sameNotes 73 = .ok (.ior, 1) := by decide +kernel
theorem dX0_sameNotes_74 : decode cX0_sameNotes 74 = .ok (.iconst (-1), 1) := by decide +kernel
theorem dX0_sameNotes_75 : decode cX0_sameNotes 75 = .ok (.ixor, 1) := by decide +kernel
theorem dX0_sameNotes_76 : decode cX0_sameNotes 76 = .ok (.iand, 1) := by decide +kernel
theorem dX0_sameNotes_77 : decode cX0_sameNotes 77 = .ok (.istore_n 3, 1) := by decide +kernel
theorem dX0_sameNotes_78 : decode cX0_sameNotes 78 = .ok (.iinc 4 1, 3) := by decide +kernel
theorem dX0_sameNotes_81 : decode cX0_sameNotes 81 = .ok (.goto (-74), 3) := by decide +kernel
theorem dX0_sameNotes_84 : decode cX0_sameNotes 84 = .ok (.iload_n 2, 1) := by decide +kernel
theorem dX0_sameNotes_85 : decode cX0_sameNotes 85 = .ok (.ireturn, 1) := by decide +kernel
set_option maxRecDepth 20000 in
theorem ggX0_beginsAt_X6_isStep : GoodIn wsX0_beginsAt wsX6_isStep := goodIn_r _ [4] (by decide +kernel) (by decide +kernel)
set_option maxRecDepth 20000 in
theorem gX0_beginsAt_X6_isStep_n29 : GoodIn wsX0_beginsAt (wsX6_isStep) := ggX0_beginsAt_X6_isStep
theorem dX0_beginsAt_0 : decode cX0_beginsAt 0 = .ok (.iload_n 2, 1) := by decide +kernel
theorem dX0_beginsAt_1 : decode cX0_beginsAt 1 = .ok (.invokestatic 29, 3) := by decide +kernel
theorem dX0_beginsAt_4 : decode cX0_beginsAt 4 = .ok (.ifCond .eq 20, 3) := by decide +kernel
theorem dX0_beginsAt_7 : decode cX0_beginsAt 7 = .ok (.aload_n 0, 1) := by decide +kernel
theorem dX0_beginsAt_8 : decode cX0_beginsAt 8 = .ok (.getfield 9, 3) := by decide +kernel
theorem dX0_beginsAt_11 : decode cX0_beginsAt 11 = .ok (.iload_n 2, 1) := by decide +kernel
theorem dX0_beginsAt_12 : decode cX0_beginsAt 12 = .ok (.iaload, 1) := by decide +kernel
theorem dX0_beginsAt_13 : decode cX0_beginsAt 13 = .ok (.iload_n 1, 1) := by decide +kernel
theorem dX0_beginsAt_14 : decode cX0_beginsAt 14 = .ok (.ishr, 1) := by decide +kernel
theorem dX0_beginsAt_15 : decode cX0_beginsAt 15 = .ok (.iconst 1, 1) := by decide +kernel
theorem dX0_beginsAt_16 : decode cX0_beginsAt 16 = .ok (.iand, 1) := by decide +kernel
theorem dX0_beginsAt_17 : decode cX0_beginsAt 17 = .ok (.ifCond .eq 7, 3) := by decide +kernel
theorem dX0_beginsAt_20 : decode cX0_beginsAt 20 = .ok (.iconst 1, 1) := by decide +kernel
theorem dX0_beginsAt_21 : decode cX0_beginsAt 21 = .ok (.goto 4, 3) := by decide +kernel
theorem dX0_beginsAt_24 : decode cX0_beginsAt 24 = .ok (.iconst 0, 1) := by decide +kernel
theorem dX0_beginsAt_25 : decode cX0_beginsAt 25 = .ok (.ireturn, 1) := by decide +kernel
set_option maxRecDepth 20000 in
theorem ggX0_hasChain_X0_beginsAt : GoodIn wsX0_hasChain wsX0_beginsAt := goodIn_r _ [5, 6, 7, 8, 9, 15, 16] (by decide +kernel) (by decide +kernel)
set_option maxRecDepth 20000 in
theorem gX0_hasChain_X0_beginsAt : GoodIn wsX0_hasChain (wsV RX0 33 RX0 yX0_beginsAt wsX0_beginsAt) := goodIn_app (goodIn_of _ (by decide +kernel)) ggX0_hasChain_X0_beginsAt
set_option maxRecDepth 20000 in
theorem ggX0_hasChain_X0_lastStepFrom : GoodIn wsX0_hasChain wsX0_lastStepFrom := goodIn_r _ [13, 14, 15, 16] (by decide +kernel) (by decide +kernel)
set_option maxRecDepth 20000 in
theorem gX0_hasChain_X0_lastStepFrom : GoodIn wsX0_hasChain (wsV RX0 37 RX0 yX0_lastStepFrom wsX0_lastStepFrom) := goodIn_app (goodIn_of _ (by decide +kernel)) ggX0_hasChain_X0_lastStepFrom
theorem dX0_hasChain_0 : decode cX0_hasChain 0 = .ok (.aload_n 0, 1) := by decide +kernel
theorem dX0_hasChain_1 : decode cX0_hasChain 1 = .ok (.iload_n 1, 1) := by decide +kernel
theorem dX0_hasChain_2 : decode cX0_hasChain 2 = .ok (.iload_n 2, 1) := by decide +kernel
theorem dX0_hasChain_3 : decode cX0_hasChain 3 = .ok (.invokevirtual 33, 3) := by decide +kernel
theorem dX0_hasChain_6 : decode cX0_hasChain 6 = .ok (.ifCond .eq 17, 3) := by decide +kernel
theorem dX0_hasChain_9 : decode cX0_hasChain 9 = .ok (.aload_n 0, 1) := by decide +kernel
theorem dX0_hasChain_10 : decode cX0_hasChain 10 = .ok (.iload_n 1, 1) := by decide +kernel
theorem dX0_hasChain_11 : decode cX0_hasChain 11 = .ok (.iload_n 2, 1) := by decide +kernel
theorem dX0_hasChain_12 : decode cX0_hasChain 12 = .ok (.invokevirtual 37, 3) := by decide +kernel
theorem dX0_hasChain_15 : decode cX0_hasChain 15 = .ok (.iload_n 3, 1) := by decide +kernel
theorem dX0_hasChain_16 : decode cX0_hasChain 16 = .ok (.if_icmp .ne 7, 3) := by decide +kernel
theorem dX0_hasChain_19 : decode cX0_hasChain 19 = .ok (.iconst 1, 1) := by decide +kernel
theorem dX0_hasChain_20 : decode cX0_hasChain 20 = .ok (.goto 4, 3) := by decide +kernel
theorem dX0_hasChain_23 : decode cX0_hasChain 23 = .ok (.iconst 0, 1) := by decide +kernel
theorem dX0_hasChain_24 : decode cX0_hasChain 24 = .ok (.ireturn, 1) := by decide +kernel
theorem dX0_lastStepFrom_0 : decode cX0_lastStepFrom 0 = .ok (.iconst 0, 1) := by decide +kernel
theorem dX0_lastStepFrom_1 : decode cX0_lastStepFrom 1 = .ok (.istore_n 3, 1) := by decide +kernel
theorem dX0_lastStepFrom_2 : decode cX0_lastStepFrom 2 = .ok (.iload_n 3, 1) := by decide +kernel
theorem dX0_lastStepFrom_3 : decode cX0_lastStepFrom 3 = .ok (.bipush 96, 2) := by decide +kernel
theorem dX0_lastStepFrom_5 : decode cX0_lastStepFrom 5 = .ok (.if_icmp .ge 29, 3) := by decide +kernel
theorem dX0_lastStepFrom_8 : decode cX0_lastStepFrom 8 = .ok (.iload_n 3, 1) := by decide +kernel
theorem dX0_lastStepFrom_9 : decode cX0_lastStepFrom 9 = .ok (.iload_n 2, 1) := by decide +kernel
theorem dX0_lastStepFrom_10 : decode cX0_lastStepFrom 10 = .ok (.if_icmp .lt 18, 3) := by decide +kernel
theorem dX0_lastStepFrom_13 : decode cX0_lastStepFrom 13 = .ok (.aload_n 0, 1) := by decide +kernel
theorem dX0_lastStepFrom_14 : decode cX0_lastStepFrom 14 = .ok (.getfield 15, 3) := by decide +kernel
theorem dX0_lastStepFrom_17 : decode cX0_lastStepFrom 17 = .ok (.iload_n 3, 1) := by decide +kernel
theorem dX0_lastStepFrom_18 : decode cX0_lastStepFrom 18 = .ok (.iaload, 1) := by decide +kernel
theorem dX0_lastStepFrom_19 : decode cX0_lastStepFrom 19 = .ok (.iload_n 1, 1) := by decide +kernel
theorem dX0_lastStepFrom_20 : decode cX0_lastStepFrom 20 = .ok (.ishr, 1) := by decide +kernel
theorem dX0_lastStepFrom_21 : decode cX0_lastStepFrom 21 = .ok (.iconst 1, 1) := by decide +kernel
theorem dX0_lastStepFrom_22 : decode cX0_lastStepFrom 22 = .ok (.iand, 1) := by decide +kernel
theorem dX0_lastStepFrom_23 : decode cX0_lastStepFrom 23 = .ok (.ifCond .eq 5, 3) := by decide +kernel
theorem dX0_lastStepFrom_26 : decode cX0_lastStepFrom 26 = .ok (.iload_n 3, 1) := by decide +kernel
theorem dX0_lastStepFrom_27 : decode cX0_lastStepFrom 27 = .ok (.ireturn, 1) := by decide +kernel
theorem dX0_lastStepFrom_28 : decode cX0_lastStepFrom 28 = .ok (.iinc 3 1, 3) := by decide +kernel
theorem dX0_lastStepFrom_31 : decode cX0_lastStepFrom 31 = .ok (.goto (-29), 3) := by decide +kernel
theorem dX0_lastStepFrom_34 : decode cX0_lastStepFrom 34 = .ok (.iconst (-1), 1) := by decide +kernel
theorem dX0_lastStepFrom_35 : decode cX0_lastStepFrom 35 = .ok (.ireturn, 1) := by decide +kernel
set_option maxRecDepth 20000 in
theorem ggX0_firstStepOf_J6_bitCount_0f7a4 : GoodIn wsX0_firstStepOf wsJ6_bitCount_0f7a4 := goodIn_r _ [6, 7, 8, 9] (by decide +kernel) (by decide +kernel)
set_option maxRecDepth 20000 in
theorem gX0_firstStepOf_J6_bitCount_0f7a4 : GoodIn wsX0_firstStepOf (va_wsS RX0 23 yJ6_bitCount_0f7a4 wsJ6_bitCount_0f7a4) := goodIn_app (goodIn_of _ (by decide +kernel)) ggX0_firstStepOf_J6_bitCount_0f7a4
theorem dX0_firstStepOf_0 : decode cX0_firstStepOf 0 = .ok (.iconst 0, 1) := by decide +kernel
theorem dX0_firstStepOf_1 : decode cX0_firstStepOf 1 = .ok (.istore_n 2, 1) := by decide +kernel
theorem dX0_firstStepOf_2 : decode cX0_firstStepOf 2 = .ok (.iconst 0, 1) := by decide +kernel
theorem dX0_firstStepOf_3 : decode cX0_firstStepOf 3 = .ok (.istore_n 3, 1) := by decide +kernel
theorem dX0_firstStepOf_4 : decode cX0_firstStepOf 4 = .ok (.iload_n 3, 1) := by decide +kernel
theorem dX0_firstStepOf_5 : decode cX0_firstStepOf 5 = .ok (.bipush 96, 2) := by decide +kernel
theorem dX0_firstStepOf_7 : decode cX0_firstStepOf 7 = .ok (.if_icmp .ge 35, 3) := by decide +kernel
theorem dX0_firstStepOf_10 : decode cX0_firstStepOf 10 = .ok (.iload_n 1, 1) := by decide +kernel
theorem dX0_firstStepOf_11 : decode cX0_firstStepOf 11 = .ok (.ifCond .lt 31, 3) := by decide +kernel
theorem dX0_firstStepOf_14 : decode cX0_firstStepOf 14 = .ok (.iload_n 2, 1) := by decide +kernel
theorem dX0_firstStepOf_15 : decode cX0_firstStepOf 15 = .ok (.aload_n 0, 1) := by decide +kernel
theorem dX0_firstStepOf_16 : decode cX0_firstStepOf 16 = .ok (.getfield 9, 3) := by decide +kernel
theorem dX0_firstStepOf_19 : decode cX0_firstStepOf 19 = .ok (.iload_n 3, 1) := by decide +kernel
theorem dX0_firstStepOf_20 : decode cX0_firstStepOf 20 = .ok (.iaload, 1) := by decide +kernel
theorem dX0_firstStepOf_21 : decode cX0_firstStepOf 21 = .ok (.ldc 18, 2) := by decide +kernel
theorem dX0_firstStepOf_23 : decode cX0_firstStepOf 23 = .ok (.iand, 1) := by decide +kernel
theorem dX0_firstStepOf_24 : decode cX0_firstStepOf 24 = .ok (.invokestatic 23, 3) := by decide +kernel
theorem dX0_firstStepOf_27 : decode cX0_firstStepOf 27 = .ok (.iadd, 1) := by decide +kernel
theorem dX0_firstStepOf_28 : decode cX0_firstStepOf 28 = .ok (.istore_n 2, 1) := by decide +kernel
theorem dX0_firstStepOf_29 : decode cX0_firstStepOf 29 = .ok (.iload_n 1, 1) := by decide +kernel
theorem dX0_firstStepOf_30 : decode cX0_firstStepOf 30 = .ok (.iload_n 2, 1) := by decide +kernel
theorem dX0_firstStepOf_31 : decode cX0_firstStepOf 31 = .ok (.if_icmp .ge 5, 3) := by decide +kernel
theorem dX0_firstStepOf_34 : decode cX0_firstStepOf 34 = .ok (.iload_n 3, 1) := by decide +kernel
theorem dX0_firstStepOf_35 : decode cX0_firstStepOf 35 = .ok (.ireturn, 1) := by decide +kernel
theorem dX0_firstStepOf_36 : decode cX0_firstStepOf 36 = .ok (.iinc 3 1, 3) := by decide +kernel
theorem dX0_firstStepOf_39 : decode cX0_firstStepOf 39 = .ok (.goto (-35), 3) := by decide +kernel
theorem dX0_firstStepOf_42 : decode cX0_firstStepOf 42 = .ok (.iconst (-1), 1) := by decide +kernel
theorem dX0_firstStepOf_43 : decode cX0_firstStepOf 43 = .ok (.ireturn, 1) := by decide +kernel
set_option maxRecDepth 20000 in
theorem ggX0_voiceOf_X0_firstStepOf : GoodIn wsX0_voiceOf wsX0_firstStepOf := goodIn_r _ [7, 1, 2, 8, 9, 10, 11, 12, 13, 14, 22, 23] (by decide +kernel) (by decide +kernel)
set_option maxRecDepth 20000 in
theorem gX0_voiceOf_X0_firstStepOf : GoodIn wsX0_voiceOf (wsV RX0 41 RX0 yX0_firstStepOf wsX0_firstStepOf) := goodIn_app (goodIn_of _ (by decide +kernel)) ggX0_voiceOf_X0_firstStepOf
set_option maxRecDepth 20000 in
theorem ggX0_voiceOf_J6_bitCount_0f7a4 : GoodIn wsX0_voiceOf wsJ6_bitCount_0f7a4 := goodIn_r _ [11, 12, 13, 14] (by decide +kernel) (by decide +kernel)
set_option maxRecDepth 20000 in
theorem gX0_voiceOf_J6_bitCount_0f7a4 : GoodIn wsX0_voiceOf (va_wsS RX0 23 yJ6_bitCount_0f7a4 wsJ6_bitCount_0f7a4) := goodIn_app (goodIn_of _ (by decide +kernel)) ggX0_voiceOf_J6_bitCount_0f7a4
set_option maxRecDepth 20000 in
theorem ggX0_voiceOf_X0_beginsAt : GoodIn wsX0_voiceOf wsX0_beginsAt := goodIn_r _ [18, 1, 19, 20, 21, 22, 23] (by decide +kernel) (by decide +kernel)
set_option maxRecDepth 20000 in
theorem gX0_voiceOf_X0_beginsAt : GoodIn wsX0_voiceOf (wsV RX0 33 RX0 yX0_beginsAt wsX0_beginsAt) := goodIn_app (goodIn_of _ (by decide +kernel)) ggX0_voiceOf_X0_beginsAt
theorem dX0_voiceOf_0 : decode cX0_voiceOf 0 = .ok (.iconst 0, 1) := by decide +kernel
theorem dX0_voiceOf_1 : decode cX0_voiceOf 1 = .ok (.istore_n 2, 1) := by decide +kernel
theorem dX0_voiceOf_2 : decode cX0_voiceOf 2 = .ok (.aload_n 0, 1) := by decide +kernel
theorem dX0_voiceOf_3 : decode cX0_voiceOf 3 = .ok (.iload_n 1, 1) := by decide +kernel
theorem dX0_voiceOf_4 : decode cX0_voiceOf 4 = .ok (.invokevirtual 41, 3) := by decide +kernel
theorem dX0_voiceOf_7 : decode cX0_voiceOf 7 = .ok (.istore_n 3, 1) := by decide +kernel
theorem dX0_voiceOf_8 : decode cX0_voiceOf 8 = .ok (.iconst 0, 1) := by decide +kernel
theorem dX0_voiceOf_9 : decode cX0_voiceOf 9 = .ok (.istore 4, 2) := by decide +kernel
theorem dX0_voiceOf_11 : decode cX0_voiceOf 11 = .ok (.iload 4, 2) := by decide +kernel
theorem dX0_voiceOf_13 : decode cX0_voiceOf 13 = .ok (.iload_n 3, 1) := by decide +kernel
theorem dX0_voiceOf_14 : decode cX0_voiceOf 14 = .ok (.if_icmp .ge 25, 3) := by decide +kernel
theorem dX0_voiceOf_17 : decode cX0_voiceOf 17 = .ok (.iload_n 2, 1) := by decide +kernel
theorem dX0_voiceOf_18 : decode cX0_voiceOf 18 = .ok (.aload_n 0, 1) := by decide +kernel
theorem dX0_voiceOf_19 : decode cX0_voiceOf 19 = .ok (.getfield 9, 3) := by decide +kernel
theorem dX0_voiceOf_22 : decode cX0_voiceOf 22 = .ok (.iload 4, 2) := by decide +kernel
theorem dX0_voiceOf_24 : decode cX0_voiceOf 24 = .ok (.iaload, 1) := by decide +kernel
theorem dX0_voiceOf_25 : decode cX0_voiceOf 25 = .ok (.ldc 18, 2) := by decide +kernel
theorem dX0_voiceOf_27 : decode cX0_voiceOf 27 = .ok (.iand, 1) := by decide +kernel
theorem dX0_voiceOf_28 : decode cX0_voiceOf 28 = .ok (.invokestatic 23, 3) := by decide +kernel
theorem dX0_voiceOf_31 : decode cX0_voiceOf 31 = .ok (.iadd, 1) := by decide +kernel
theorem dX0_voiceOf_32 : decode cX0_voiceOf 32 = .ok (.istore_n 2, 1) := by decide +kernel
theorem dX0_voiceOf_33 : decode cX0_voiceOf 33 = .ok (.iinc 4 1, 3) := by decide +kernel
theorem dX0_voiceOf_36 : decode cX0_voiceOf 36 = .ok (.goto (-25), 3) := by decide +kernel
theorem dX0_voiceOf_39 : decode cX0_voiceOf 39 = .ok (.iconst 1, 1) := by decide +kernel
theorem dX0_voiceOf_40 : decode cX0_voiceOf 40 = .ok (.istore 4, 2) := by decide +kernel
theorem dX0_voiceOf_42 : decode cX0_voiceOf 42 = .ok (.iload 4, 2) := by decide +kernel
theorem dX0_voiceOf_44 : decode cX0_voiceOf 44 = .ok (.bipush 21, 2) := by decide +kernel
theorem dX0_voiceOf_46 : decode cX0_voiceOf 46 = .ok (.if_icmp .ge 30, 3) := by decide +kernel
theorem dX0_voiceOf_49 : decode cX0_voiceOf 49 = .ok (.aload_n 0, 1) := by decide +kernel
theorem dX0_voiceOf_50 : decode cX0_voiceOf 50 = .ok (.iload 4, 2) := by decide +kernel
theorem dX0_voiceOf_52 : decode cX0_voiceOf 52 = .ok (.iload_n 3, 1) := by decide +kernel
theorem dX0_voiceOf_53 : decode cX0_voiceOf 53 = .ok (.invokevirtual 33, 3) := by decide +kernel
theorem dX0_voiceOf_56 : decode cX0_voiceOf 56 = .ok (.ifCond .eq 14, 3) := by decide +kernel
theorem dX0_voiceOf_59 : decode cX0_voiceOf 59 = .ok (.iload_n 2, 1) := by decide +kernel
theorem dX0_voiceOf_60 : decode cX0_voiceOf 60 = .ok (.iload_n 1, 1) := by decide +kernel
theorem dX0_voiceOf_61 : decode cX0_voiceOf 61 = .ok (.if_icmp .ne 6, 3) := by decide +kernel
theorem dX0_voiceOf_64 : decode cX0_voiceOf 64 = .ok (.iload 4, 2) := by decide +kernel
theorem dX0_voiceOf_66 : decode cX0_voiceOf 66 = .ok (.ireturn, 1) := by decide +kernel
theorem dX0_voiceOf_67 : decode cX0_voiceOf 67 = .ok (.iinc 2 1, 3) := by decide +kernel
theorem dX0_voiceOf_70 : decode cX0_voiceOf 70 = .ok (.iinc 4 1, 3) := by decide +kernel
theorem dX0_voiceOf_73 : decode cX0_voiceOf 73 = .ok (.goto (-31), 3) := by decide +kernel
theorem dX0_voiceOf_76 : decode cX0_voiceOf 76 = .ok (.iconst (-1), 1) := by decide +kernel
theorem dX0_voiceOf_77 : decode cX0_voiceOf 77 = .ok (.ireturn, 1) := by decide +kernel
set_option maxRecDepth 20000 in
theorem ggX1_init_X0_init : GoodIn wsX1_init wsX0_init := goodIn_r _ [13, 14, 2, 3, 4, 15, 16, 21, 22] (by decide +kernel) (by decide +kernel)
set_option maxRecDepth 20000 in
theorem gX1_init_X0_init_n17 : GoodIn wsX1_init (wsX0_init) := ggX1_init_X0_init
theorem dX1_init_0 : decode cX1_init 0 = .ok (.aload_n 0, 1) := by decide +kernel
theorem dX1_init_1 : decode cX1_init 1 = .ok (.invokespecial 3, 3) := by decide +kernel
theorem dX1_init_4 : decode cX1_init 4 = .ok (.aload_n 0, 1) := by decide +kernel
theorem dX1_init_5 : decode cX1_init 5 = .ok (.bipush 96, 2) := by decide +kernel
theorem dX1_init_7 : decode cX1_init 7 = .ok (.newarray .int, 2) := by decide +kernel
theorem dX1_init_9 : decode cX1_init 9 = .ok (.putfield 9, 3) := by decide +kernel
theorem dX1_init_12 : decode cX1_init 12 = .ok (.aload_n 0, 1) := by decide +kernel
theorem dX1_init_13 : decode cX1_init 13 = .ok (.new 15, 3) := by decide +kernel
theorem dX1_init_16 : decode cX1_init 16 = .ok (.dup, 1) := by decide +kernel
theorem dX1_init_17 : decode cX1_init 17 = .ok (.invokespecial 17, 3) := by decide +kernel
theorem dX1_init_20 : decode cX1_init 20 = .ok (.putfield 18, 3) := by decide +kernel
theorem dX1_init_23 : decode cX1_init 23 = .ok (.aload_n 0, 1) := by decide +kernel
theorem dX1_init_24 : decode cX1_init 24 = .ok (.bipush 96, 2) := by decide +kernel
theorem dX1_init_26 : decode cX1_init 26 = .ok (.newarray .int, 2) := by decide +kernel
theorem dX1_init_28 : decode cX1_init 28 = .ok (.putfield 22, 3) := by decide +kernel
theorem dX1_init_31 : decode cX1_init 31 = .ok (.aload_n 0, 1) := by decide +kernel
theorem dX1_init_32 : decode cX1_init 32 = .ok (.bipush 96, 2) := by decide +kernel
theorem dX1_init_34 : decode cX1_init 34 = .ok (.newarray .int, 2) := by decide +kernel
theorem dX1_init_36 : decode cX1_init 36 = .ok (.putfield 25, 3) := by decide +kernel
theorem dX1_init_39 : decode cX1_init 39 = .ok (.return_, 1) := by decide +kernel
set_option maxRecDepth 20000 in
theorem ggX1_listenTo_X3_voicesAt : GoodIn wsX1_listenTo wsX3_voicesAt := goodIn_r _ [9, 10, 11, 12, 13, 14, 15, 16, 8, 17, 18, 19, 20, 21, 22, 23, 24, 25, 26, 51, 52, 53, 54, 55, 56, 57] (by decide +kernel) (by decide +kernel)
set_option maxRecDepth 20000 in
theorem gX1_listenTo_X3_voicesAt : GoodIn wsX1_listenTo (wsV RX1 33 RX3 yX3_voicesAt wsX3_voicesAt) := goodIn_app (goodIn_of _ (by decide +kernel)) ggX1_listenTo_X3_voicesAt
set_option maxRecDepth 20000 in
theorem ggX1_listenTo_X0_link : GoodIn wsX1_listenTo wsX0_link := goodIn_r _ [31, 32, 33, 58, 59] (by decide +kernel) (by decide +kernel)
set_option maxRecDepth 20000 in
theorem gX1_listenTo_X0_link : GoodIn wsX1_listenTo (wsV RX1 41 RX0 yX0_link wsX0_link) := goodIn_app (goodIn_of _ (by decide +kernel)) ggX1_listenTo_X0_link
set_option maxRecDepth 20000 in
theorem ggX1_listenTo_X1_fillPlaying : GoodIn wsX1_listenTo wsX1_fillPlaying := goodIn_r _ [38, 3, 39, 40, 41, 47, 48, 49, 50, 58, 59] (by decide +kernel) (by decide +kernel)
set_option maxRecDepth 20000 in
theorem gX1_listenTo_X1_fillPlaying : GoodIn wsX1_listenTo (wsV RX1 45 RX1 yX1_fillPlaying wsX1_fillPlaying) := goodIn_app (goodIn_of _ (by decide +kernel)) ggX1_listenTo_X1_fillPlaying
set_option maxRecDepth 20000 in
theorem ggX1_listenTo_X1_fillSounding : GoodIn wsX1_listenTo wsX1_fillSounding := goodIn_r _ [45, 46, 40, 3, 41, 47, 48, 49, 50, 58, 59] (by decide +kernel) (by decide +kernel)
set_option maxRecDepth 20000 in
theorem gX1_listenTo_X1_fillSounding : GoodIn wsX1_listenTo (wsV RX1 48 RX1 yX1_fillSounding wsX1_fillSounding) := goodIn_app (goodIn_of _ (by decide +kernel)) ggX1_listenTo_X1_fillSounding
theorem dX1_listenTo_0 : decode cX1_listenTo 0 = .ok (.iconst 0, 1) := by decide +kernel
theorem dX1_listenTo_1 : decode cX1_listenTo 1 = .ok (.istore_n 2, 1) := by decide +kernel
theorem dX1_listenTo_2 : decode cX1_listenTo 2 = .ok (.iload_n 2, 1) := by decide +kernel
theorem dX1_listenTo_3 : decode cX1_listenTo 3 = .ok (.bipush 96, 2) := by decide +kernel
theorem dX1_listenTo_5 : decode cX1_listenTo 5 = .ok (.if_icmp .ge 26, 3) := by decide +kernel
theorem dX1_listenTo_8 : decode cX1_listenTo 8 = .ok (.aload_n 0, 1) := by decide +kernel
theorem dX1_listenTo_9 : decode cX1_listenTo 9 = .ok (.getfield 9, 3) := by decide +kernel
theorem dX1_listenTo_12 : decode cX1_listenTo 12 = .ok (.iload_n 2, 1) := by decide +kernel
theorem dX1_listenTo_13 : decode cX1_listenTo 13 = .ok (.aload_n 1, 1) := by decide +kernel
theorem dX1_listenTo_14 : decode cX1_listenTo 14 = .ok (.iload_n 2, 1) := by decide +kernel
theorem dX1_listenTo_15 : decode cX1_listenTo 15 = .ok (.aload_n 1, 1) := by decide +kernel
theorem dX1_listenTo_16 : decode cX1_listenTo 16 = .ok (.getfield 28, 3) := by decide +kernel
theorem dX1_listenTo_19 : decode cX1_listenTo 19 = .ok (.iload_n 2, 1) := by decide +kernel
theorem dX1_listenTo_20 : decode cX1_listenTo 20 = .ok (.iaload, 1) := by decide +kernel
theorem dX1_listenTo_21 : decode cX1_listenTo 21 = .ok (.invokevirtual 33, 3) := by decide +kernel
theorem dX1_listenTo_24 : decode cX1_listenTo 24 = .ok (.iastore, 1) := by decide +kernel
theorem dX1_listenTo_25 : decode cX1_listenTo 25 = .ok (.iinc 2 1, 3) := by decide +kernel
theorem dX1_listenTo_28 : decode cX1_listenTo 28 = .ok (.goto (-26), 3) := by decide +kernel
theorem dX1_listenTo_31 : decode cX1_listenTo 31 = .ok (.aload_n 0, 1) := by decide +kernel
theorem dX1_listenTo_32 : decode cX1_listenTo 32 = .ok (.getfield 18, 3) := by decide +kernel
theorem dX1_listenTo_35 : decode cX1_listenTo 35 = .ok (.aload_n 0, 1) := by decide +kernel
theorem dX1_listenTo_36 : decode cX1_listenTo 36 = .ok (.getfield 9, 3) := by decide +kernel
theorem dX1_listenTo_39 : decode cX1_listenTo 39 = .ok (.aload_n 1, 1) := by decide +kernel
theorem dX1_listenTo_40 : decode cX1_listenTo 40 = .ok (.getfield 37, 3) := by decide +kernel
theorem dX1_listenTo_43 : decode cX1_listenTo 43 = .ok (.invokevirtual 41, 3) := by decide +kernel
theorem dX1_listenTo_46 : decode cX1_listenTo 46 = .ok (.aload_n 0, 1) := by decide +kernel
theorem dX1_listenTo_47 : decode cX1_listenTo 47 = .ok (.invokevirtual 45, 3) := by decide +kernel
theorem dX1_listenTo_50 : decode cX1_listenTo 50 = .ok (.aload_n 0, 1) := by decide +kernel
theorem dX1_listenTo_51 : decode cX1_listenTo 51 = .ok (.invokevirtual 48, 3) := by decide +kernel
theorem dX1_listenTo_54 : decode cX1_listenTo 54 = .ok (.return_, 1) := by decide +kernel
theorem dX1_fillPlaying_0 : decode cX1_fillPlaying 0 = .ok (.iconst 0, 1) := by decide +kernel
theorem dX1_fillPlaying_1 : decode cX1_fillPlaying 1 = .ok (.istore_n 1, 1) := by decide +kernel
theorem dX1_fillPlaying_2 : decode cX1_fillPlaying 2 = .ok (.iconst 0, 1) := by decide +kernel
theorem dX1_fillPlaying_3 : decode cX1_fillPlaying 3 = .ok (.istore_n 2, 1) := by decide +kernel
theorem dX1_fillPlaying_4 : decode cX1_fillPlaying 4 = .ok (.iload_n 2, 1) := by decide +kernel
theorem dX1_fillPlaying_5 : decode cX1_fillPlaying 5 = .ok (.bipush 96, 2) := by decide +kernel
theorem dX1_fillPlaying_7 : decode cX1_fillPlaying 7 = .ok (.if_icmp .ge 42, 3) := by decide +kernel
theorem dX1_fillPlaying_10 : decode cX1_fillPlaying 10 = .ok (.iload_n 1, 1) := by decide +kernel
theorem dX1_fillPlaying_11 : decode cX1_fillPlaying 11 = .ok (.aload_n 0, 1) := by decide +kernel
theorem dX1_fillPlaying_12 : decode cX1_fillPlaying 12 = .ok (.getfield 18, 3) := by decide +kernel
theorem dX1_fillPlaying_15 : decode cX1_fillPlaying 15 = .ok (.getfield 51, 3) := by decide +kernel
theorem dX1_fillPlaying_18 : decode cX1_fillPlaying 18 = .ok (.iload_n 2, 1) := by decide +kernel
theorem dX1_fillPlaying_19 : decode cX1_fillPlaying 19 = .ok (.iaload, 1) := by decide +kernel
theorem dX1_fillPlaying_20 : decode cX1_fillPlaying 20 = .ok (.ior, 1) := by decide +kernel
theorem dX1_fillPlaying_21 : decode cX1_fillPlaying 21 = .ok (.istore_n 1, 1) := by decide +kernel
theorem dX1_fillPlaying_22 : decode cX1_fillPlaying 22 = .ok (.aload_n 0, 1) := by decide +kernel
theorem dX1_fillPlaying_23 : decode cX1_fillPlaying 23 = .ok (.getfield 22, 3) := by decide +kernel
theorem dX1_fillPlaying_26 : decode cX1_fillPlaying 26 = .ok (.iload_n 2, 1) := by decide +kernel
theorem dX1_fillPlaying_27 : decode cX1_fillPlaying 27 = .ok (.iload_n 1, 1) := by decide +kernel
theorem dX1_fillPlaying_28 : decode cX1_fillPlaying 28 = .ok (.iastore, 1) := by decide +kernel
theorem dX1_fillPlaying_29 : decode cX1_fillPlaying 29 = .ok (.iload_n 1, 1) := by decide +kernel
theorem dX1_fillPlaying_30 : decode cX1_fillPlaying 30 = .ok (.aload_n 0, 1) := by decide +kernel
theorem dX1_fillPlaying_31 : decode cX1_fillPlaying 31 = .ok (.getfield 18, 3) := by decide +kernel
theorem dX1_fillPlaying_34 : decode cX1_fillPlaying 34 = .ok (.getfield 54, 3) := by decide +kernel
theorem dX1_fillPlaying_37 : decode cX1_fillPlaying 37 = .ok (.iload_n 2, 1) := by decide +kernel
theorem dX1_fillPlaying_38 : decode cX1_fillPlaying 38 = .ok (.iaload, 1) := by decide +kernel
theorem dX1_fillPlaying_39 : decode cX1_fillPlaying 39 = .ok (.iconst (-1), 1) := by decide +kernel
theorem dX1_fillPlaying_40 : decode cX1_fillPlaying 40 = .ok (.ixor, 1) := by decide +kernel
theorem dX1_fillPlaying_41 : decode cX1_fillPlaying 41 = .ok (.iand, 1) := by decide +kernel
theorem dX1_fillPlaying_42 : decode cX1_fillPlaying 42 = .ok (.istore_n 1, 1) := by decide +kernel
theorem dX1_fillPlaying_43 : decode cX1_fillPlaying 43 = .ok (.iinc 2 1, 3) := by decide +kernel
theorem dX1_fillPlaying_46 : decode cX1_fillPlaying 46 = .ok (.goto (-42), 3) := by decide +kernel
theorem dX1_fillPlaying_49 : decode cX1_fillPlaying 49 = .ok (.return_, 1) := by decide +kernel
theorem dX1_fillSounding_0 : decode cX1_fillSounding 0 = .ok (.iconst 0, 1) := by decide +kernel
theorem dX1_fillSounding_1 : decode cX1_fillSounding 1 = .ok (.istore_n 1, 1) := by decide +kernel
theorem dX1_fillSounding_2 : decode cX1_fillSounding 2 = .ok (.iconst 0, 1) := by decide +kernel
theorem dX1_fillSounding_3 : decode cX1_fillSounding 3 = .ok (.istore_n 2, 1) := by decide +kernel
theorem dX1_fillSounding_4 : decode cX1_fillSounding 4 = .ok (.iload_n 2, 1) := by decide +kernel
theorem dX1_fillSounding_5 : decode cX1_fillSounding 5 = .ok (.bipush 96, 2) := by decide +kernel
theorem dX1_fillSounding_7 : decode cX1_fillSounding 7 = .ok (.if_icmp .ge 64, 3) := by decide +kernel
theorem dX1_fillSounding_10 : decode cX1_fillSounding 10 = .ok (.aload_n 0, 1) := by decide +kernel
theorem dX1_fillSounding_11 : decode cX1_fillSounding 11 = .ok (.getfield 25, 3) := by decide +kernel
theorem dX1_fillSounding_14 : decode cX1_fillSounding 14 = .ok (.iload_n 2, 1) := by decide +kernel
theorem dX1_fillSounding_15 : decode cX1_fillSounding 15 = .ok (.aload_n 0, 1) := by decide +kernel
theorem dX1_fillSounding_16 : decode cX1_fillSounding 16 = .ok (.getfield 22, 3) := by decide +kernel
theorem dX1_fillSounding_19 : decode cX1_fillSounding 19 = .ok (.iload_n 2, 1) := by decide +kernel
theorem dX1_fillSounding_20 : decode cX1_fillSounding 20 = .ok (.iaload, 1) := by decide +kernel
theorem dX1_fillSounding_21 : decode cX1_fillSounding 21 = .ok (.iload_n 1, 1) := by decide +kernel
theorem dX1_fillSounding_22 : decode cX1_fillSounding 22 = .ok (.ior, 1) := by decide +kernel
theorem dX1_fillSounding_23 : decode cX1_fillSounding 23 = .ok (.iastore, 1) := by decide +kernel
theorem dX1_fillSounding_24 : decode cX1_fillSounding 24 = .ok (.aload_n 0, 1) := by decide +kernel
theorem dX1_fillSounding_25 : decode cX1_fillSounding 25 = .ok (.getfield 22, 3) := by decide +kernel
theorem dX1_fillSounding_28 : decode cX1_fillSounding 28 = .ok (.iload_n 2, 1) := by decide +kernel
theorem dX1_fillSounding_29 : decode cX1_fillSounding 29 = .ok (.iaload, 1) := by decide +kernel
theorem dX1_fillSounding_30 : decode cX1_fillSounding 30 = .ok (.aload_n 0, 1) := by decide +kernel
theorem dX1_fillSounding_31 : decode cX1_fillSounding 31 = .ok (.getfield 18, 3) := by decide +kernel
theorem dX1_fillSounding_34 : decode cX1_fillSounding 34 = .ok (.getfield 54, 3) := by decide +kernel
theorem dX1_fillSounding_37 : decode cX1_fillSounding 37 = .ok (.iload_n 2, 1) := by decide +kernel
theorem dX1_fillSounding_38 : decode cX1_fillSounding 38 = .ok (.iaload, 1) := by decide +kernel
theorem dX1_fillSounding_39 : decode cX1_fillSounding 39 = .ok (.iconst (-1), 1) := by decide +kernel
theorem dX1_fillSounding_40 : decode cX1_fillSounding 40 = .ok (.ixor, 1) := by decide +kernel
theorem dX1_fillSounding_41 : decode cX1_fillSounding 41 = .ok (.iand, 1) := by decide +kernel
theorem dX1_fillSounding_42 : decode cX1_fillSounding 42 = .ok (.iconst 1, 1) := by decide +kernel
theorem dX1_fillSounding_43 : decode cX1_fillSounding 43 = .ok (.iand, 1) := by decide +kernel
theorem dX1_fillSounding_44 : decode cX1_fillSounding 44 = .ok (.istore_n 3, 1) := by decide +kernel
theorem dX1_fillSounding_45 : decode cX1_fillSounding 45 = .ok (.iload_n 3, 1) := by decide +kernel
theorem dX1_fillSounding_46 : decode cX1_fillSounding 46 = .ok (.ifCond .eq 17, 3) := by decide +kernel
theorem dX1_fillSounding_49 : decode cX1_fillSounding 49 = .ok (.iload_n 1, 1) := by decide +kernel
theorem dX1_fillSounding_50 : decode cX1_fillSounding 50 = .ok (.aload_n 0, 1) := by decide +kernel
theorem dX1_fillSounding_51 : decode cX1_fillSounding 51 = .ok (.getfield 18, 3) := by decide +kernel
theorem dX1_fillSounding_54 : decode cX1_fillSounding 54 = .ok (.getfield 54, 3) := by decide +kernel
theorem dX1_fillSounding_57 : decode cX1_fillSounding 57 = .ok (.iload_n 2, 1) := by decide +kernel
theorem dX1_fillSounding_58 : decode cX1_fillSounding 58 = .ok (.iaload, 1) := by decide +kernel
theorem dX1_fillSounding_59 : decode cX1_fillSounding 59 = .ok (.ior, 1) := by decide +kernel
theorem dX1_fillSounding_60 : decode cX1_fillSounding 60 = .ok (.goto 4, 3) := by decide +kernel
theorem dX1_fillSounding_63 : decode cX1_fillSounding 63 = .ok (.iconst 0, 1) := by decide +kernel
theorem dX1_fillSounding_64 : decode cX1_fillSounding 64 = .ok (.istore_n 1, 1) := by decide +kernel
theorem dX1_fillSounding_65 : decode cX1_fillSounding 65 = .ok (.iinc 2 1, 3) := by decide +kernel
theorem dX1_fillSounding_68 : decode cX1_fillSounding 68 = .ok (.goto (-64), 3) := by decide +kernel
theorem dX1_fillSounding_71 : decode cX1_fillSounding 71 = .ok (.return_, 1) := by decide +kernel
set_option maxRecDepth 20000 in
theorem ggX1_lastSoundAfter_X0_beginsAt : GoodIn wsX1_lastSoundAfter wsX0_beginsAt := goodIn_r _ [7, 8, 9, 10, 11, 16, 17] (by decide +kernel) (by decide +kernel)
set_option maxRecDepth 20000 in
theorem gX1_lastSoundAfter_X0_beginsAt : GoodIn wsX1_lastSoundAfter (wsV RX1 57 RX0 yX0_beginsAt wsX0_beginsAt) := goodIn_app (goodIn_of _ (by decide +kernel)) ggX1_lastSoundAfter_X0_beginsAt
theorem dX1_lastSoundAfter_0 : decode cX1_lastSoundAfter 0 = .ok (.iload_n 2, 1) := by decide +kernel
theorem dX1_lastSoundAfter_1 : decode cX1_lastSoundAfter 1 = .ok (.istore_n 3, 1) := by decide +kernel
theorem dX1_lastSoundAfter_2 : decode cX1_lastSoundAfter 2 = .ok (.iconst 0, 1) := by decide +kernel
theorem dX1_lastSoundAfter_3 : decode cX1_lastSoundAfter 3 = .ok (.istore 4, 2) := by decide +kernel
theorem dX1_lastSoundAfter_5 : decode cX1_lastSoundAfter 5 = .ok (.iload 4, 2) := by decide +kernel
theorem dX1_lastSoundAfter_7 : decode cX1_lastSoundAfter 7 = .ok (.bipush 96, 2) := by decide +kernel
theorem dX1_lastSoundAfter_9 : decode cX1_lastSoundAfter 9 = .ok (.if_icmp .ge 59, 3) := by decide +kernel
theorem dX1_lastSoundAfter_12 : decode cX1_lastSoundAfter 12 = .ok (.aload_n 0, 1) := by decide +kernel
theorem dX1_lastSoundAfter_13 : decode cX1_lastSoundAfter 13 = .ok (.getfield 25, 3) := by decide +kernel
theorem dX1_lastSoundAfter_16 : decode cX1_lastSoundAfter 16 = .ok (.iload 4, 2) := by decide +kernel
theorem dX1_lastSoundAfter_18 : decode cX1_lastSoundAfter 18 = .ok (.iaload, 1) := by decide +kernel
theorem dX1_lastSoundAfter_19 : decode cX1_lastSoundAfter 19 = .ok (.iload_n 1, 1) := by decide +kernel
theorem dX1_lastSoundAfter_20 : decode cX1_lastSoundAfter 20 = .ok (.ishr, 1) := by decide +kernel
theorem dX1_lastSoundAfter_21 : decode cX1_lastSoundAfter 21 = .ok (.iconst 1, 1) := by decide +kernel
theorem dX1_lastSoundAfter_22 : decode cX1_lastSoundAfter 22 = .ok (.iand, 1) := by decide +kernel
theorem dX1_lastSoundAfter_23 : decode cX1_lastSoundAfter 23 = .ok (.ifCond .eq 20, 3) := by decide +kernel
theorem dX1_lastSoundAfter_26 : decode cX1_lastSoundAfter 26 = .ok (.aload_n 0, 1) := by decide +kernel
theorem dX1_lastSoundAfter_27 : decode cX1_lastSoundAfter 27 = .ok (.getfield 18, 3) := by decide +kernel
theorem dX1_lastSoundAfter_30 : decode cX1_lastSoundAfter 30 = .ok (.iload_n 1, 1) := by decide +kernel
theorem dX1_lastSoundAfter_31 : decode cX1_lastSoundAfter 31 = .ok (.iload 4, 2) := by decide +kernel
theorem dX1_lastSoundAfter_33 : decode cX1_lastSoundAfter 33 = .ok (.invokevirtual 57, 3) := by decide +kernel
theorem dX1_lastSoundAfter_36 : decode cX1_lastSoundAfter 36 = .ok (.ifCond .ne 7, 3) := by decide +kernel
theorem dX1_lastSoundAfter_39 : decode cX1_lastSoundAfter 39 = .ok (.iconst 1, 1) := by decide +kernel
theorem dX1_lastSoundAfter_40 : decode cX1_lastSoundAfter 40 = .ok (.goto 4, 3) := by decide +kernel
theorem dX1_lastSoundAfter_43 : decode cX1_lastSoundAfter 43 = .ok (.iconst 0, 1) := by decide +kernel
theorem dX1_lastSoundAfter_44 : decode cX1_lastSoundAfter 44 = .ok (.istore 5, 2) := by decide +kernel
theorem dX1_lastSoundAfter_46 : decode cX1_lastSoundAfter 46 = .ok (.iload 4, 2) := by decide +kernel
theorem dX1_lastSoundAfter_48 : decode cX1_lastSoundAfter 48 = .ok (.iload_n 3, 1) := by decide +kernel
theorem dX1_lastSoundAfter_49 : decode cX1_lastSoundAfter 49 = .ok (.iconst 1, 1) := by decide +kernel
theorem dX1_lastSoundAfter_50 : decode cX1_lastSoundAfter 50 = .ok (.iadd, 1) := by decide +kernel
theorem dX1_lastSoundAfter_51 : decode cX1_lastSoundAfter 51 = .ok (.if_icmp .ne 11, 3) := by decide +kernel
theorem dX1_lastSoundAfter_54 : decode cX1_lastSoundAfter 54 = .ok (.iload 5, 2) := by decide +kernel
theorem dX1_lastSoundAfter_56 : decode cX1_lastSoundAfter 56 = .ok (.ifCond .eq 6, 3) := by decide +kernel
theorem dX1_lastSoundAfter_59 : decode cX1_lastSoundAfter 59 = .ok (.iload 4, 2) := by decide +kernel
theorem dX1_lastSoundAfter_61 : decode cX1_lastSoundAfter 61 = .ok (.istore_n 3, 1) := by decide +kernel
theorem dX1_lastSoundAfter_62 : decode cX1_lastSoundAfter 62 = .ok (.iinc 4 1, 3) := by decide +kernel
theorem dX1_lastSoundAfter_65 : decode cX1_lastSoundAfter 65 = .ok (.goto (-60), 3) := by decide +kernel
theorem dX1_lastSoundAfter_68 : decode cX1_lastSoundAfter 68 = .ok (.iload_n 3, 1) := by decide +kernel
theorem dX1_lastSoundAfter_69 : decode cX1_lastSoundAfter 69 = .ok (.ireturn, 1) := by decide +kernel
theorem dX1_holesRead_0 : decode cX1_holesRead 0 = .ok (.iconst 0, 1) := by decide +kernel
theorem dX1_holesRead_1 : decode cX1_holesRead 1 = .ok (.istore 4, 2) := by decide +kernel
theorem dX1_holesRead_3 : decode cX1_holesRead 3 = .ok (.iconst 0, 1) := by decide +kernel
theorem dX1_holesRead_4 : decode cX1_holesRead 4 = .ok (.istore 5, 2) := by decide +kernel
theorem dX1_holesRead_6 : decode cX1_holesRead 6 = .ok (.iload 5, 2) := by decide +kernel
theorem dX1_holesRead_8 : decode cX1_holesRead 8 = .ok (.bipush 96, 2) := by decide +kernel
theorem dX1_holesRead_10 : decode cX1_holesRead 10 = .ok (.if_icmp .ge 37, 3) := by decide +kernel
theorem dX1_holesRead_13 : decode cX1_holesRead 13 = .ok (.iload 5, 2) := by decide +kernel
theorem dX1_holesRead_15 : decode cX1_holesRead 15 = .ok (.iload_n 2, 1) := by decide +kernel
theorem dX1_holesRead_16 : decode cX1_holesRead 16 = .ok (.if_icmp .lt 25, 3) := by decide +kernel
theorem dX1_holesRead_19 : decode cX1_holesRead 19 = .ok (.iload 5, 2) := by decide +kernel
theorem dX1_holesRead_21 : decode cX1_holesRead 21 = .ok (.iload_n 3, 1) := by decide +kernel
theorem dX1_holesRead_22 : decode cX1_holesRead 22 = .ok (.if_icmp .gt 19, 3) := by decide +kernel
theorem dX1_holesRead_25 : decode cX1_holesRead 25 = .ok (.iload 4, 2) := by decide +kernel
theorem dX1_holesRead_27 : decode cX1_holesRead 27 = .ok (.aload_n 0, 1) := by decide +kernel
theorem dX1_holesRead_28 : decode cX1_holesRead 28 = .ok (.getfield 9, 3) := by decide +kernel
theorem dX1_holesRead_31 : decode cX1_holesRead 31 = .ok (.iload 5, 2) := by decide +kernel
theorem dX1_holesRead_33 : decode cX1_holesRead 33 = .ok (.iaload, 1) := by decide +kernel
theorem dX1_holesRead_34 : decode cX1_holesRead 34 = .ok (.iload_n 1, 1) := by decide +kernel
theorem dX1_holesRead_35 : decode cX1_holesRead 35 = .ok (.ishr, 1) := by decide +kernel
theorem dX1_holesRead_36 : decode cX1_holesRead 36 = .ok (.iconst 1, 1) := by decide +kernel
theorem dX1_holesRead_37 : decode cX1_holesRead 37 = .ok (.iand, 1) := by decide +kernel
theorem dX1_holesRead_38 : decode cX1_holesRead 38 = .ok (.iadd, 1) := by decide +kernel
theorem dX1_holesRead_39 : decode cX1_holesRead 39 = .ok (.istore 4, 2) := by decide +kernel
theorem dX1_holesRead_41 : decode cX1_holesRead 41 = .ok (.iinc 5 1, 3) := by decide +kernel
theorem dX1_holesRead_44 : decode cX1_holesRead 44 = .ok (.goto (-38), 3) := by decide +kernel
theorem dX1_holesRead_47 : decode cX1_holesRead 47 = .ok (.iload 4, 2) := by decide +kernel
theorem dX1_holesRead_49 : decode cX1_holesRead 49 = .ok (.ireturn, 1) := by decide +kernel
set_option maxRecDepth 20000 in
theorem ggX1_holesOfWrong_X0_beginsAt : GoodIn wsX1_holesOfWrong wsX0_beginsAt := goodIn_r _ [7, 8, 9, 10, 11, 33, 34] (by decide +kernel) (by decide +kernel)
set_option maxRecDepth 20000 in
theorem gX1_holesOfWrong_X0_beginsAt : GoodIn wsX1_holesOfWrong (wsV RX1 57 RX0 yX0_beginsAt wsX0_beginsAt) := goodIn_app (goodIn_of _ (by decide +kernel)) ggX1_holesOfWrong_X0_beginsAt
set_option maxRecDepth 20000 in
theorem ggX1_holesOfWrong_X0_lastStepFrom : GoodIn wsX1_holesOfWrong wsX0_lastStepFrom := goodIn_r _ [15, 16, 33, 34] (by decide +kernel) (by decide +kernel)
set_option maxRecDepth 20000 in
theorem gX1_holesOfWrong_X0_lastStepFrom : GoodIn wsX1_holesOfWrong (wsV RX1 61 RX0 yX0_lastStepFrom wsX0_lastStepFrom) := goodIn_app (goodIn_of _ (by decide +kernel)) ggX1_holesOfWrong_X0_lastStepFrom
set_option maxRecDepth 20000 in
theorem ggX1_holesOfWrong_X0_hasChain : GoodIn wsX1_holesOfWrong wsX0_hasChain := goodIn_r _ [20, 21, 4, 5, 6, 7, 8, 9, 10, 11, 22, 13, 14, 15, 16, 33, 34] (by decide +kernel) (by decide +kernel)
set_option maxRecDepth 20000 in
theorem gX1_holesOfWrong_X0_hasChain : GoodIn wsX1_holesOfWrong (wsV RX1 64 RX0 yX0_hasChain wsX0_hasChain) := goodIn_app (goodIn_of _ (by decide +kernel)) ggX1_holesOfWrong_X0_hasChain
set_option maxRecDepth 20000 in
theorem ggX1_holesOfWrong_X1_holesRead : GoodIn wsX1_holesOfWrong wsX1_holesRead := goodIn_r _ [27, 28, 29, 30, 31, 32] (by decide +kernel) (by decide +kernel)
set_option maxRecDepth 20000 in
theorem gX1_holesOfWrong_X1_holesRead : GoodIn wsX1_holesOfWrong (wsV RX1 68 RX1 yX1_holesRead wsX1_holesRead) := goodIn_app (goodIn_of _ (by decide +kernel)) ggX1_holesOfWrong_X1_holesRead
theorem dX1_holesOfWrong_0 : decode cX1_holesOfWrong 0 = .ok (.iconst 0, 1) := by decide +kernel
theorem dX1_holesOfWrong_1 : decode cX1_holesOfWrong 1 = .ok (.istore_n 2, 1) := by decide +kernel
theorem dX1_holesOfWrong_2 : decode cX1_holesOfWrong 2 = .ok (.iconst 0, 1) := by decide +kernel
theorem dX1_holesOfWrong_3 : decode cX1_holesOfWrong 3 = .ok (.istore_n 3, 1) := by decide +kernel
theorem dX1_holesOfWrong_4 : decode cX1_holesOfWrong 4 = .ok (.iload_n 3, 1) := by decide +kernel
theorem dX1_holesOfWrong_5 : decode cX1_holesOfWrong 5 = .ok (.bipush 96, 2) := by decide +kernel
theorem dX1_holesOfWrong_7 : decode cX1_holesOfWrong 7 = .ok (.if_icmp .ge 90, 3) := by decide +kernel
theorem dX1_holesOfWrong_10 : decode cX1_holesOfWrong 10 = .ok (.iconst 1, 1) := by decide +kernel
theorem dX1_holesOfWrong_11 : decode cX1_holesOfWrong 11 = .ok (.istore 4, 2) := by decide +kernel
theorem dX1_holesOfWrong_13 : decode cX1_holesOfWrong 13 = .ok (.iload 4, 2) := by decide +kernel
theorem dX1_holesOfWrong_15 : decode cX1_holesOfWrong 15 = .ok (.bipush 21, 2) := by decide +kernel
theorem dX1_holesOfWrong_17 : decode cX1_holesOfWrong 17 = .ok (.if_icmp .ge 74, 3) := by decide +kernel
theorem dX1_holesOfWrong_20 : decode cX1_holesOfWrong 20 = .ok (.aload_n 0, 1) := by decide +kernel
theorem dX1_holesOfWrong_21 : decode cX1_holesOfWrong 21 = .ok (.getfield 18, 3) := by decide +kernel
theorem dX1_holesOfWrong_24 : decode cX1_holesOfWrong 24 = .ok (.getfield 51, 3) := by decide +kernel
theorem dX1_holesOfWrong_27 : decode cX1_holesOfWrong 27 = .ok (.iload_n 3, 1) := by decide +kernel
theorem dX1_holesOfWrong_28 : decode cX1_holesOfWrong 28 = .ok (.iaload, 1) := by decide +kernel
theorem dX1_holesOfWrong_29 : decode cX1_holesOfWrong 29 = .ok (.ifCond .eq 62, 3) := by decide +kernel
theorem dX1_holesOfWrong_32 : decode cX1_holesOfWrong 32 = .ok (.aload_n 0, 1) := by decide +kernel
theorem dX1_holesOfWrong_33 : decode cX1_holesOfWrong 33 = .ok (.getfield 18, 3) := by decide +kernel
theorem dX1_holesOfWrong_36 : decode cX1_holesOfWrong 36 = .ok (.iload 4, 2) := by decide +kernel
theorem dX1_holesOfWrong_38 : decode cX1_holesOfWrong 38 = .ok (.iload_n 3, 1) := by decide +kernel
theorem dX1_holesOfWrong_39 : decode cX1_holesOfWrong 39 = .ok (.invokevirtual 57, 3) := by decide +kernel
theorem dX1_holesOfWrong_42 : decode cX1_holesOfWrong 42 = .ok (.ifCond .eq 43, 3) := by decide +kernel
theorem dX1_holesOfWrong_45 : decode cX1_holesOfWrong 45 = .ok (.aload_n 0, 1) := by decide +kernel
theorem dX1_holesOfWrong_46 : decode cX1_holesOfWrong 46 = .ok (.getfield 18, 3) := by decide +kernel
theorem dX1_holesOfWrong_49 : decode cX1_holesOfWrong 49 = .ok (.iload 4, 2) := by decide +kernel
theorem dX1_holesOfWrong_51 : decode cX1_holesOfWrong 51 = .ok (.iload_n 3, 1) := by decide +kernel
theorem dX1_holesOfWrong_52 : decode cX1_holesOfWrong 52 = .ok (.invokevirtual 61, 3) := by decide +kernel
theorem dX1_holesOfWrong_55 : decode cX1_holesOfWrong 55 = .ok (.istore 5, 2) := by decide +kernel
theorem dX1_holesOfWrong_57 : decode cX1_holesOfWrong 57 = .ok (.iload_n 2, 1) := by decide +kernel
theorem dX1_holesOfWrong_58 : decode cX1_holesOfWrong 58 = .ok (.aload_n 1, 1) := by decide +kernel
theorem dX1_holesOfWrong_59 : decode cX1_holesOfWrong 59 = .ok (.iload 4, 2) := by decide +kernel
theorem dX1_holesOfWrong_61 : decode cX1_holesOfWrong 61 = .ok (.iload_n 3, 1) := by decide +kernel
theorem dX1_holesOfWrong_62 : decode cX1_holesOfWrong 62 = .ok (.iload 5, 2) := by decide +kernel
theorem dX1_holesOfWrong_64 : decode cX1_holesOfWrong 64 = .ok (.invokevirtual 64, 3) := by decide +kernel
theorem dX1_holesOfWrong_67 : decode cX1_holesOfWrong 67 = .ok (.ifCond .eq 7, 3) := by decide +kernel
theorem dX1_holesOfWrong_70 : decode cX1_holesOfWrong 70 = .ok (.iconst 0, 1) := by decide +kernel
theorem dX1_holesOfWrong_71 : decode cX1_holesOfWrong 71 = .ok (.goto 12, 3) := by decide +kernel
theorem dX1_holesOfWrong_74 : decode cX1_holesOfWrong 74 = .ok (.aload_n 0, 1) := by decide +kernel
theorem dX1_holesOfWrong_75 : decode cX1_holesOfWrong 75 = .ok (.iload 4, 2) := by decide +kernel
theorem dX1_holesOfWrong_77 : decode cX1_holesOfWrong 77 = .ok (.iload_n 3, 1) := by decide +kernel
theorem dX1_holesOfWrong_78 : decode cX1_holesOfWrong 78 = .ok (.iload 5, 2) := by decide +kernel
theorem dX1_holesOfWrong_80 : decode cX1_holesOfWrong 80 = .ok (.invokevirtual 68, 3) := by decide +kernel
theorem dX1_holesOfWrong_83 : decode cX1_holesOfWrong 83 = .ok (.iadd, 1) := by decide +kernel
theorem dX1_holesOfWrong_84 : decode cX1_holesOfWrong 84 = .ok (.istore_n 2, 1) := by decide +kernel
theorem dX1_holesOfWrong_85 : decode cX1_holesOfWrong 85 = .ok (.iinc 4 1, 3) := by decide +kernel
theorem dX1_holesOfWrong_88 : decode cX1_holesOfWrong 88 = .ok (.goto (-75), 3) := by decide +kernel
theorem dX1_holesOfWrong_91 : decode cX1_holesOfWrong 91 = .ok (.iinc 3 1, 3) := by decide +kernel
theorem dX1_holesOfWrong_94 : decode cX1_holesOfWrong 94 = .ok (.goto (-90), 3) := by decide +kernel
theorem dX1_holesOfWrong_97 : decode cX1_holesOfWrong 97 = .ok (.iload_n 2, 1) := by decide +kernel
theorem dX1_holesOfWrong_98 : decode cX1_holesOfWrong 98 = .ok (.ireturn, 1) := by decide +kernel
set_option maxRecDepth 20000 in
theorem ggX1_isPedalWished_X6_isStep : GoodIn wsX1_isPedalWished wsX6_isStep := goodIn_r _ [7] (by decide +kernel) (by decide +kernel)
set_option maxRecDepth 20000 in
theorem gX1_isPedalWished_X6_isStep_n72 : GoodIn wsX1_isPedalWished (wsX6_isStep) := ggX1_isPedalWished_X6_isStep
theorem dX1_isPedalWished_0 : decode cX1_isPedalWished 0 = .ok (.iload_n 1, 1) := by decide +kernel
theorem dX1_isPedalWished_1 : decode cX1_isPedalWished 1 = .ok (.invokestatic 72, 3) := by decide +kernel
theorem dX1_isPedalWished_4 : decode cX1_isPedalWished 4 = .ok (.ifCond .eq 15, 3) := by decide +kernel
theorem dX1_isPedalWished_7 : decode cX1_isPedalWished 7 = .ok (.aload_n 0, 1) := by decide +kernel
theorem dX1_isPedalWished_8 : decode cX1_isPedalWished 8 = .ok (.getfield 22, 3) := by decide +kernel
theorem dX1_isPedalWished_11 : decode cX1_isPedalWished 11 = .ok (.iload_n 1, 1) := by decide +kernel
theorem dX1_isPedalWished_12 : decode cX1_isPedalWished 12 = .ok (.iaload, 1) := by decide +kernel
theorem dX1_isPedalWished_13 : decode cX1_isPedalWished 13 = .ok (.ldc 76, 2) := by decide +kernel
theorem dX1_isPedalWished_15 : decode cX1_isPedalWished 15 = .ok (.iand, 1) := by decide +kernel
theorem dX1_isPedalWished_16 : decode cX1_isPedalWished 16 = .ok (.ifCond .eq 5, 3) := by decide +kernel
theorem dX1_isPedalWished_19 : decode cX1_isPedalWished 19 = .ok (.iconst 0, 1) := by decide +kernel
theorem dX1_isPedalWished_20 : decode cX1_isPedalWished 20 = .ok (.ireturn, 1) := by decide +kernel
theorem dX1_isPedalWished_21 : decode cX1_isPedalWished 21 = .ok (.iconst 0, 1) := by decide +kernel
theorem dX1_isPedalWished_22 : decode cX1_isPedalWished 22 = .ok (.istore_n 3, 1) := by decide +kernel
theorem dX1_isPedalWished_23 : decode cX1_isPedalWished 23 = .ok (.iconst 0, 1) := by decide +kernel
theorem dX1_isPedalWished_24 : decode cX1_isPedalWished 24 = .ok (.istore 4, 2) := by decide +kernel
theorem dX1_isPedalWished_26 : decode cX1_isPedalWished 26 = .ok (.iconst 1, 1) := by decide +kernel
theorem dX1_isPedalWished_27 : decode cX1_isPedalWished 27 = .ok (.istore 5, 2) := by decide +kernel
theorem dX1_isPedalWished_29 : decode cX1_isPedalWished 29 = .ok (.iload 5, 2) := by decide +kernel
theorem dX1_isPedalWished_31 : decode cX1_isPedalWished 31 = .ok (.iload_n 2, 1) := by decide +kernel
theorem dX1_isPedalWished_32 : decode cX1_isPedalWished 32 = .ok (.if_icmp .gt 61, 3) := by decide +kernel
theorem dX1_isPedalWished_35 : decode cX1_isPedalWished 35 = .ok (.iload_n 3, 1) := by decide +kernel
theorem dX1_isPedalWished_36 : decode cX1_isPedalWished 36 = .ok (.iload_n 1, 1) := by decide +kernel
theorem dX1_isPedalWished_37 : decode cX1_isPedalWished 37 = .ok (.iload 5, 2) := by decide +kernel
theorem dX1_isPedalWished_39 : decode cX1_isPedalWished 39 = .ok (.if_icmp .lt 15, 3) := by decide +kernel
theorem dX1_isPedalWished_42 : decode cX1_isPedalWished 42 = .ok (.aload_n 0, 1) := by decide +kernel
theorem dX1_isPedalWished_43 : decode cX1_isPedalWished 43 = .ok (.getfield 22, 3) := by decide +kernel
theorem dX1_isPedalWished_46 : decode cX1_isPedalWished 46 = .ok (.iload_n 1, 1) := by decide +kernel
theorem dX1_isPedalWished_47 : decode cX1_isPedalWished 47 = .ok (.iload 5, 2) := by decide +kernel
theorem dX1_isPedalWished_49 : decode cX1_isPedalWished 49 = .ok (.isub, 1) := by decide +kernel
theorem dX1_isPedalWished_50 : decode cX1_isPedalWished 50 = .ok (.iaload, 1) := by decide +kernel
theorem dX1_isPedalWished_51 : decode cX1_isPedalWished 51 = .ok (.goto 4, 3) := by decide +kernel
theorem dX1_isPedalWished_54 : decode cX1_isPedalWished 54 = .ok (.iconst 0, 1) := by decide +kernel
theorem dX1_isPedalWished_55 : decode cX1_isPedalWished 55 = .ok (.ior, 1) := by decide +kernel
theorem dX1_isPedalWished_56 : decode cX1_isPedalWished 56 = .ok (.istore_n 3, 1) := by decide +kernel
theorem dX1_isPedalWished_57 : decode cX1_isPedalWished 57 = .ok (.iload 4, 2) := by decide +kernel
theorem dX1_isPedalWished_59 : decode cX1_isPedalWished 59 = .ok (.iload_n 1, 1) := by decide +kernel
theorem dX1_isPedalWished_60 : decode cX1_isPedalWished 60 = .ok (.iload 5, 2) := by decide +kernel
theorem dX1_isPedalWished_62 : decode cX1_isPedalWished 62 = .ok (.iadd, 1) := by decide +kernel
theorem dX1_isPedalWished_63 : decode cX1_isPedalWished 63 = .ok (.bipush 96, 2) := by decide +kernel
theorem dX1_isPedalWished_65 : decode cX1_isPedalWished 65 = .ok (.if_icmp .ge 18, 3) := by decide +kernel
theorem dX1_isPedalWished_68 : decode cX1_isPedalWished 68 = .ok (.aload_n 0, 1) := by decide +kernel
theorem dX1_isPedalWished_69 : decode cX1_isPedalWished 69 = .ok (.getfield 18, 3) := by decide +kernel
theorem dX1_isPedalWished_72 : decode cX1_isPedalWished 72 = .ok (.getfield 51, 3) := by decide +kernel
theorem dX1_isPedalWished_75 : decode cX1_isPedalWished 75 = .ok (.iload_n 1, 1) := by decide +kernel
theorem dX1_isPedalWished_76 : decode cX1_isPedalWished 76 = .ok (.iload 5, 2) := by decide +kernel
theorem dX1_isPedalWished_78 : decode cX1_isPedalWished 78 = .ok (.iadd, 1) := by decide +kernel
theorem dX1_isPedalWished_79 : decode cX1_isPedalWished 79 = .ok (.iaload, 1) := by decide +kernel
theorem dX1_isPedalWished_80 : decode cX1_isPedalWished 80 = .ok (.goto 4, 3) := by decide +kernel
theorem dX1_isPedalWished_83 : decode cX1_isPedalWished 83 = .ok (.iconst 0, 1) := by decide +kernel
theorem dX1_isPedalWished_84 : decode cX1_isPedalWished 84 = .ok (.ior, 1) := by decide +kernel
theorem dX1_isPedalWished_85 : decode cX1_isPedalWished 85 = .ok (.istore 4, 2) := by decide +kernel
theorem dX1_isPedalWished_87 : decode cX1_isPedalWished 87 = .ok (.iinc 5 1, 3) := by decide +kernel
theorem dX1_isPedalWished_90 : decode cX1_isPedalWished 90 = .ok (.goto (-61), 3) := by decide +kernel
theorem dX1_isPedalWished_93 : decode cX1_isPedalWished 93 = .ok (.iload_n 3, 1) := by decide +kernel
theorem dX1_isPedalWished_94 : decode cX1_isPedalWished 94 = .ok (.ldc 76, 2) := by decide +kernel
theorem dX1_isPedalWished_96 : decode cX1_isPedalWished 96 = .ok (.iand, 1) := by decide +kernel
theorem dX1_isPedalWished_97 : decode cX1_isPedalWished 97 = .ok (.ifCond .eq 15, 3) := by decide +kernel
theorem dX1_isPedalWished_100 : decode cX1_isPedalWished 100 = .ok (.iload 4, 2) := by decide +kernel
theorem dX1_isPedalWished_102 : decode cX1_isPedalWished 102 = .ok (.ldc 76, 2) := by decide +kernel
theorem dX1_isPedalWished_104 : decode cX1_isPedalWished 104 = .ok (.iand, 1) := by decide +kernel
theorem dX1_isPedalWished_105 : decode cX1_isPedalWished 105 = .ok (.ifCond .eq 7, 3) := by decide +kernel
theorem dX1_isPedalWished_108 : decode cX1_isPedalWished 108 = .ok (.iconst 1, 1) := by decide +kernel
theorem dX1_isPedalWished_109 : decode cX1_isPedalWished 109 = .ok (.goto 4, 3) := by decide +kernel
theorem dX1_isPedalWished_112 : decode cX1_isPedalWished 112 = .ok (.iconst 0, 1) := by decide +kernel
theorem dX1_isPedalWished_113 : decode cX1_isPedalWished 113 = .ok (.ireturn, 1) := by decide +kernel
set_option maxRecDepth 20000 in
theorem ggX1_stepsWished_X1_isPedalWished : GoodIn wsX1_stepsWished wsX1_isPedalWished := goodIn_r _ [5, 6, 7, 8, 9, 10, 11, 12, 13, 14, 15, 16, 17, 18] (by decide +kernel) (by decide +kernel)
set_option maxRecDepth 20000 in
theorem gX1_stepsWished_X1_isPedalWished : GoodIn wsX1_stepsWished (wsV RX1 77 RX1 yX1_isPedalWished wsX1_isPedalWished) := goodIn_app (goodIn_of _ (by decide +kernel)) ggX1_stepsWished_X1_isPedalWished
theorem dX1_stepsWished_0 : decode cX1_stepsWished 0 = .ok (.iconst 0, 1) := by decide +kernel
theorem dX1_stepsWished_1 : decode cX1_stepsWished 1 = .ok (.istore_n 2, 1) := by decide +kernel
theorem dX1_stepsWished_2 : decode cX1_stepsWished 2 = .ok (.iconst 0, 1) := by decide +kernel
theorem dX1_stepsWished_3 : decode cX1_stepsWished 3 = .ok (.istore_n 3, 1) := by decide +kernel
theorem dX1_stepsWished_4 : decode cX1_stepsWished 4 = .ok (.iload_n 3, 1) := by decide +kernel
theorem dX1_stepsWished_5 : decode cX1_stepsWished 5 = .ok (.bipush 96, 2) := by decide +kernel
theorem dX1_stepsWished_7 : decode cX1_stepsWished 7 = .ok (.if_icmp .ge 26, 3) := by decide +kernel
theorem dX1_stepsWished_10 : decode cX1_stepsWished 10 = .ok (.iload_n 2, 1) := by decide +kernel
theorem dX1_stepsWished_11 : decode cX1_stepsWished 11 = .ok (.aload_n 0, 1) := by decide +kernel
theorem dX1_stepsWished_12 : decode cX1_stepsWished 12 = .ok (.iload_n 3, 1) := by decide +kernel
theorem dX1_stepsWished_13 : decode cX1_stepsWished 13 = .ok (.iload_n 1, 1) := by decide +kernel
theorem dX1_stepsWished_14 : decode cX1_stepsWished 14 = .ok (.invokevirtual 77, 3) := by decide +kernel
theorem dX1_stepsWished_17 : decode cX1_stepsWished 17 = .ok (.ifCond .eq 7, 3) := by decide +kernel
theorem dX1_stepsWished_20 : decode cX1_stepsWished 20 = .ok (.iconst 1, 1) := by decide +kernel
theorem dX1_stepsWished_21 : decode cX1_stepsWished 21 = .ok (.goto 4, 3) := by decide +kernel
theorem dX1_stepsWished_24 : decode cX1_stepsWished 24 = .ok (.iconst 0, 1) := by decide +kernel
theorem dX1_stepsWished_25 : decode cX1_stepsWished 25 = .ok (.iadd, 1) := by decide +kernel
theorem dX1_stepsWished_26 : decode cX1_stepsWished 26 = .ok (.istore_n 2, 1) := by decide +kernel
theorem dX1_stepsWished_27 : decode cX1_stepsWished 27 = .ok (.iinc 3 1, 3) := by decide +kernel
theorem dX1_stepsWished_30 : decode cX1_stepsWished 30 = .ok (.goto (-26), 3) := by decide +kernel
theorem dX1_stepsWished_33 : decode cX1_stepsWished 33 = .ok (.iload_n 2, 1) := by decide +kernel
theorem dX1_stepsWished_34 : decode cX1_stepsWished 34 = .ok (.ireturn, 1) := by decide +kernel
theorem dX2_init_0 : decode cX2_init 0 = .ok (.aload_n 0, 1) := by decide +kernel
theorem dX2_init_1 : decode cX2_init 1 = .ok (.invokespecial 3, 3) := by decide +kernel
theorem dX2_init_4 : decode cX2_init 4 = .ok (.aload_n 0, 1) := by decide +kernel
theorem dX2_init_5 : decode cX2_init 5 = .ok (.bipush 60, 2) := by decide +kernel
theorem dX2_init_7 : decode cX2_init 7 = .ok (.newarray .int, 2) := by decide +kernel
theorem dX2_init_9 : decode cX2_init 9 = .ok (.putfield 9, 3) := by decide +kernel
theorem dX2_init_12 : decode cX2_init 12 = .ok (.aload_n 0, 1) := by decide +kernel
theorem dX2_init_13 : decode cX2_init 13 = .ok (.iconst 0, 1) := by decide +kernel
theorem dX2_init_14 : decode cX2_init 14 = .ok (.putfield 15, 3) := by decide +kernel
theorem dX2_init_17 : decode cX2_init 17 = .ok (.aload_n 0, 1) := by decide +kernel
theorem dX2_init_18 : decode cX2_init 18 = .ok (.bipush 60, 2) := by decide +kernel
theorem dX2_init_20 : decode cX2_init 20 = .ok (.newarray .int, 2) := by decide +kernel
theorem dX2_init_22 : decode cX2_init 22 = .ok (.putfield 19, 3) := by decide +kernel
theorem dX2_init_25 : decode cX2_init 25 = .ok (.aload_n 0, 1) := by decide +kernel
theorem dX2_init_26 : decode cX2_init 26 = .ok (.bipush 60, 2) := by decide +kernel
theorem dX2_init_28 : decode cX2_init 28 = .ok (.newarray .int, 2) := by decide +kernel
theorem dX2_init_30 : decode cX2_init 30 = .ok (.putfield 22, 3) := by decide +kernel
theorem dX2_init_33 : decode cX2_init 33 = .ok (.aload_n 0, 1) := by decide +kernel
theorem dX2_init_34 : decode cX2_init 34 = .ok (.bipush 60, 2) := by decide +kernel
theorem dX2_init_36 : decode cX2_init 36 = .ok (.newarray .int, 2) := by decide +kernel
theorem dX2_init_38 : decode cX2_init 38 = .ok (.putfield 25, 3) := by decide +kernel
theorem dX2_init_41 : decode cX2_init 41 = .ok (.aload_n 0, 1) := by decide +kernel
theorem dX2_init_42 : decode cX2_init 42 = .ok (.iconst 0, 1) := by decide +kernel
theorem dX2_init_43 : decode cX2_init 43 = .ok (.putfield 28, 3) := by decide +kernel
theorem dX2_init_46 : decode cX2_init 46 = .ok (.aload_n 0, 1) := by decide +kernel
theorem dX2_init_47 : decode cX2_init 47 = .ok (.iconst 0, 1) := by decide +kernel
theorem dX2_init_48 : decode cX2_init 48 = .ok (.putfield 31, 3) := by decide +kernel
theorem dX2_init_51 : decode cX2_init 51 = .ok (.aload_n 0, 1) := by decide +kernel
theorem dX2_init_52 : decode cX2_init 52 = .ok (.iconst (-1), 1) := by decide +kernel
theorem dX2_init_53 : decode cX2_init 53 = .ok (.putfield 34, 3) := by decide +kernel
theorem dX2_init_56 : decode cX2_init 56 = .ok (.aload_n 0, 1) := by decide +kernel
theorem dX2_init_57 : decode cX2_init 57 = .ok (.iconst 0, 1) := by decide +kernel
theorem dX2_init_58 : decode cX2_init 58 = .ok (.putfield 37, 3) := by decide +kernel
theorem dX2_init_61 : decode cX2_init 61 = .ok (.aload_n 0, 1) := by decide +kernel
theorem dX2_init_62 : decode cX2_init 62 = .ok (.iconst 0, 1) := by decide +kernel
theorem dX2_init_63 : decode cX2_init 63 = .ok (.putfield 40, 3) := by decide +kernel
theorem dX2_init_66 : decode cX2_init 66 = .ok (.return_, 1) := by decide +kernel
theorem dX2_isFull_0 : decode cX2_isFull 0 = .ok (.aload_n 0, 1) := by decide +kernel
theorem dX2_isFull_1 : decode cX2_isFull 1 = .ok (.getfield 15, 3) := by decide +kernel
theorem dX2_isFull_4 : decode cX2_isFull 4 = .ok (.aload_n 0, 1) := by decide +kernel
theorem dX2_isFull_5 : decode cX2_isFull 5 = .ok (.getfield 9, 3) := by decide +kernel
theorem dX2_isFull_8 : decode cX2_isFull 8 = .ok (.arraylength, 1) := by decide +kernel
theorem dX2_isFull_9 : decode cX2_isFull 9 = .ok (.if_icmp .lt 7, 3) := by decide +kernel
theorem dX2_isFull_12 : decode cX2_isFull 12 = .ok (.iconst 1, 1) := by decide +kernel
theorem dX2_isFull_13 : decode cX2_isFull 13 = .ok (.goto 4, 3) := by decide +kernel
theorem dX2_isFull_16 : decode cX2_isFull 16 = .ok (.iconst 0, 1) := by decide +kernel
theorem dX2_isFull_17 : decode cX2_isFull 17 = .ok (.ireturn, 1) := by decide +kernel
theorem dX2_add_0 : decode cX2_add 0 = .ok (.aload_n 0, 1) := by decide +kernel
theorem dX2_add_1 : decode cX2_add 1 = .ok (.getfield 15, 3) := by decide +kernel
theorem dX2_add_4 : decode cX2_add 4 = .ok (.ifCond .lt 35, 3) := by decide +kernel
theorem dX2_add_7 : decode cX2_add 7 = .ok (.aload_n 0, 1) := by decide +kernel
theorem dX2_add_8 : decode cX2_add 8 = .ok (.getfield 15, 3) := by decide +kernel
theorem dX2_add_11 : decode cX2_add 11 = .ok (.aload_n 0, 1) := by decide +kernel
theorem dX2_add_12 : decode cX2_add 12 = .ok (.getfield 9, 3) := by decide +kernel
theorem dX2_add_15 : decode cX2_add 15 = .ok (.arraylength, 1) := by decide +kernel
theorem dX2_add_16 : decode cX2_add 16 = .ok (.if_icmp .ge 23, 3) := by decide +kernel
theorem dX2_add_19 : decode cX2_add 19 = .ok (.aload_n 0, 1) := by decide +kernel
theorem dX2_add_20 : decode cX2_add 20 = .ok (.getfield 9, 3) := by decide +kernel
theorem dX2_add_23 : decode cX2_add 23 = .ok (.aload_n 0, 1) := by decide +kernel
theorem dX2_add_24 : decode cX2_add 24 = .ok (.getfield 15, 3) := by decide +kernel
theorem dX2_add_27 : decode cX2_add 27 = .ok (.iload_n 1, 1) := by decide +kernel
theorem dX2_add_28 : decode cX2_add 28 = .ok (.iastore, 1) := by decide +kernel
theorem dX2_add_29 : decode cX2_add 29 = .ok (.aload_n 0, 1) := by decide +kernel
theorem dX2_add_30 : decode cX2_add 30 = .ok (.dup, 1) := by decide +kernel
theorem dX2_add_31 : decode cX2_add 31 = .ok (.getfield 15, 3) := by decide +kernel
theorem dX2_add_34 : decode cX2_add 34 = .ok (.iconst 1, 1) := by decide +kernel
theorem dX2_add_35 : decode cX2_add 35 = .ok (.iadd, 1) := by decide +kernel
theorem dX2_add_36 : decode cX2_add 36 = .ok (.putfield 15, 3) := by decide +kernel
theorem dX2_add_39 : decode cX2_add 39 = .ok (.aload_n 0, 1) := by decide +kernel
theorem dX2_add_40 : decode cX2_add 40 = .ok (.getfield 15, 3) := by decide +kernel
theorem dX2_add_43 : decode cX2_add 43 = .ok (.ireturn, 1) := by decide +kernel
theorem dX2_empty_0 : decode cX2_empty 0 = .ok (.aload_n 0, 1) := by decide +kernel
theorem dX2_empty_1 : decode cX2_empty 1 = .ok (.getfield 15, 3) := by decide +kernel
theorem dX2_empty_4 : decode cX2_empty 4 = .ok (.istore_n 1, 1) := by decide +kernel
theorem dX2_empty_5 : decode cX2_empty 5 = .ok (.aload_n 0, 1) := by decide +kernel
theorem dX2_empty_6 : decode cX2_empty 6 = .ok (.iconst 0, 1) := by decide +kernel
theorem dX2_empty_7 : decode cX2_empty 7 = .ok (.putfield 15, 3) := by decide +kernel
theorem dX2_empty_10 : decode cX2_empty 10 = .ok (.iload_n 1, 1) := by decide +kernel
theorem dX2_empty_11 : decode cX2_empty 11 = .ok (.ireturn, 1) := by decide +kernel
set_option maxRecDepth 20000 in
theorem ggX2_readAll_X2_takes : GoodIn wsX2_readAll wsX2_takes := goodIn_r _ [10, 2, 3, 11, 12, 13, 9, 14, 15, 16, 17, 18, 19, 20, 21, 22, 23, 24, 25, 26, 27, 28, 29, 30, 31, 32, 33, 34, 1, 35, 36, 37, 38, 39, 40, 41, 42, 43, 44, 45, 46, 47] (by decide +kernel) (by decide +kernel)
set_option maxRecDepth 20000 in
theorem gX2_readAll_X2_takes : GoodIn wsX2_readAll (wsV RX2 43 RX2 yX2_takes wsX2_takes) := goodIn_app (goodIn_of _ (by decide +kernel)) ggX2_readAll_X2_takes
theorem dX2_readAll_0 : decode cX2_readAll 0 = .ok (.aload_n 0, 1) := by decide +kernel
theorem dX2_readAll_1 : decode cX2_readAll 1 = .ok (.iconst 0, 1) := by decide +kernel
theorem dX2_readAll_2 : decode cX2_readAll 2 = .ok (.putfield 28, 3) := by decide +kernel
theorem dX2_readAll_5 : decode cX2_readAll 5 = .ok (.aload_n 0, 1) := by decide +kernel
theorem dX2_readAll_6 : decode cX2_readAll 6 = .ok (.iconst 0, 1) := by decide +kernel
theorem dX2_readAll_7 : decode cX2_readAll 7 = .ok (.putfield 31, 3) := by decide +kernel
theorem dX2_readAll_10 : decode cX2_readAll 10 = .ok (.aload_n 0, 1) := by decide +kernel
theorem dX2_readAll_11 : decode cX2_readAll 11 = .ok (.iconst (-1), 1) := by decide +kernel
theorem dX2_readAll_12 : decode cX2_readAll 12 = .ok (.putfield 34, 3) := by decide +kernel
theorem dX2_readAll_15 : decode cX2_readAll 15 = .ok (.iconst 0, 1) := by decide +kernel
theorem dX2_readAll_16 : decode cX2_readAll 16 = .ok (.istore_n 1, 1) := by decide +kernel
theorem dX2_readAll_17 : decode cX2_readAll 17 = .ok (.iload_n 1, 1) := by decide +kernel
theorem dX2_readAll_18 : decode cX2_readAll 18 = .ok (.aload_n 0, 1) := by decide +kernel
theorem dX2_readAll_19 : decode cX2_readAll 19 = .ok (.getfield 15, 3) := by decide +kernel
theorem dX2_readAll_22 : decode cX2_readAll 22 = .ok (.if_icmp .ge 33, 3) := by decide +kernel
theorem dX2_readAll_25 : decode cX2_readAll 25 = .ok (.iload_n 1, 1) := by decide +kernel
theorem dX2_readAll_26 : decode cX2_readAll 26 = .ok (.aload_n 0, 1) := by decide +kernel
theorem dX2_readAll_27 : decode cX2_readAll 27 = .ok (.getfield 9, 3) := by decide +kernel
theorem dX2_readAll_30 : decode cX2_readAll 30 = .ok (.arraylength, 1) := by decide +kernel
theorem dX2_readAll_31 : decode cX2_readAll 31 = .ok (.if_icmp .ge 24, 3) := by decide +kernel
theorem dX2_readAll_34 : decode cX2_readAll 34 = .ok (.aload_n 0, 1) := by decide +kernel
theorem dX2_readAll_35 : decode cX2_readAll 35 = .ok (.aload_n 0, 1) := by decide +kernel
theorem dX2_readAll_36 : decode cX2_readAll 36 = .ok (.getfield 9, 3) := by decide +kernel
theorem dX2_readAll_39 : decode cX2_readAll 39 = .ok (.iload_n 1, 1) := by decide +kernel
theorem dX2_readAll_40 : decode cX2_readAll 40 = .ok (.iaload, 1) := by decide +kernel
theorem dX2_readAll_41 : decode cX2_readAll 41 = .ok (.invokevirtual 43, 3) := by decide +kernel
theorem dX2_readAll_44 : decode cX2_readAll 44 = .ok (.ifCond .ne 5, 3) := by decide +kernel
theorem dX2_readAll_47 : decode cX2_readAll 47 = .ok (.iload_n 1, 1) := by decide +kernel
theorem dX2_readAll_48 : decode cX2_readAll 48 = .ok (.ireturn, 1) := by decide +kernel
theorem dX2_readAll_49 : decode cX2_readAll 49 = .ok (.iinc 1 1, 3) := by decide +kernel
theorem dX2_readAll_52 : decode cX2_readAll 52 = .ok (.goto (-35), 3) := by decide +kernel
theorem dX2_readAll_55 : decode cX2_readAll 55 = .ok (.aload_n 0, 1) := by decide +kernel
theorem dX2_readAll_56 : decode cX2_readAll 56 = .ok (.getfield 15, 3) := by decide +kernel
theorem dX2_readAll_59 : decode cX2_readAll 59 = .ok (.ireturn, 1) := by decide +kernel
set_option maxRecDepth 20000 in
theorem ggX2_readRow_X2_readAll : GoodIn wsX2_readRow wsX2_readAll := goodIn_r _ [8, 9, 2, 3, 1, 10, 11, 12, 13, 7, 14, 15, 16, 17, 18, 19, 20, 21, 22, 23, 24, 25, 26, 27, 28, 29, 30, 31, 32, 33, 34, 35, 36, 37, 38, 39, 40, 41, 42, 43, 44, 45, 46, 47, 48, 49, 50, 51] (by decide +kernel) (by decide +kernel)
set_option maxRecDepth 20000 in
theorem gX2_readRow_X2_readAll : GoodIn wsX2_readRow (wsV RX2 47 RX2 yX2_readAll wsX2_readAll) := goodIn_app (goodIn_of _ (by decide +kernel)) ggX2_readRow_X2_readAll
set_option maxRecDepth 20000 in
theorem ggX2_readRow_X2_keepPart : GoodIn wsX2_readRow wsX2_keepPart := goodIn_r _ [38, 9, 39, 40, 33, 41, 34, 3, 42, 43, 44, 45, 46, 47, 48, 49, 50, 51] (by decide +kernel) (by decide +kernel)
set_option maxRecDepth 20000 in
theorem gX2_readRow_X2_keepPart : GoodIn wsX2_readRow (wsV RX2 51 RX2 yX2_keepPart wsX2_keepPart) := goodIn_app (goodIn_of _ (by decide +kernel)) ggX2_readRow_X2_keepPart
theorem dX2_readRow_0 : decode cX2_readRow 0 = .ok (.aload_n 0, 1) := by decide +kernel
theorem dX2_readRow_1 : decode cX2_readRow 1 = .ok (.invokevirtual 47, 3) := by decide +kernel
theorem dX2_readRow_4 : decode cX2_readRow 4 = .ok (.aload_n 0, 1) := by decide +kernel
theorem dX2_readRow_5 : decode cX2_readRow 5 = .ok (.getfield 15, 3) := by decide +kernel
theorem dX2_readRow_8 : decode cX2_readRow 8 = .ok (.if_icmp .lt 19, 3) := by decide +kernel
theorem dX2_readRow_11 : decode cX2_readRow 11 = .ok (.aload_n 0, 1) := by decide +kernel
theorem dX2_readRow_12 : decode cX2_readRow 12 = .ok (.getfield 31, 3) := by decide +kernel
theorem dX2_readRow_15 : decode cX2_readRow 15 = .ok (.iconst 2, 1) := by decide +kernel
theorem dX2_readRow_16 : decode cX2_readRow 16 = .ok (.if_icmp .ne 11, 3) := by decide +kernel
theorem dX2_readRow_19 : decode cX2_readRow 19 = .ok (.aload_n 0, 1) := by decide +kernel
theorem dX2_readRow_20 : decode cX2_readRow 20 = .ok (.getfield 34, 3) := by decide +kernel
theorem dX2_readRow_23 : decode cX2_readRow 23 = .ok (.iconst (-1), 1) := by decide +kernel
theorem dX2_readRow_24 : decode cX2_readRow 24 = .ok (.if_icmp .ne 5, 3) := by decide +kernel
theorem dX2_readRow_27 : decode cX2_readRow 27 = .ok (.iconst 0, 1) := by decide +kernel
theorem dX2_readRow_28 : decode cX2_readRow 28 = .ok (.ireturn, 1) := by decide +kernel
theorem dX2_readRow_29 : decode cX2_readRow 29 = .ok (.aload_n 0, 1) := by decide +kernel
theorem dX2_readRow_30 : decode cX2_readRow 30 = .ok (.invokevirtual 51, 3) := by decide +kernel
theorem dX2_readRow_33 : decode cX2_readRow 33 = .ok (.iconst 1, 1) := by decide +kernel
theorem dX2_readRow_34 : decode cX2_readRow 34 = .ok (.ireturn, 1) := by decide +kernel
set_option maxRecDepth 20000 in
theorem ggX2_takes_X2_takesDigit : GoodIn wsX2_takes wsX2_takesDigit := goodIn_r _ [7, 2, 1, 8, 9, 6, 10, 32, 33, 34, 35, 36, 37, 38, 39, 40, 41] (by decide +kernel) (by decide +kernel)
set_option maxRecDepth 20000 in
theorem gX2_takes_X2_takesDigit : GoodIn wsX2_takes (wsV RX2 54 RX2 yX2_takesDigit wsX2_takesDigit) := goodIn_app (goodIn_of _ (by decide +kernel)) ggX2_takes_X2_takesDigit
set_option maxRecDepth 20000 in
theorem ggX2_takes_X2_takesPedal : GoodIn wsX2_takes wsX2_takesPedal := goodIn_r _ [14, 1, 2, 32, 33, 34, 35, 36, 37, 38, 39, 40, 41] (by decide +kernel) (by decide +kernel)
set_option maxRecDepth 20000 in
theorem gX2_takes_X2_takesPedal : GoodIn wsX2_takes (wsV RX2 57 RX2 yX2_takesPedal wsX2_takesPedal) := goodIn_app (goodIn_of _ (by decide +kernel)) ggX2_takes_X2_takesPedal
set_option maxRecDepth 20000 in
theorem ggX2_takes_X2_signAfter : GoodIn wsX2_takes wsX2_signAfter := goodIn_r _ [17] (by decide +kernel) (by decide +kernel)
set_option maxRecDepth 20000 in
theorem gX2_takes_X2_signAfter : GoodIn wsX2_takes (va_wsS RX2 61 yX2_signAfter wsX2_signAfter) := goodIn_app (goodIn_of _ (by decide +kernel)) ggX2_takes_X2_signAfter
set_option maxRecDepth 20000 in
theorem ggX2_takes_X2_goesOn : GoodIn wsX2_takes wsX2_goesOn := goodIn_r _ [21, 1, 2, 22, 23, 24, 25, 26, 6, 27, 28, 29, 30, 31, 32, 33, 34, 35, 36, 37, 38, 39, 40, 41] (by decide +kernel) (by decide +kernel)
set_option maxRecDepth 20000 in
theorem gX2_takes_X2_goesOn : GoodIn wsX2_takes (wsV RX2 65 RX2 yX2_goesOn wsX2_goesOn) := goodIn_app (goodIn_of _ (by decide +kernel)) ggX2_takes_X2_goesOn
theorem dX2_takes_0 : decode cX2_takes 0 = .ok (.iload_n 1, 1) := by decide +kernel
theorem dX2_takes_1 : decode cX2_takes 1 = .ok (.bipush 48, 2) := by decide +kernel
theorem dX2_takes_3 : decode cX2_takes 3 = .ok (.if_icmp .lt 18, 3) := by decide +kernel
theorem dX2_takes_6 : decode cX2_takes 6 = .ok (.iload_n 1, 1) := by decide +kernel
theorem dX2_takes_7 : decode cX2_takes 7 = .ok (.bipush 57, 2) := by decide +kernel
theorem dX2_takes_9 : decode cX2_takes 9 = .ok (.if_icmp .gt 12, 3) := by decide +kernel
theorem dX2_takes_12 : decode cX2_takes 12 = .ok (.aload_n 0, 1) := by decide +kernel
theorem dX2_takes_13 : decode cX2_takes 13 = .ok (.iload_n 1, 1) := by decide +kernel
theorem dX2_takes_14 : decode cX2_takes 14 = .ok (.bipush 48, 2) := by decide +kernel
theorem dX2_takes_16 : decode cX2_takes 16 = .ok (.isub, 1) := by decide +kernel
theorem dX2_takes_17 : decode cX2_takes 17 = .ok (.invokevirtual 54, 3) := by decide +kernel
theorem dX2_takes_20 : decode cX2_takes 20 = .ok (.ireturn, 1) := by decide +kernel
theorem dX2_takes_21 : decode cX2_takes 21 = .ok (.iload_n 1, 1) := by decide +kernel
theorem dX2_takes_22 : decode cX2_takes 22 = .ok (.bipush 112, 2) := by decide +kernel
theorem dX2_takes_24 : decode cX2_takes 24 = .ok (.if_icmp .ne 8, 3) := by decide +kernel
theorem dX2_takes_27 : decode cX2_takes 27 = .ok (.aload_n 0, 1) := by decide +kernel
theorem dX2_takes_28 : decode cX2_takes 28 = .ok (.invokevirtual 57, 3) := by decide +kernel
theorem dX2_takes_31 : decode cX2_takes 31 = .ok (.ireturn, 1) := by decide +kernel
theorem dX2_takes_32 : decode cX2_takes 32 = .ok (.iload_n 1, 1) := by decide +kernel
theorem dX2_takes_33 : decode cX2_takes 33 = .ok (.aload_n 0, 1) := by decide +kernel
theorem dX2_takes_34 : decode cX2_takes 34 = .ok (.getfield 31, 3) := by decide +kernel
theorem dX2_takes_37 : decode cX2_takes 37 = .ok (.invokestatic 61, 3) := by decide +kernel
theorem dX2_takes_40 : decode cX2_takes 40 = .ok (.if_icmp .ne 22, 3) := by decide +kernel
theorem dX2_takes_43 : decode cX2_takes 43 = .ok (.aload_n 0, 1) := by decide +kernel
theorem dX2_takes_44 : decode cX2_takes 44 = .ok (.getfield 34, 3) := by decide +kernel
theorem dX2_takes_47 : decode cX2_takes 47 = .ok (.iconst (-1), 1) := by decide +kernel
theorem dX2_takes_48 : decode cX2_takes 48 = .ok (.if_icmp .eq 14, 3) := by decide +kernel
theorem dX2_takes_51 : decode cX2_takes 51 = .ok (.aload_n 0, 1) := by decide +kernel
theorem dX2_takes_52 : decode cX2_takes 52 = .ok (.invokevirtual 65, 3) := by decide +kernel
theorem dX2_takes_55 : decode cX2_takes 55 = .ok (.ifCond .eq 7, 3) := by decide +kernel
theorem dX2_takes_58 : decode cX2_takes 58 = .ok (.iconst 1, 1) := by decide +kernel
theorem dX2_takes_59 : decode cX2_takes 59 = .ok (.goto 4, 3) := by decide +kernel
theorem dX2_takes_62 : decode cX2_takes 62 = .ok (.iconst 0, 1) := by decide +kernel
theorem dX2_takes_63 : decode cX2_takes 63 = .ok (.ireturn, 1) := by decide +kernel
set_option maxRecDepth 20000 in
theorem ggX2_takesDigit_X2_largestOf : GoodIn wsX2_takesDigit wsX2_largestOf := goodIn_r _ [6] (by decide +kernel) (by decide +kernel)
set_option maxRecDepth 20000 in
theorem gX2_takesDigit_X2_largestOf : GoodIn wsX2_takesDigit (va_wsS RX2 68 yX2_largestOf wsX2_largestOf) := goodIn_app (goodIn_of _ (by decide +kernel)) ggX2_takesDigit_X2_largestOf
theorem dX2_takesDigit_0 : decode cX2_takesDigit 0 = .ok (.aload_n 0, 1) := by decide +kernel
theorem dX2_takesDigit_1 : decode cX2_takesDigit 1 = .ok (.getfield 34, 3) := by decide +kernel
theorem dX2_takesDigit_4 : decode cX2_takesDigit 4 = .ok (.ifCond .eq 12, 3) := by decide +kernel
theorem dX2_takesDigit_7 : decode cX2_takesDigit 7 = .ok (.aload_n 0, 1) := by decide +kernel
theorem dX2_takesDigit_8 : decode cX2_takesDigit 8 = .ok (.getfield 34, 3) := by decide +kernel
theorem dX2_takesDigit_11 : decode cX2_takesDigit 11 = .ok (.bipush (-2), 2) := by decide +kernel
theorem dX2_takesDigit_13 : decode cX2_takesDigit 13 = .ok (.if_icmp .ne 5, 3) := by decide +kernel
theorem dX2_takesDigit_16 : decode cX2_takesDigit 16 = .ok (.iconst 0, 1) := by decide +kernel
theorem dX2_takesDigit_17 : decode cX2_takesDigit 17 = .ok (.ireturn, 1) := by decide +kernel
theorem dX2_takesDigit_18 : decode cX2_takesDigit 18 = .ok (.aload_n 0, 1) := by decide +kernel
theorem dX2_takesDigit_19 : decode cX2_takesDigit 19 = .ok (.getfield 34, 3) := by decide +kernel
theorem dX2_takesDigit_22 : decode cX2_takesDigit 22 = .ok (.iconst (-1), 1) := by decide +kernel
theorem dX2_takesDigit_23 : decode cX2_takesDigit 23 = .ok (.if_icmp .ne 7, 3) := by decide +kernel
theorem dX2_takesDigit_26 : decode cX2_takesDigit 26 = .ok (.iload_n 1, 1) := by decide +kernel
theorem dX2_takesDigit_27 : decode cX2_takesDigit 27 = .ok (.goto 12, 3) := by decide +kernel
theorem dX2_takesDigit_30 : decode cX2_takesDigit 30 = .ok (.aload_n 0, 1) := by decide +kernel
theorem dX2_takesDigit_31 : decode cX2_takesDigit 31 = .ok (.getfield 34, 3) := by decide +kernel
theorem dX2_takesDigit_34 : decode cX2_takesDigit 34 = .ok (.bipush 10, 2) := by decide +kernel
theorem dX2_takesDigit_36 : decode cX2_takesDigit 36 = .ok (.imul, 1) := by decide +kernel
theorem dX2_takesDigit_37 : decode cX2_takesDigit 37 = .ok (.iload_n 1, 1) := by decide +kernel
theorem dX2_takesDigit_38 : decode cX2_takesDigit 38 = .ok (.iadd, 1) := by decide +kernel
theorem dX2_takesDigit_39 : decode cX2_takesDigit 39 = .ok (.istore_n 2, 1) := by decide +kernel
theorem dX2_takesDigit_40 : decode cX2_takesDigit 40 = .ok (.iload_n 2, 1) := by decide +kernel
theorem dX2_takesDigit_41 : decode cX2_takesDigit 41 = .ok (.aload_n 0, 1) := by decide +kernel
theorem dX2_takesDigit_42 : decode cX2_takesDigit 42 = .ok (.getfield 31, 3) := by decide +kernel
theorem dX2_takesDigit_45 : decode cX2_takesDigit 45 = .ok (.invokestatic 68, 3) := by decide +kernel
theorem dX2_takesDigit_48 : decode cX2_takesDigit 48 = .ok (.if_icmp .gt 15, 3) := by decide +kernel
theorem dX2_takesDigit_51 : decode cX2_takesDigit 51 = .ok (.iload_n 2, 1) := by decide +kernel
theorem dX2_takesDigit_52 : decode cX2_takesDigit 52 = .ok (.ifCond .ne 13, 3) := by decide +kernel
theorem dX2_takesDigit_55 : decode cX2_takesDigit 55 = .ok (.aload_n 0, 1) := by decide +kernel
theorem dX2_takesDigit_56 : decode cX2_takesDigit 56 = .ok (.getfield 31, 3) := by decide +kernel
theorem dX2_takesDigit_59 : decode cX2_takesDigit 59 = .ok (.iconst 2, 1) := by decide +kernel
theorem dX2_takesDigit_60 : decode cX2_takesDigit 60 = .ok (.if_icmp .ne 5, 3) := by decide +kernel
theorem dX2_takesDigit_63 : decode cX2_takesDigit 63 = .ok (.iconst 0, 1) := by decide +kernel
theorem dX2_takesDigit_64 : decode cX2_takesDigit 64 = .ok (.ireturn, 1) := by decide +kernel
theorem dX2_takesDigit_65 : decode cX2_takesDigit 65 = .ok (.aload_n 0, 1) := by decide +kernel
theorem dX2_takesDigit_66 : decode cX2_takesDigit 66 = .ok (.iload_n 2, 1) := by decide +kernel
theorem dX2_takesDigit_67 : decode cX2_takesDigit 67 = .ok (.putfield 34, 3) := by decide +kernel
theorem dX2_takesDigit_70 : decode cX2_takesDigit 70 = .ok (.iconst 1, 1) := by decide +kernel
theorem dX2_takesDigit_71 : decode cX2_takesDigit 71 = .ok (.ireturn, 1) := by decide +kernel
theorem dX2_takesPedal_0 : decode cX2_takesPedal 0 = .ok (.aload_n 0, 1) := by decide +kernel
theorem dX2_takesPedal_1 : decode cX2_takesPedal 1 = .ok (.getfield 31, 3) := by decide +kernel
theorem dX2_takesPedal_4 : decode cX2_takesPedal 4 = .ok (.ifCond .ne 11, 3) := by decide +kernel
theorem dX2_takesPedal_7 : decode cX2_takesPedal 7 = .ok (.aload_n 0, 1) := by decide +kernel
theorem dX2_takesPedal_8 : decode cX2_takesPedal 8 = .ok (.getfield 34, 3) := by decide +kernel
theorem dX2_takesPedal_11 : decode cX2_takesPedal 11 = .ok (.iconst (-1), 1) := by decide +kernel
theorem dX2_takesPedal_12 : decode cX2_takesPedal 12 = .ok (.if_icmp .eq 5, 3) := by decide +kernel
theorem dX2_takesPedal_15 : decode cX2_takesPedal 15 = .ok (.iconst 0, 1) := by decide +kernel
theorem dX2_takesPedal_16 : decode cX2_takesPedal 16 = .ok (.ireturn, 1) := by decide +kernel
theorem dX2_takesPedal_17 : decode cX2_takesPedal 17 = .ok (.aload_n 0, 1) := by decide +kernel
theorem dX2_takesPedal_18 : decode cX2_takesPedal 18 = .ok (.bipush (-2), 2) := by decide +kernel
theorem dX2_takesPedal_20 : decode cX2_takesPedal 20 = .ok (.putfield 34, 3) := by decide +kernel
theorem dX2_takesPedal_23 : decode cX2_takesPedal 23 = .ok (.iconst 1, 1) := by decide +kernel
theorem dX2_takesPedal_24 : decode cX2_takesPedal 24 = .ok (.ireturn, 1) := by decide +kernel
set_option maxRecDepth 20000 in
theorem ggX2_goesOn_X2_keepPart : GoodIn wsX2_goesOn wsX2_keepPart := goodIn_r _ [9, 10, 11, 12, 3, 13, 4, 2, 14, 15, 16, 17, 18, 19, 20, 21, 22, 23] (by decide +kernel) (by decide +kernel)
set_option maxRecDepth 20000 in
theorem gX2_goesOn_X2_keepPart : GoodIn wsX2_goesOn (wsV RX2 51 RX2 yX2_keepPart wsX2_keepPart) := goodIn_app (goodIn_of _ (by decide +kernel)) ggX2_goesOn_X2_keepPart
theorem dX2_goesOn_0 : decode cX2_goesOn 0 = .ok (.aload_n 0, 1) := by decide +kernel
theorem dX2_goesOn_1 : decode cX2_goesOn 1 = .ok (.getfield 31, 3) := by decide +kernel
theorem dX2_goesOn_4 : decode cX2_goesOn 4 = .ok (.lookupswitch 75 #[(0, 28), (1, 59)], 28) := by decide +kernel
theorem dX2_goesOn_32 : decode cX2_goesOn 32 = .ok (.aload_n 0, 1) := by decide +kernel
theorem dX2_goesOn_33 : decode cX2_goesOn 33 = .ok (.aload_n 0, 1) := by decide +kernel
theorem dX2_goesOn_34 : decode cX2_goesOn 34 = .ok (.getfield 34, 3) := by decide +kernel
theorem dX2_goesOn_37 : decode cX2_goesOn 37 = .ok (.bipush (-2), 2) := by decide +kernel
theorem dX2_goesOn_39 : decode cX2_goesOn 39 = .ok (.if_icmp .ne 7, 3) := by decide +kernel
theorem dX2_goesOn_42 : decode cX2_goesOn 42 = .ok (.iconst 0, 1) := by decide +kernel
theorem dX2_goesOn_43 : decode cX2_goesOn 43 = .ok (.goto 9, 3) := by decide +kernel
theorem dX2_goesOn_46 : decode cX2_goesOn 46 = .ok (.aload_n 0, 1) := by decide +kernel
theorem dX2_goesOn_47 : decode cX2_goesOn 47 = .ok (.getfield 34, 3) := by decide +kernel
theorem dX2_goesOn_50 : decode cX2_goesOn 50 = .ok (.iconst 1, 1) := by decide +kernel
theorem dX2_goesOn_51 : decode cX2_goesOn 51 = .ok (.iadd, 1) := by decide +kernel
theorem dX2_goesOn_52 : decode cX2_goesOn 52 = .ok (.putfield 37, 3) := by decide +kernel
theorem dX2_goesOn_55 : decode cX2_goesOn 55 = .ok (.aload_n 0, 1) := by decide +kernel
theorem dX2_goesOn_56 : decode cX2_goesOn 56 = .ok (.iconst 1, 1) := by decide +kernel
theorem dX2_goesOn_57 : decode cX2_goesOn 57 = .ok (.putfield 31, 3) := by decide +kernel
theorem dX2_goesOn_60 : decode cX2_goesOn 60 = .ok (.goto 28, 3) := by decide +kernel
theorem dX2_goesOn_63 : decode cX2_goesOn 63 = .ok (.aload_n 0, 1) := by decide +kernel
theorem dX2_goesOn_64 : decode cX2_goesOn 64 = .ok (.aload_n 0, 1) := by decide +kernel
theorem dX2_goesOn_65 : decode cX2_goesOn 65 = .ok (.getfield 34, 3) := by decide +kernel
theorem dX2_goesOn_68 : decode cX2_goesOn 68 = .ok (.putfield 40, 3) := by decide +kernel
theorem dX2_goesOn_71 : decode cX2_goesOn 71 = .ok (.aload_n 0, 1) := by decide +kernel
theorem dX2_goesOn_72 : decode cX2_goesOn 72 = .ok (.iconst 2, 1) := by decide +kernel
theorem dX2_goesOn_73 : decode cX2_goesOn 73 = .ok (.putfield 31, 3) := by decide +kernel
theorem dX2_goesOn_76 : decode cX2_goesOn 76 = .ok (.goto 12, 3) := by decide +kernel
theorem dX2_goesOn_79 : decode cX2_goesOn 79 = .ok (.aload_n 0, 1) := by decide +kernel
theorem dX2_goesOn_80 : decode cX2_goesOn 80 = .ok (.invokevirtual 51, 3) := by decide +kernel
theorem dX2_goesOn_83 : decode cX2_goesOn 83 = .ok (.aload_n 0, 1) := by decide +kernel
theorem dX2_goesOn_84 : decode cX2_goesOn 84 = .ok (.iconst 0, 1) := by decide +kernel
theorem dX2_goesOn_85 : decode cX2_goesOn 85 = .ok (.putfield 31, 3) := by decide +kernel
theorem dX2_goesOn_88 : decode cX2_goesOn 88 = .ok (.aload_n 0, 1) := by decide +kernel
theorem dX2_goesOn_89 : decode cX2_goesOn 89 = .ok (.iconst (-1), 1) := by decide +kernel
theorem dX2_goesOn_90 : decode cX2_goesOn 90 = .ok (.putfield 34, 3) := by decide +kernel
theorem dX2_goesOn_93 : decode cX2_goesOn 93 = .ok (.iconst 1, 1) := by decide +kernel
theorem dX2_goesOn_94 : decode cX2_goesOn 94 = .ok (.ireturn, 1) := by decide +kernel
theorem dX2_keepPart_0 : decode cX2_keepPart 0 = .ok (.aload_n 0, 1) := by decide +kernel
theorem dX2_keepPart_1 : decode cX2_keepPart 1 = .ok (.getfield 28, 3) := by decide +kernel
theorem dX2_keepPart_4 : decode cX2_keepPart 4 = .ok (.ifCond .lt 64, 3) := by decide +kernel
theorem dX2_keepPart_7 : decode cX2_keepPart 7 = .ok (.aload_n 0, 1) := by decide +kernel
theorem dX2_keepPart_8 : decode cX2_keepPart 8 = .ok (.getfield 28, 3) := by decide +kernel
theorem dX2_keepPart_11 : decode cX2_keepPart 11 = .ok (.aload_n 0, 1) := by decide +kernel
theorem dX2_keepPart_12 : decode cX2_keepPart 12 = .ok (.getfield 25, 3) := by decide +kernel
theorem dX2_keepPart_15 : decode cX2_keepPart 15 = .ok (.arraylength, 1) := by decide +kernel
theorem dX2_keepPart_16 : decode cX2_keepPart 16 = .ok (.if_icmp .ge 52, 3) := by decide +kernel
theorem dX2_keepPart_19 : decode cX2_keepPart 19 = .ok (.aload_n 0, 1) := by decide +kernel
theorem dX2_keepPart_20 : decode cX2_keepPart 20 = .ok (.getfield 19, 3) := by decide +kernel
theorem dX2_keepPart_23 : decode cX2_keepPart 23 = .ok (.aload_n 0, 1) := by decide +kernel
theorem dX2_keepPart_24 : decode cX2_keepPart 24 = .ok (.getfield 28, 3) := by decide +kernel
theorem dX2_keepPart_27 : decode cX2_keepPart 27 = .ok (.aload_n 0, 1) := by decide +kernel
theorem dX2_keepPart_28 : decode cX2_keepPart 28 = .ok (.getfield 37, 3) := by decide +kernel
theorem dX2_keepPart_31 : decode cX2_keepPart 31 = .ok (.iastore, 1) := by decide +kernel
theorem dX2_keepPart_32 : decode cX2_keepPart 32 = .ok (.aload_n 0, 1) := by decide +kernel
theorem dX2_keepPart_33 : decode cX2_keepPart 33 = .ok (.getfield 22, 3) := by decide +kernel
theorem dX2_keepPart_36 : decode cX2_keepPart 36 = .ok (.aload_n 0, 1) := by decide +kernel
theorem dX2_keepPart_37 : decode cX2_keepPart 37 = .ok (.getfield 28, 3) := by decide +kernel
theorem dX2_keepPart_40 : decode cX2_keepPart 40 = .ok (.aload_n 0, 1) := by decide +kernel
theorem dX2_keepPart_41 : decode cX2_keepPart 41 = .ok (.getfield 40, 3) := by decide +kernel
theorem dX2_keepPart_44 : decode cX2_keepPart 44 = .ok (.iastore, 1) := by decide +kernel
theorem dX2_keepPart_45 : decode cX2_keepPart 45 = .ok (.aload_n 0, 1) := by decide +kernel
theorem dX2_keepPart_46 : decode cX2_keepPart 46 = .ok (.getfield 25, 3) := by decide +kernel
theorem dX2_keepPart_49 : decode cX2_keepPart 49 = .ok (.aload_n 0, 1) := by decide +kernel
theorem dX2_keepPart_50 : decode cX2_keepPart 50 = .ok (.getfield 28, 3) := by decide +kernel
theorem dX2_keepPart_53 : decode cX2_keepPart 53 = .ok (.aload_n 0, 1) := by decide +kernel
theorem dX2_keepPart_54 : decode cX2_keepPart 54 = .ok (.getfield 34, 3) := by decide +kernel
theorem dX2_keepPart_57 : decode cX2_keepPart 57 = .ok (.iastore, 1) := by decide +kernel
theorem dX2_keepPart_58 : decode cX2_keepPart 58 = .ok (.aload_n 0, 1) := by decide +kernel
theorem dX2_keepPart_59 : decode cX2_keepPart 59 = .ok (.dup, 1) := by decide +kernel
theorem dX2_keepPart_60 : decode cX2_keepPart 60 = .ok (.getfield 28, 3) := by decide +kernel
theorem dX2_keepPart_63 : decode cX2_keepPart 63 = .ok (.iconst 1, 1) := by decide +kernel
theorem dX2_keepPart_64 : decode cX2_keepPart 64 = .ok (.iadd, 1) := by decide +kernel
theorem dX2_keepPart_65 : decode cX2_keepPart 65 = .ok (.putfield 28, 3) := by decide +kernel
theorem dX2_keepPart_68 : decode cX2_keepPart 68 = .ok (.return_, 1) := by decide +kernel
theorem dX2_signAfter_0 : decode cX2_signAfter 0 = .ok (.iload_n 0, 1) := by decide +kernel
theorem dX2_signAfter_1 : decode cX2_signAfter 1 = .ok (.lookupswitch 33 #[(0, 27), (1, 30)], 27) := by decide +kernel
theorem dX2_signAfter_28 : decode cX2_signAfter 28 = .ok (.bipush 64, 2) := by decide +kernel
theorem dX2_signAfter_30 : decode cX2_signAfter 30 = .ok (.ireturn, 1) := by decide +kernel
theorem dX2_signAfter_31 : decode cX2_signAfter 31 = .ok (.bipush 58, 2) := by decide +kernel
theorem dX2_signAfter_33 : decode cX2_signAfter 33 = .ok (.ireturn, 1) := by decide +kernel
theorem dX2_signAfter_34 : decode cX2_signAfter 34 = .ok (.bipush 44, 2) := by decide +kernel
theorem dX2_signAfter_36 : decode cX2_signAfter 36 = .ok (.ireturn, 1) := by decide +kernel
theorem dX2_largestOf_0 : decode cX2_largestOf 0 = .ok (.iload_n 0, 1) := by decide +kernel
theorem dX2_largestOf_1 : decode cX2_largestOf 1 = .ok (.lookupswitch 33 #[(0, 27), (1, 30)], 27) := by decide +kernel
theorem dX2_largestOf_28 : decode cX2_largestOf 28 = .ok (.bipush 19, 2) := by decide +kernel
theorem dX2_largestOf_30 : decode cX2_largestOf 30 = .ok (.ireturn, 1) := by decide +kernel
theorem dX2_largestOf_31 : decode cX2_largestOf 31 = .ok (.bipush 95, 2) := by decide +kernel
theorem dX2_largestOf_33 : decode cX2_largestOf 33 = .ok (.ireturn, 1) := by decide +kernel
theorem dX2_largestOf_34 : decode cX2_largestOf 34 = .ok (.bipush 96, 2) := by decide +kernel
theorem dX2_largestOf_36 : decode cX2_largestOf 36 = .ok (.ireturn, 1) := by decide +kernel
set_option maxRecDepth 20000 in
theorem ggX2_allFit_X6_fits : GoodIn wsX2_allFit wsX6_fits := goodIn_r _ [6] (by decide +kernel) (by decide +kernel)
set_option maxRecDepth 20000 in
theorem gX2_allFit_X6_fits_n71 : GoodIn wsX2_allFit (wsX6_fits) := ggX2_allFit_X6_fits
theorem dX2_allFit_0 : decode cX2_allFit 0 = .ok (.iconst 0, 1) := by decide +kernel
theorem dX2_allFit_1 : decode cX2_allFit 1 = .ok (.istore_n 1, 1) := by decide +kernel
theorem dX2_allFit_2 : decode cX2_allFit 2 = .ok (.iload_n 1, 1) := by decide +kernel
theorem dX2_allFit_3 : decode cX2_allFit 3 = .ok (.aload_n 0, 1) := by decide +kernel
theorem dX2_allFit_4 : decode cX2_allFit 4 = .ok (.getfield 28, 3) := by decide +kernel
theorem dX2_allFit_7 : decode cX2_allFit 7 = .ok (.if_icmp .ge 38, 3) := by decide +kernel
theorem dX2_allFit_10 : decode cX2_allFit 10 = .ok (.iload_n 1, 1) := by decide +kernel
theorem dX2_allFit_11 : decode cX2_allFit 11 = .ok (.aload_n 0, 1) := by decide +kernel
theorem dX2_allFit_12 : decode cX2_allFit 12 = .ok (.getfield 25, 3) := by decide +kernel
theorem dX2_allFit_15 : decode cX2_allFit 15 = .ok (.arraylength, 1) := by decide +kernel
theorem dX2_allFit_16 : decode cX2_allFit 16 = .ok (.if_icmp .ge 29, 3) := by decide +kernel
theorem dX2_allFit_19 : decode cX2_allFit 19 = .ok (.aload_n 0, 1) := by decide +kernel
theorem dX2_allFit_20 : decode cX2_allFit 20 = .ok (.getfield 22, 3) := by decide +kernel
theorem dX2_allFit_23 : decode cX2_allFit 23 = .ok (.iload_n 1, 1) := by decide +kernel
theorem dX2_allFit_24 : decode cX2_allFit 24 = .ok (.iaload, 1) := by decide +kernel
theorem dX2_allFit_25 : decode cX2_allFit 25 = .ok (.aload_n 0, 1) := by decide +kernel
theorem dX2_allFit_26 : decode cX2_allFit 26 = .ok (.getfield 25, 3) := by decide +kernel
theorem dX2_allFit_29 : decode cX2_allFit 29 = .ok (.iload_n 1, 1) := by decide +kernel
theorem dX2_allFit_30 : decode cX2_allFit 30 = .ok (.iaload, 1) := by decide +kernel
theorem dX2_allFit_31 : decode cX2_allFit 31 = .ok (.invokestatic 71, 3) := by decide +kernel
theorem dX2_allFit_34 : decode cX2_allFit 34 = .ok (.ifCond .ne 5, 3) := by decide +kernel
theorem dX2_allFit_37 : decode cX2_allFit 37 = .ok (.iconst 0, 1) := by decide +kernel
theorem dX2_allFit_38 : decode cX2_allFit 38 = .ok (.ireturn, 1) := by decide +kernel
theorem dX2_allFit_39 : decode cX2_allFit 39 = .ok (.iinc 1 1, 3) := by decide +kernel
theorem dX2_allFit_42 : decode cX2_allFit 42 = .ok (.goto (-40), 3) := by decide +kernel
theorem dX2_allFit_45 : decode cX2_allFit 45 = .ok (.iconst 1, 1) := by decide +kernel
theorem dX2_allFit_46 : decode cX2_allFit 46 = .ok (.ireturn, 1) := by decide +kernel
set_option maxRecDepth 20000 in
theorem ggX2_cutAll_X3_cutChain : GoodIn wsX2_cutAll wsX3_cutChain := goodIn_r _ [9, 10, 11, 12, 13, 8, 14, 15, 16, 17, 18, 19, 30, 31, 32, 33, 34, 35, 36] (by decide +kernel) (by decide +kernel)
set_option maxRecDepth 20000 in
theorem gX2_cutAll_X3_cutChain : GoodIn wsX2_cutAll (wsV RX2 75 RX3 yX3_cutChain wsX3_cutChain) := goodIn_app (goodIn_of _ (by decide +kernel)) ggX2_cutAll_X3_cutChain
theorem dX2_cutAll_0 : decode cX2_cutAll 0 = .ok (.iconst 0, 1) := by decide +kernel
theorem dX2_cutAll_1 : decode cX2_cutAll 1 = .ok (.istore_n 2, 1) := by decide +kernel
theorem dX2_cutAll_2 : decode cX2_cutAll 2 = .ok (.iconst 0, 1) := by decide +kernel
theorem dX2_cutAll_3 : decode cX2_cutAll 3 = .ok (.istore_n 3, 1) := by decide +kernel
theorem dX2_cutAll_4 : decode cX2_cutAll 4 = .ok (.iload_n 3, 1) := by decide +kernel
theorem dX2_cutAll_5 : decode cX2_cutAll 5 = .ok (.aload_n 0, 1) := by decide +kernel
theorem dX2_cutAll_6 : decode cX2_cutAll 6 = .ok (.getfield 28, 3) := by decide +kernel
theorem dX2_cutAll_9 : decode cX2_cutAll 9 = .ok (.if_icmp .ge 43, 3) := by decide +kernel
theorem dX2_cutAll_12 : decode cX2_cutAll 12 = .ok (.iload_n 3, 1) := by decide +kernel
theorem dX2_cutAll_13 : decode cX2_cutAll 13 = .ok (.aload_n 0, 1) := by decide +kernel
theorem dX2_cutAll_14 : decode cX2_cutAll 14 = .ok (.getfield 25, 3) := by decide +kernel
theorem dX2_cutAll_17 : decode cX2_cutAll 17 = .ok (.arraylength, 1) := by decide +kernel
theorem dX2_cutAll_18 : decode cX2_cutAll 18 = .ok (.if_icmp .ge 34, 3) := by decide +kernel
theorem dX2_cutAll_21 : decode cX2_cutAll 21 = .ok (.iload_n 2, 1) := by decide +kernel
theorem dX2_cutAll_22 : decode cX2_cutAll 22 = .ok (.aload_n 1, 1) := by decide +kernel
theorem dX2_cutAll_23 : decode cX2_cutAll 23 = .ok (.aload_n 0, 1) := by decide +kernel
theorem dX2_cutAll_24 : decode cX2_cutAll 24 = .ok (.getfield 19, 3) := by decide +kernel
theorem dX2_cutAll_27 : decode cX2_cutAll 27 = .ok (.iload_n 3, 1) := by decide +kernel
theorem dX2_cutAll_28 : decode cX2_cutAll 28 = .ok (.iaload, 1) := by decide +kernel
theorem dX2_cutAll_29 : decode cX2_cutAll 29 = .ok (.aload_n 0, 1) := by decide +kernel
theorem dX2_cutAll_30 : decode cX2_cutAll 30 = .ok (.getfield 22, 3) := by decide +kernel
theorem dX2_cutAll_33 : decode cX2_cutAll 33 = .ok (.iload_n 3, 1) := by decide +kernel
theorem dX2_cutAll_34 : decode cX2_cutAll 34 = .ok (.iaload, 1) := by decide +kernel
theorem dX2_cutAll_35 : decode cX2_cutAll 35 = .ok (.aload_n 0, 1) := by decide +kernel
theorem dX2_cutAll_36 : decode cX2_cutAll 36 = .ok (.getfield 25, 3) := by decide +kernel
theorem dX2_cutAll_39 : decode cX2_cutAll 39 = .ok (.iload_n 3, 1) := by decide +kernel
theorem dX2_cutAll_40 : decode cX2_cutAll 40 = .ok (.iaload, 1) := by decide +kernel
theorem dX2_cutAll_41 : decode cX2_cutAll 41 = .ok (.invokevirtual 75, 3) := by decide +kernel
theorem dX2_cutAll_44 : decode cX2_cutAll 44 = .ok (.iadd, 1) := by decide +kernel
theorem dX2_cutAll_45 : decode cX2_cutAll 45 = .ok (.istore_n 2, 1) := by decide +kernel
theorem dX2_cutAll_46 : decode cX2_cutAll 46 = .ok (.iinc 3 1, 3) := by decide +kernel
theorem dX2_cutAll_49 : decode cX2_cutAll 49 = .ok (.goto (-45), 3) := by decide +kernel
theorem dX2_cutAll_52 : decode cX2_cutAll 52 = .ok (.iload_n 2, 1) := by decide +kernel
theorem dX2_cutAll_53 : decode cX2_cutAll 53 = .ok (.ireturn, 1) := by decide +kernel
set_option maxRecDepth 20000 in
theorem ggX2_mixedInto_X6_mixed : GoodIn wsX2_mixedInto wsX6_mixed := goodIn_r _ [5, 6] (by decide +kernel) (by decide +kernel)
set_option maxRecDepth 20000 in
theorem gX2_mixedInto_X6_mixed_n81 : GoodIn wsX2_mixedInto (wsX6_mixed) := ggX2_mixedInto_X6_mixed
theorem dX2_mixedInto_0 : decode cX2_mixedInto 0 = .ok (.lload_n 1, 1) := by decide +kernel
theorem dX2_mixedInto_1 : decode cX2_mixedInto 1 = .ok (.aload_n 0, 1) := by decide +kernel
theorem dX2_mixedInto_2 : decode cX2_mixedInto 2 = .ok (.getfield 15, 3) := by decide +kernel
theorem dX2_mixedInto_5 : decode cX2_mixedInto 5 = .ok (.i2l, 1) := by decide +kernel
theorem dX2_mixedInto_6 : decode cX2_mixedInto 6 = .ok (.invokestatic 81, 3) := by decide +kernel
theorem dX2_mixedInto_9 : decode cX2_mixedInto 9 = .ok (.lstore_n 3, 1) := by decide +kernel
theorem dX2_mixedInto_10 : decode cX2_mixedInto 10 = .ok (.iconst 0, 1) := by decide +kernel
theorem dX2_mixedInto_11 : decode cX2_mixedInto 11 = .ok (.istore 5, 2) := by decide +kernel
theorem dX2_mixedInto_13 : decode cX2_mixedInto 13 = .ok (.iload 5, 2) := by decide +kernel
theorem dX2_mixedInto_15 : decode cX2_mixedInto 15 = .ok (.aload_n 0, 1) := by decide +kernel
theorem dX2_mixedInto_16 : decode cX2_mixedInto 16 = .ok (.getfield 15, 3) := by decide +kernel
theorem dX2_mixedInto_19 : decode cX2_mixedInto 19 = .ok (.if_icmp .ge 32, 3) := by decide +kernel
theorem dX2_mixedInto_22 : decode cX2_mixedInto 22 = .ok (.iload 5, 2) := by decide +kernel
theorem dX2_mixedInto_24 : decode cX2_mixedInto 24 = .ok (.aload_n 0, 1) := by decide +kernel
theorem dX2_mixedInto_25 : decode cX2_mixedInto 25 = .ok (.getfield 9, 3) := by decide +kernel
theorem dX2_mixedInto_28 : decode cX2_mixedInto 28 = .ok (.arraylength, 1) := by decide +kernel
theorem dX2_mixedInto_29 : decode cX2_mixedInto 29 = .ok (.if_icmp .ge 22, 3) := by decide +kernel
theorem dX2_mixedInto_32 : decode cX2_mixedInto 32 = .ok (.lload_n 3, 1) := by decide +kernel
theorem dX2_mixedInto_33 : decode cX2_mixedInto 33 = .ok (.aload_n 0, 1) := by decide +kernel
theorem dX2_mixedInto_34 : decode cX2_mixedInto 34 = .ok (.getfield 9, 3) := by decide +kernel
theorem dX2_mixedInto_37 : decode cX2_mixedInto 37 = .ok (.iload 5, 2) := by decide +kernel
theorem dX2_mixedInto_39 : decode cX2_mixedInto 39 = .ok (.iaload, 1) := by decide +kernel
theorem dX2_mixedInto_40 : decode cX2_mixedInto 40 = .ok (.i2l, 1) := by decide +kernel
theorem dX2_mixedInto_41 : decode cX2_mixedInto 41 = .ok (.invokestatic 81, 3) := by decide +kernel
theorem dX2_mixedInto_44 : decode cX2_mixedInto 44 = .ok (.lstore_n 3, 1) := by decide +kernel
theorem dX2_mixedInto_45 : decode cX2_mixedInto 45 = .ok (.iinc 5 1, 3) := by decide +kernel
theorem dX2_mixedInto_48 : decode cX2_mixedInto 48 = .ok (.goto (-35), 3) := by decide +kernel
theorem dX2_mixedInto_51 : decode cX2_mixedInto 51 = .ok (.lload_n 3, 1) := by decide +kernel
theorem dX2_mixedInto_52 : decode cX2_mixedInto 52 = .ok (.lreturn, 1) := by decide +kernel
set_option maxRecDepth 20000 in
theorem ggX3_init_X0_init : GoodIn wsX3_init wsX0_init := goodIn_r _ [16, 17, 2, 3, 4, 18, 19, 27, 28] (by decide +kernel) (by decide +kernel)
set_option maxRecDepth 20000 in
theorem gX3_init_X0_init_n26 : GoodIn wsX3_init (wsX0_init) := ggX3_init_X0_init
theorem dX3_init_0 : decode cX3_init 0 = .ok (.aload_n 0, 1) := by decide +kernel
theorem dX3_init_1 : decode cX3_init 1 = .ok (.invokespecial 3, 3) := by decide +kernel
theorem dX3_init_4 : decode cX3_init 4 = .ok (.aload_n 0, 1) := by decide +kernel
theorem dX3_init_5 : decode cX3_init 5 = .ok (.bipush 96, 2) := by decide +kernel
theorem dX3_init_7 : decode cX3_init 7 = .ok (.newarray .int, 2) := by decide +kernel
theorem dX3_init_9 : decode cX3_init 9 = .ok (.putfield 9, 3) := by decide +kernel
theorem dX3_init_12 : decode cX3_init 12 = .ok (.aload_n 0, 1) := by decide +kernel
theorem dX3_init_13 : decode cX3_init 13 = .ok (.bipush 96, 2) := by decide +kernel
theorem dX3_init_15 : decode cX3_init 15 = .ok (.newarray .int, 2) := by decide +kernel
theorem dX3_init_17 : decode cX3_init 17 = .ok (.putfield 15, 3) := by decide +kernel
theorem dX3_init_20 : decode cX3_init 20 = .ok (.aload_n 0, 1) := by decide +kernel
theorem dX3_init_21 : decode cX3_init 21 = .ok (.bipush 96, 2) := by decide +kernel
theorem dX3_init_23 : decode cX3_init 23 = .ok (.newarray .int, 2) := by decide +kernel
theorem dX3_init_25 : decode cX3_init 25 = .ok (.putfield 18, 3) := by decide +kernel
theorem dX3_init_28 : decode cX3_init 28 = .ok (.aload_n 0, 1) := by decide +kernel
theorem dX3_init_29 : decode cX3_init 29 = .ok (.bipush 96, 2) := by decide +kernel
theorem dX3_init_31 : decode cX3_init 31 = .ok (.newarray .int, 2) := by decide +kernel
theorem dX3_init_33 : decode cX3_init 33 = .ok (.putfield 21, 3) := by decide +kernel
theorem dX3_init_36 : decode cX3_init 36 = .ok (.aload_n 0, 1) := by decide +kernel
theorem dX3_init_37 : decode cX3_init 37 = .ok (.new 24, 3) := by decide +kernel
theorem dX3_init_40 : decode cX3_init 40 = .ok (.dup, 1) := by decide +kernel
theorem dX3_init_41 : decode cX3_init 41 = .ok (.invokespecial 26, 3) := by decide +kernel
theorem dX3_init_44 : decode cX3_init 44 = .ok (.putfield 27, 3) := by decide +kernel
theorem dX3_init_47 : decode cX3_init 47 = .ok (.aload_n 0, 1) := by decide +kernel
theorem dX3_init_48 : decode cX3_init 48 = .ok (.iconst 1, 1) := by decide +kernel
theorem dX3_init_49 : decode cX3_init 49 = .ok (.putfield 31, 3) := by decide +kernel
theorem dX3_init_52 : decode cX3_init 52 = .ok (.aload_n 0, 1) := by decide +kernel
theorem dX3_init_53 : decode cX3_init 53 = .ok (.iconst 2, 1) := by decide +kernel
theorem dX3_init_54 : decode cX3_init 54 = .ok (.putfield 35, 3) := by decide +kernel
theorem dX3_init_57 : decode cX3_init 57 = .ok (.return_, 1) := by decide +kernel
set_option maxRecDepth 20000 in
theorem ggX3_copyFrom_X0_copyNotes : GoodIn wsX3_copyFrom wsX0_copyNotes := goodIn_r _ [16, 17, 18, 19, 27, 28] (by decide +kernel) (by decide +kernel)
set_option maxRecDepth 20000 in
theorem gX3_copyFrom_X0_copyNotes : GoodIn wsX3_copyFrom (wsV RX3 44 RX0 yX0_copyNotes wsX0_copyNotes) := goodIn_app (goodIn_of _ (by decide +kernel)) ggX3_copyFrom_X0_copyNotes
theorem dX3_copyFrom_0 : decode cX3_copyFrom 0 = .ok (.aload_n 1, 1) := by decide +kernel
theorem dX3_copyFrom_1 : decode cX3_copyFrom 1 = .ok (.getfield 9, 3) := by decide +kernel
theorem dX3_copyFrom_4 : decode cX3_copyFrom 4 = .ok (.iconst 0, 1) := by decide +kernel
theorem dX3_copyFrom_5 : decode cX3_copyFrom 5 = .ok (.aload_n 0, 1) := by decide +kernel
theorem dX3_copyFrom_6 : decode cX3_copyFrom 6 = .ok (.getfield 9, 3) := by decide +kernel
theorem dX3_copyFrom_9 : decode cX3_copyFrom 9 = .ok (.iconst 0, 1) := by decide +kernel
theorem dX3_copyFrom_10 : decode cX3_copyFrom 10 = .ok (.bipush 96, 2) := by decide +kernel
theorem dX3_copyFrom_12 : decode cX3_copyFrom 12 = .ok (.invokestatic 38, 3) := by decide +kernel
theorem dX3_copyFrom_15 : decode cX3_copyFrom 15 = .ok (.aload_n 1, 1) := by decide +kernel
theorem dX3_copyFrom_16 : decode cX3_copyFrom 16 = .ok (.getfield 15, 3) := by decide +kernel
theorem dX3_copyFrom_19 : decode cX3_copyFrom 19 = .ok (.iconst 0, 1) := by decide +kernel
theorem dX3_copyFrom_20 : decode cX3_copyFrom 20 = .ok (.aload_n 0, 1) := by decide +kernel
theorem dX3_copyFrom_21 : decode cX3_copyFrom 21 = .ok (.getfield 15, 3) := by decide +kernel
theorem dX3_copyFrom_24 : decode cX3_copyFrom 24 = .ok (.iconst 0, 1) := by decide +kernel
theorem dX3_copyFrom_25 : decode cX3_copyFrom 25 = .ok (.bipush 96, 2) := by decide +kernel
theorem dX3_copyFrom_27 : decode cX3_copyFrom 27 = .ok (.invokestatic 38, 3) := by decide +kernel
theorem dX3_copyFrom_30 : decode cX3_copyFrom 30 = .ok (.aload_n 1, 1) := by decide +kernel
theorem dX3_copyFrom_31 : decode cX3_copyFrom 31 = .ok (.getfield 18, 3) := by decide +kernel
theorem dX3_copyFrom_34 : decode cX3_copyFrom 34 = .ok (.iconst 0, 1) := by decide +kernel
theorem dX3_copyFrom_35 : decode cX3_copyFrom 35 = .ok (.aload_n 0, 1) := by decide +kernel
theorem dX3_copyFrom_36 : decode cX3_copyFrom 36 = .ok (.getfield 18, 3) := by decide +kernel
theorem dX3_copyFrom_39 : decode cX3_copyFrom 39 = .ok (.iconst 0, 1) := by decide +kernel
theorem dX3_copyFrom_40 : decode cX3_copyFrom 40 = .ok (.bipush 96, 2) := by decide +kernel
theorem dX3_copyFrom_42 : decode cX3_copyFrom 42 = .ok (.invokestatic 38, 3) := by decide +kernel
theorem dX3_copyFrom_45 : decode cX3_copyFrom 45 = .ok (.aload_n 1, 1) := by decide +kernel
theorem dX3_copyFrom_46 : decode cX3_copyFrom 46 = .ok (.getfield 21, 3) := by decide +kernel
theorem dX3_copyFrom_49 : decode cX3_copyFrom 49 = .ok (.iconst 0, 1) := by decide +kernel
theorem dX3_copyFrom_50 : decode cX3_copyFrom 50 = .ok (.aload_n 0, 1) := by decide +kernel
theorem dX3_copyFrom_51 : decode cX3_copyFrom 51 = .ok (.getfield 21, 3) := by decide +kernel
theorem dX3_copyFrom_54 : decode cX3_copyFrom 54 = .ok (.iconst 0, 1) := by decide +kernel
theorem dX3_copyFrom_55 : decode cX3_copyFrom 55 = .ok (.bipush 96, 2) := by decide +kernel
theorem dX3_copyFrom_57 : decode cX3_copyFrom 57 = .ok (.invokestatic 38, 3) := by decide +kernel
theorem dX3_copyFrom_60 : decode cX3_copyFrom 60 = .ok (.aload_n 0, 1) := by decide +kernel
theorem dX3_copyFrom_61 : decode cX3_copyFrom 61 = .ok (.getfield 27, 3) := by decide +kernel
theorem dX3_copyFrom_64 : decode cX3_copyFrom 64 = .ok (.aload_n 1, 1) := by decide +kernel
theorem dX3_copyFrom_65 : decode cX3_copyFrom 65 = .ok (.getfield 27, 3) := by decide +kernel
theorem dX3_copyFrom_68 : decode cX3_copyFrom 68 = .ok (.invokevirtual 44, 3) := by decide +kernel
theorem dX3_copyFrom_71 : decode cX3_copyFrom 71 = .ok (.aload_n 0, 1) := by decide +kernel
theorem dX3_copyFrom_72 : decode cX3_copyFrom 72 = .ok (.aload_n 1, 1) := by decide +kernel
theorem dX3_copyFrom_73 : decode cX3_copyFrom 73 = .ok (.getfield 31, 3) := by decide +kernel
theorem dX3_copyFrom_76 : decode cX3_copyFrom 76 = .ok (.putfield 31, 3) := by decide +kernel
theorem dX3_copyFrom_79 : decode cX3_copyFrom 79 = .ok (.aload_n 0, 1) := by decide +kernel
theorem dX3_copyFrom_80 : decode cX3_copyFrom 80 = .ok (.aload_n 1, 1) := by decide +kernel
theorem dX3_copyFrom_81 : decode cX3_copyFrom 81 = .ok (.getfield 35, 3) := by decide +kernel
theorem dX3_copyFrom_84 : decode cX3_copyFrom 84 = .ok (.putfield 35, 3) := by decide +kernel
theorem dX3_copyFrom_87 : decode cX3_copyFrom 87 = .ok (.return_, 1) := by decide +kernel
set_option maxRecDepth 20000 in
theorem ggX3_cutChain_X3_cut : GoodIn wsX3_cutChain wsX3_cut := goodIn_r _ [6, 7, 8, 9, 10, 11, 12, 13, 14, 15, 16, 17, 18] (by decide +kernel) (by decide +kernel)
set_option maxRecDepth 20000 in
theorem gX3_cutChain_X3_cut : GoodIn wsX3_cutChain (wsV RX3 48 RX3 yX3_cut wsX3_cut) := goodIn_app (goodIn_of _ (by decide +kernel)) ggX3_cutChain_X3_cut
theorem dX3_cutChain_0 : decode cX3_cutChain 0 = .ok (.iconst 1, 1) := by decide +kernel
theorem dX3_cutChain_1 : decode cX3_cutChain 1 = .ok (.iload_n 1, 1) := by decide +kernel
theorem dX3_cutChain_2 : decode cX3_cutChain 2 = .ok (.iconst 2, 1) := by decide +kernel
theorem dX3_cutChain_3 : decode cX3_cutChain 3 = .ok (.iadd, 1) := by decide +kernel
theorem dX3_cutChain_4 : decode cX3_cutChain 4 = .ok (.ishl, 1) := by decide +kernel
theorem dX3_cutChain_5 : decode cX3_cutChain 5 = .ok (.istore 4, 2) := by decide +kernel
theorem dX3_cutChain_7 : decode cX3_cutChain 7 = .ok (.iload_n 2, 1) := by decide +kernel
theorem dX3_cutChain_8 : decode cX3_cutChain 8 = .ok (.iload_n 3, 1) := by decide +kernel
theorem dX3_cutChain_9 : decode cX3_cutChain 9 = .ok (.iadd, 1) := by decide +kernel
theorem dX3_cutChain_10 : decode cX3_cutChain 10 = .ok (.iconst 1, 1) := by decide +kernel
theorem dX3_cutChain_11 : decode cX3_cutChain 11 = .ok (.isub, 1) := by decide +kernel
theorem dX3_cutChain_12 : decode cX3_cutChain 12 = .ok (.istore 5, 2) := by decide +kernel
theorem dX3_cutChain_14 : decode cX3_cutChain 14 = .ok (.iconst 0, 1) := by decide +kernel
theorem dX3_cutChain_15 : decode cX3_cutChain 15 = .ok (.istore 6, 2) := by decide +kernel
theorem dX3_cutChain_17 : decode cX3_cutChain 17 = .ok (.iload_n 2, 1) := by decide +kernel
theorem dX3_cutChain_18 : decode cX3_cutChain 18 = .ok (.istore 7, 2) := by decide +kernel
theorem dX3_cutChain_20 : decode cX3_cutChain 20 = .ok (.iload_n 2, 1) := by decide +kernel
theorem dX3_cutChain_21 : decode cX3_cutChain 21 = .ok (.istore 8, 2) := by decide +kernel
theorem dX3_cutChain_23 : decode cX3_cutChain 23 = .ok (.iload 8, 2) := by decide +kernel
theorem dX3_cutChain_25 : decode cX3_cutChain 25 = .ok (.iload 5, 2) := by decide +kernel
theorem dX3_cutChain_27 : decode cX3_cutChain 27 = .ok (.if_icmp .gt 47, 3) := by decide +kernel
theorem dX3_cutChain_30 : decode cX3_cutChain 30 = .ok (.iload 8, 2) := by decide +kernel
theorem dX3_cutChain_32 : decode cX3_cutChain 32 = .ok (.iload 7, 2) := by decide +kernel
theorem dX3_cutChain_34 : decode cX3_cutChain 34 = .ok (.if_icmp .eq 10, 3) := by decide +kernel
theorem dX3_cutChain_37 : decode cX3_cutChain 37 = .ok (.iload 8, 2) := by decide +kernel
theorem dX3_cutChain_39 : decode cX3_cutChain 39 = .ok (.iload 5, 2) := by decide +kernel
theorem dX3_cutChain_41 : decode cX3_cutChain 41 = .ok (.if_icmp .ne 27, 3) := by decide +kernel
theorem dX3_cutChain_44 : decode cX3_cutChain 44 = .ok (.iload 6, 2) := by decide +kernel
theorem dX3_cutChain_46 : decode cX3_cutChain 46 = .ok (.aload_n 0, 1) := by decide +kernel
theorem dX3_cutChain_47 : decode cX3_cutChain 47 = .ok (.iload 8, 2) := by decide +kernel
theorem dX3_cutChain_49 : decode cX3_cutChain 49 = .ok (.iload 4, 2) := by decide +kernel
theorem dX3_cutChain_51 : decode cX3_cutChain 51 = .ok (.invokevirtual 48, 3) := by decide +kernel
theorem dX3_cutChain_54 : decode cX3_cutChain 54 = .ok (.iadd, 1) := by decide +kernel
theorem dX3_cutChain_55 : decode cX3_cutChain 55 = .ok (.istore 6, 2) := by decide +kernel
theorem dX3_cutChain_57 : decode cX3_cutChain 57 = .ok (.iload 8, 2) := by decide +kernel
theorem dX3_cutChain_59 : decode cX3_cutChain 59 = .ok (.aload_n 0, 1) := by decide +kernel
theorem dX3_cutChain_60 : decode cX3_cutChain 60 = .ok (.getfield 31, 3) := by decide +kernel
theorem dX3_cutChain_63 : decode cX3_cutChain 63 = .ok (.iadd, 1) := by decide +kernel
theorem dX3_cutChain_64 : decode cX3_cutChain 64 = .ok (.iconst 1, 1) := by decide +kernel
theorem dX3_cutChain_65 : decode cX3_cutChain 65 = .ok (.iadd, 1) := by decide +kernel
theorem dX3_cutChain_66 : decode cX3_cutChain 66 = .ok (.istore 7, 2) := by decide +kernel
theorem dX3_cutChain_68 : decode cX3_cutChain 68 = .ok (.iinc 8 1, 3) := by decide +kernel
theorem dX3_cutChain_71 : decode cX3_cutChain 71 = .ok (.goto (-48), 3) := by decide +kernel
theorem dX3_cutChain_74 : decode cX3_cutChain 74 = .ok (.iload 6, 2) := by decide +kernel
theorem dX3_cutChain_76 : decode cX3_cutChain 76 = .ok (.ireturn, 1) := by decide +kernel
set_option maxRecDepth 20000 in
theorem ggX3_cut_X6_isStep : GoodIn wsX3_cut wsX6_isStep := goodIn_r _ [5] (by decide +kernel) (by decide +kernel)
set_option maxRecDepth 20000 in
theorem gX3_cut_X6_isStep_n52 : GoodIn wsX3_cut (wsX6_isStep) := ggX3_cut_X6_isStep
theorem dX3_cut_0 : decode cX3_cut 0 = .ok (.iload_n 1, 1) := by decide +kernel
theorem dX3_cut_1 : decode cX3_cut 1 = .ok (.invokestatic 52, 3) := by decide +kernel
theorem dX3_cut_4 : decode cX3_cut 4 = .ok (.ifCond .ne 5, 3) := by decide +kernel
theorem dX3_cut_7 : decode cX3_cut 7 = .ok (.iconst 0, 1) := by decide +kernel
theorem dX3_cut_8 : decode cX3_cut 8 = .ok (.ireturn, 1) := by decide +kernel
theorem dX3_cut_9 : decode cX3_cut 9 = .ok (.aload_n 0, 1) := by decide +kernel
theorem dX3_cut_10 : decode cX3_cut 10 = .ok (.getfield 9, 3) := by decide +kernel
theorem dX3_cut_13 : decode cX3_cut 13 = .ok (.iload_n 1, 1) := by decide +kernel
theorem dX3_cut_14 : decode cX3_cut 14 = .ok (.iaload, 1) := by decide +kernel
theorem dX3_cut_15 : decode cX3_cut 15 = .ok (.iload_n 2, 1) := by decide +kernel
theorem dX3_cut_16 : decode cX3_cut 16 = .ok (.iand, 1) := by decide +kernel
theorem dX3_cut_17 : decode cX3_cut 17 = .ok (.ifCond .ne 7, 3) := by decide +kernel
theorem dX3_cut_20 : decode cX3_cut 20 = .ok (.iconst 1, 1) := by decide +kernel
theorem dX3_cut_21 : decode cX3_cut 21 = .ok (.goto 4, 3) := by decide +kernel
theorem dX3_cut_24 : decode cX3_cut 24 = .ok (.iconst 0, 1) := by decide +kernel
theorem dX3_cut_25 : decode cX3_cut 25 = .ok (.istore_n 3, 1) := by decide +kernel
theorem dX3_cut_26 : decode cX3_cut 26 = .ok (.aload_n 0, 1) := by decide +kernel
theorem dX3_cut_27 : decode cX3_cut 27 = .ok (.getfield 9, 3) := by decide +kernel
theorem dX3_cut_30 : decode cX3_cut 30 = .ok (.iload_n 1, 1) := by decide +kernel
theorem dX3_cut_31 : decode cX3_cut 31 = .ok (.dup2, 1) := by decide +kernel
theorem dX3_cut_32 : decode cX3_cut 32 = .ok (.iaload, 1) := by decide +kernel
theorem dX3_cut_33 : decode cX3_cut 33 = .ok (.iload_n 2, 1) := by decide +kernel
theorem dX3_cut_34 : decode cX3_cut 34 = .ok (.ior, 1) := by decide +kernel
theorem dX3_cut_35 : decode cX3_cut 35 = .ok (.iastore, 1) := by decide +kernel
theorem dX3_cut_36 : decode cX3_cut 36 = .ok (.aload_n 0, 1) := by decide +kernel
theorem dX3_cut_37 : decode cX3_cut 37 = .ok (.getfield 15, 3) := by decide +kernel
theorem dX3_cut_40 : decode cX3_cut 40 = .ok (.iload_n 1, 1) := by decide +kernel
theorem dX3_cut_41 : decode cX3_cut 41 = .ok (.dup2, 1) := by decide +kernel
theorem dX3_cut_42 : decode cX3_cut 42 = .ok (.iaload, 1) := by decide +kernel
theorem dX3_cut_43 : decode cX3_cut 43 = .ok (.iload_n 2, 1) := by decide +kernel
theorem dX3_cut_44 : decode cX3_cut 44 = .ok (.iconst (-1), 1) := by decide +kernel
theorem dX3_cut_45 : decode cX3_cut 45 = .ok (.ixor, 1) := by decide +kernel
theorem dX3_cut_46 : decode cX3_cut 46 = .ok (.iand, 1) := by decide +kernel
theorem dX3_cut_47 : decode cX3_cut 47 = .ok (.iastore, 1) := by decide +kernel
theorem dX3_cut_48 : decode cX3_cut 48 = .ok (.iload_n 3, 1) := by decide +kernel
theorem dX3_cut_49 : decode cX3_cut 49 = .ok (.ireturn, 1) := by decide +kernel
theorem dX3_holesIn_0 : decode cX3_holesIn 0 = .ok (.iconst 0, 1) := by decide +kernel
theorem dX3_holesIn_1 : decode cX3_holesIn 1 = .ok (.istore_n 2, 1) := by decide +kernel
theorem dX3_holesIn_2 : decode cX3_holesIn 2 = .ok (.iconst 0, 1) := by decide +kernel
theorem dX3_holesIn_3 : decode cX3_holesIn 3 = .ok (.istore_n 3, 1) := by decide +kernel
theorem dX3_holesIn_4 : decode cX3_holesIn 4 = .ok (.iconst 0, 1) := by decide +kernel
theorem dX3_holesIn_5 : decode cX3_holesIn 5 = .ok (.istore 4, 2) := by decide +kernel
theorem dX3_holesIn_7 : decode cX3_holesIn 7 = .ok (.iload 4, 2) := by decide +kernel
theorem dX3_holesIn_9 : decode cX3_holesIn 9 = .ok (.iload_n 1, 1) := by decide +kernel
theorem dX3_holesIn_10 : decode cX3_holesIn 10 = .ok (.if_icmp .ge 36, 3) := by decide +kernel
theorem dX3_holesIn_13 : decode cX3_holesIn 13 = .ok (.iload 4, 2) := by decide +kernel
theorem dX3_holesIn_15 : decode cX3_holesIn 15 = .ok (.iload_n 3, 1) := by decide +kernel
theorem dX3_holesIn_16 : decode cX3_holesIn 16 = .ok (.if_icmp .eq 11, 3) := by decide +kernel
theorem dX3_holesIn_19 : decode cX3_holesIn 19 = .ok (.iload 4, 2) := by decide +kernel
theorem dX3_holesIn_21 : decode cX3_holesIn 21 = .ok (.iload_n 1, 1) := by decide +kernel
theorem dX3_holesIn_22 : decode cX3_holesIn 22 = .ok (.iconst 1, 1) := by decide +kernel
theorem dX3_holesIn_23 : decode cX3_holesIn 23 = .ok (.isub, 1) := by decide +kernel
theorem dX3_holesIn_24 : decode cX3_holesIn 24 = .ok (.if_icmp .ne 16, 3) := by decide +kernel
theorem dX3_holesIn_27 : decode cX3_holesIn 27 = .ok (.iinc 2 1, 3) := by decide +kernel
theorem dX3_holesIn_30 : decode cX3_holesIn 30 = .ok (.iload 4, 2) := by decide +kernel
theorem dX3_holesIn_32 : decode cX3_holesIn 32 = .ok (.aload_n 0, 1) := by decide +kernel
theorem dX3_holesIn_33 : decode cX3_holesIn 33 = .ok (.getfield 31, 3) := by decide +kernel
theorem dX3_holesIn_36 : decode cX3_holesIn 36 = .ok (.iadd, 1) := by decide +kernel
theorem dX3_holesIn_37 : decode cX3_holesIn 37 = .ok (.iconst 1, 1) := by decide +kernel
theorem dX3_holesIn_38 : decode cX3_holesIn 38 = .ok (.iadd, 1) := by decide +kernel
theorem dX3_holesIn_39 : decode cX3_holesIn 39 = .ok (.istore_n 3, 1) := by decide +kernel
theorem dX3_holesIn_40 : decode cX3_holesIn 40 = .ok (.iinc 4 1, 3) := by decide +kernel
theorem dX3_holesIn_43 : decode cX3_holesIn 43 = .ok (.goto (-36), 3) := by decide +kernel
theorem dX3_holesIn_46 : decode cX3_holesIn 46 = .ok (.iload_n 2, 1) := by decide +kernel
theorem dX3_holesIn_47 : decode cX3_holesIn 47 = .ok (.ireturn, 1) := by decide +kernel
set_option maxRecDepth 20000 in
theorem ggX3_cover_X3_openAt : GoodIn wsX3_cover wsX3_openAt := goodIn_r _ [6, 7, 1, 8, 9, 10, 11, 12, 13, 14, 15, 16, 17] (by decide +kernel) (by decide +kernel)
set_option maxRecDepth 20000 in
theorem gX3_cover_X3_openAt : GoodIn wsX3_cover (wsV RX3 56 RX3 yX3_openAt wsX3_openAt) := goodIn_app (goodIn_of _ (by decide +kernel)) ggX3_cover_X3_openAt
theorem dX3_cover_0 : decode cX3_cover 0 = .ok (.iconst 1, 1) := by decide +kernel
theorem dX3_cover_1 : decode cX3_cover 1 = .ok (.iload_n 1, 1) := by decide +kernel
theorem dX3_cover_2 : decode cX3_cover 2 = .ok (.ishl, 1) := by decide +kernel
theorem dX3_cover_3 : decode cX3_cover 3 = .ok (.istore 4, 2) := by decide +kernel
theorem dX3_cover_5 : decode cX3_cover 5 = .ok (.iconst 0, 1) := by decide +kernel
theorem dX3_cover_6 : decode cX3_cover 6 = .ok (.istore 5, 2) := by decide +kernel
theorem dX3_cover_8 : decode cX3_cover 8 = .ok (.iconst 0, 1) := by decide +kernel
theorem dX3_cover_9 : decode cX3_cover 9 = .ok (.istore 6, 2) := by decide +kernel
theorem dX3_cover_11 : decode cX3_cover 11 = .ok (.iload 6, 2) := by decide +kernel
theorem dX3_cover_13 : decode cX3_cover 13 = .ok (.bipush 96, 2) := by decide +kernel
theorem dX3_cover_15 : decode cX3_cover 15 = .ok (.if_icmp .ge 55, 3) := by decide +kernel
theorem dX3_cover_18 : decode cX3_cover 18 = .ok (.iload 6, 2) := by decide +kernel
theorem dX3_cover_20 : decode cX3_cover 20 = .ok (.iload_n 2, 1) := by decide +kernel
theorem dX3_cover_21 : decode cX3_cover 21 = .ok (.if_icmp .lt 43, 3) := by decide +kernel
theorem dX3_cover_24 : decode cX3_cover 24 = .ok (.iload 6, 2) := by decide +kernel
theorem dX3_cover_26 : decode cX3_cover 26 = .ok (.iload_n 3, 1) := by decide +kernel
theorem dX3_cover_27 : decode cX3_cover 27 = .ok (.if_icmp .gt 37, 3) := by decide +kernel
theorem dX3_cover_30 : decode cX3_cover 30 = .ok (.iload 5, 2) := by decide +kernel
theorem dX3_cover_32 : decode cX3_cover 32 = .ok (.aload_n 0, 1) := by decide +kernel
theorem dX3_cover_33 : decode cX3_cover 33 = .ok (.iload 6, 2) := by decide +kernel
theorem dX3_cover_35 : decode cX3_cover 35 = .ok (.invokevirtual 56, 3) := by decide +kernel
theorem dX3_cover_38 : decode cX3_cover 38 = .ok (.iload 4, 2) := by decide +kernel
theorem dX3_cover_40 : decode cX3_cover 40 = .ok (.iand, 1) := by decide +kernel
theorem dX3_cover_41 : decode cX3_cover 41 = .ok (.ifCond .eq 7, 3) := by decide +kernel
theorem dX3_cover_44 : decode cX3_cover 44 = .ok (.iconst 1, 1) := by decide +kernel
theorem dX3_cover_45 : decode cX3_cover 45 = .ok (.goto 4, 3) := by decide +kernel
theorem dX3_cover_48 : decode cX3_cover 48 = .ok (.iconst 0, 1) := by decide +kernel
theorem dX3_cover_49 : decode cX3_cover 49 = .ok (.iadd, 1) := by decide +kernel
theorem dX3_cover_50 : decode cX3_cover 50 = .ok (.istore 5, 2) := by decide +kernel
theorem dX3_cover_52 : decode cX3_cover 52 = .ok (.aload_n 0, 1) := by decide +kernel
theorem dX3_cover_53 : decode cX3_cover 53 = .ok (.getfield 15, 3) := by decide +kernel
theorem dX3_cover_56 : decode cX3_cover 56 = .ok (.iload 6, 2) := by decide +kernel
theorem dX3_cover_58 : decode cX3_cover 58 = .ok (.dup2, 1) := by decide +kernel
theorem dX3_cover_59 : decode cX3_cover 59 = .ok (.iaload, 1) := by decide +kernel
theorem dX3_cover_60 : decode cX3_cover 60 = .ok (.iload 4, 2) := by decide +kernel
theorem dX3_cover_62 : decode cX3_cover 62 = .ok (.ior, 1) := by decide +kernel
theorem dX3_cover_63 : decode cX3_cover 63 = .ok (.iastore, 1) := by decide +kernel
theorem dX3_cover_64 : decode cX3_cover 64 = .ok (.iinc 6 1, 3) := by decide +kernel
theorem dX3_cover_67 : decode cX3_cover 67 = .ok (.goto (-56), 3) := by decide +kernel
theorem dX3_cover_70 : decode cX3_cover 70 = .ok (.iload 5, 2) := by decide +kernel
theorem dX3_cover_72 : decode cX3_cover 72 = .ok (.ireturn, 1) := by decide +kernel
theorem dX3_uncover_0 : decode cX3_uncover 0 = .ok (.iconst 1, 1) := by decide +kernel
theorem dX3_uncover_1 : decode cX3_uncover 1 = .ok (.iload_n 1, 1) := by decide +kernel
theorem dX3_uncover_2 : decode cX3_uncover 2 = .ok (.ishl, 1) := by decide +kernel
theorem dX3_uncover_3 : decode cX3_uncover 3 = .ok (.istore 4, 2) := by decide +kernel
theorem dX3_uncover_5 : decode cX3_uncover 5 = .ok (.iconst 0, 1) := by decide +kernel
theorem dX3_uncover_6 : decode cX3_uncover 6 = .ok (.istore 5, 2) := by decide +kernel
theorem dX3_uncover_8 : decode cX3_uncover 8 = .ok (.iconst 0, 1) := by decide +kernel
theorem dX3_uncover_9 : decode cX3_uncover 9 = .ok (.istore 6, 2) := by decide +kernel
theorem dX3_uncover_11 : decode cX3_uncover 11 = .ok (.iload 6, 2) := by decide +kernel
theorem dX3_uncover_13 : decode cX3_uncover 13 = .ok (.bipush 96, 2) := by decide +kernel
theorem dX3_uncover_15 : decode cX3_uncover 15 = .ok (.if_icmp .ge 58, 3) := by decide +kernel
theorem dX3_uncover_18 : decode cX3_uncover 18 = .ok (.iload 6, 2) := by decide +kernel
theorem dX3_uncover_20 : decode cX3_uncover 20 = .ok (.iload_n 2, 1) := by decide +kernel
theorem dX3_uncover_21 : decode cX3_uncover 21 = .ok (.if_icmp .lt 46, 3) := by decide +kernel
theorem dX3_uncover_24 : decode cX3_uncover 24 = .ok (.iload 6, 2) := by decide +kernel
theorem dX3_uncover_26 : decode cX3_uncover 26 = .ok (.iload_n 3, 1) := by decide +kernel
theorem dX3_uncover_27 : decode cX3_uncover 27 = .ok (.if_icmp .gt 40, 3) := by decide +kernel
theorem dX3_uncover_30 : decode cX3_uncover 30 = .ok (.iload 5, 2) := by decide +kernel
theorem dX3_uncover_32 : decode cX3_uncover 32 = .ok (.aload_n 0, 1) := by decide +kernel
theorem dX3_uncover_33 : decode cX3_uncover 33 = .ok (.getfield 15, 3) := by decide +kernel
theorem dX3_uncover_36 : decode cX3_uncover 36 = .ok (.iload 6, 2) := by decide +kernel
theorem dX3_uncover_38 : decode cX3_uncover 38 = .ok (.iaload, 1) := by decide +kernel
theorem dX3_uncover_39 : decode cX3_uncover 39 = .ok (.iload 4, 2) := by decide +kernel
theorem dX3_uncover_41 : decode cX3_uncover 41 = .ok (.iand, 1) := by decide +kernel
theorem dX3_uncover_42 : decode cX3_uncover 42 = .ok (.ifCond .eq 7, 3) := by decide +kernel
theorem dX3_uncover_45 : decode cX3_uncover 45 = .ok (.iconst 1, 1) := by decide +kernel
theorem dX3_uncover_46 : decode cX3_uncover 46 = .ok (.goto 4, 3) := by decide +kernel
theorem dX3_uncover_49 : decode cX3_uncover 49 = .ok (.iconst 0, 1) := by decide +kernel
theorem dX3_uncover_50 : decode cX3_uncover 50 = .ok (.iadd, 1) := by decide +kernel
theorem dX3_uncover_51 : decode cX3_uncover 51 = .ok (.istore 5, 2) := by decide +kernel
theorem dX3_uncover_53 : decode cX3_uncover 53 = .ok (.aload_n 0, 1) := by decide +kernel
theorem dX3_uncover_54 : decode cX3_uncover 54 = .ok (.getfield 15, 3) := by decide +kernel
theorem dX3_uncover_57 : decode cX3_uncover 57 = .ok (.iload 6, 2) := by decide +kernel
theorem dX3_uncover_59 : decode cX3_uncover 59 = .ok (.dup2, 1) := by decide +kernel
theorem dX3_uncover_60 : decode cX3_uncover 60 = .ok (.iaload, 1) := by decide +kernel
theorem dX3_uncover_61 : decode cX3_uncover 61 = .ok (.iload 4, 2) := by decide +kernel
theorem dX3_uncover_63 : decode cX3_uncover 63 = .ok (.iconst (-1), 1) := by decide +kernel
theorem dX3_uncover_64 : decode cX3_uncover 64 = .ok (.ixor, 1) := by decide +kernel
theorem dX3_uncover_65 : decode cX3_uncover 65 = .ok (.iand, 1) := by decide +kernel
theorem dX3_uncover_66 : decode cX3_uncover 66 = .ok (.iastore, 1) := by decide +kernel
theorem dX3_uncover_67 : decode cX3_uncover 67 = .ok (.iinc 6 1, 3) := by decide +kernel
theorem dX3_uncover_70 : decode cX3_uncover 70 = .ok (.goto (-59), 3) := by decide +kernel
theorem dX3_uncover_73 : decode cX3_uncover 73 = .ok (.iload 5, 2) := by decide +kernel
theorem dX3_uncover_75 : decode cX3_uncover 75 = .ok (.ireturn, 1) := by decide +kernel
set_option maxRecDepth 20000 in
theorem ggX3_canMove_X3_moved : GoodIn wsX3_canMove wsX3_moved := goodIn_r _ [7] (by decide +kernel) (by decide +kernel)
set_option maxRecDepth 20000 in
theorem gX3_canMove_X3_moved : GoodIn wsX3_canMove (va_wsS RX3 60 yX3_moved wsX3_moved) := goodIn_app (goodIn_of _ (by decide +kernel)) ggX3_canMove_X3_moved
theorem dX3_canMove_0 : decode cX3_canMove 0 = .ok (.iconst 0, 1) := by decide +kernel
theorem dX3_canMove_1 : decode cX3_canMove 1 = .ok (.istore_n 2, 1) := by decide +kernel
theorem dX3_canMove_2 : decode cX3_canMove 2 = .ok (.iload_n 2, 1) := by decide +kernel
theorem dX3_canMove_3 : decode cX3_canMove 3 = .ok (.bipush 96, 2) := by decide +kernel
theorem dX3_canMove_5 : decode cX3_canMove 5 = .ok (.if_icmp .ge 42, 3) := by decide +kernel
theorem dX3_canMove_8 : decode cX3_canMove 8 = .ok (.aload_n 0, 1) := by decide +kernel
theorem dX3_canMove_9 : decode cX3_canMove 9 = .ok (.getfield 9, 3) := by decide +kernel
theorem dX3_canMove_12 : decode cX3_canMove 12 = .ok (.iload_n 2, 1) := by decide +kernel
theorem dX3_canMove_13 : decode cX3_canMove 13 = .ok (.iaload, 1) := by decide +kernel
theorem dX3_canMove_14 : decode cX3_canMove 14 = .ok (.aload_n 0, 1) := by decide +kernel
theorem dX3_canMove_15 : decode cX3_canMove 15 = .ok (.getfield 15, 3) := by decide +kernel
theorem dX3_canMove_18 : decode cX3_canMove 18 = .ok (.iload_n 2, 1) := by decide +kernel
theorem dX3_canMove_19 : decode cX3_canMove 19 = .ok (.iaload, 1) := by decide +kernel
theorem dX3_canMove_20 : decode cX3_canMove 20 = .ok (.ior, 1) := by decide +kernel
theorem dX3_canMove_21 : decode cX3_canMove 21 = .ok (.istore_n 3, 1) := by decide +kernel
theorem dX3_canMove_22 : decode cX3_canMove 22 = .ok (.iload_n 3, 1) := by decide +kernel
theorem dX3_canMove_23 : decode cX3_canMove 23 = .ok (.iload_n 1, 1) := by decide +kernel
theorem dX3_canMove_24 : decode cX3_canMove 24 = .ok (.invokestatic 60, 3) := by decide +kernel
theorem dX3_canMove_27 : decode cX3_canMove 27 = .ok (.ldc 63, 2) := by decide +kernel
theorem dX3_canMove_29 : decode cX3_canMove 29 = .ok (.iand, 1) := by decide +kernel
theorem dX3_canMove_30 : decode cX3_canMove 30 = .ok (.iload_n 1, 1) := by decide +kernel
theorem dX3_canMove_31 : decode cX3_canMove 31 = .ok (.ineg, 1) := by decide +kernel
theorem dX3_canMove_32 : decode cX3_canMove 32 = .ok (.invokestatic 60, 3) := by decide +kernel
theorem dX3_canMove_35 : decode cX3_canMove 35 = .ok (.iload_n 3, 1) := by decide +kernel
theorem dX3_canMove_36 : decode cX3_canMove 36 = .ok (.if_icmp .eq 5, 3) := by decide +kernel
theorem dX3_canMove_39 : decode cX3_canMove 39 = .ok (.iconst 0, 1) := by decide +kernel
theorem dX3_canMove_40 : decode cX3_canMove 40 = .ok (.ireturn, 1) := by decide +kernel
theorem dX3_canMove_41 : decode cX3_canMove 41 = .ok (.iinc 2 1, 3) := by decide +kernel
theorem dX3_canMove_44 : decode cX3_canMove 44 = .ok (.goto (-42), 3) := by decide +kernel
theorem dX3_canMove_47 : decode cX3_canMove 47 = .ok (.iconst 1, 1) := by decide +kernel
theorem dX3_canMove_48 : decode cX3_canMove 48 = .ok (.ireturn, 1) := by decide +kernel
set_option maxRecDepth 20000 in
theorem ggX3_move_X3_moved : GoodIn wsX3_move wsX3_moved := goodIn_r _ [6] (by decide +kernel) (by decide +kernel)
set_option maxRecDepth 20000 in
theorem gX3_move_X3_moved : GoodIn wsX3_move (va_wsS RX3 60 yX3_moved wsX3_moved) := goodIn_app (goodIn_of _ (by decide +kernel)) ggX3_move_X3_moved
theorem dX3_move_0 : decode cX3_move 0 = .ok (.iconst 0, 1) := by decide +kernel
theorem dX3_move_1 : decode cX3_move 1 = .ok (.istore_n 2, 1) := by decide +kernel
theorem dX3_move_2 : decode cX3_move 2 = .ok (.iload_n 2, 1) := by decide +kernel
theorem dX3_move_3 : decode cX3_move 3 = .ok (.bipush 96, 2) := by decide +kernel
theorem dX3_move_5 : decode cX3_move 5 = .ok (.if_icmp .ge 41, 3) := by decide +kernel
theorem dX3_move_8 : decode cX3_move 8 = .ok (.aload_n 0, 1) := by decide +kernel
theorem dX3_move_9 : decode cX3_move 9 = .ok (.getfield 9, 3) := by decide +kernel
theorem dX3_move_12 : decode cX3_move 12 = .ok (.iload_n 2, 1) := by decide +kernel
theorem dX3_move_13 : decode cX3_move 13 = .ok (.aload_n 0, 1) := by decide +kernel
theorem dX3_move_14 : decode cX3_move 14 = .ok (.getfield 9, 3) := by decide +kernel
theorem dX3_move_17 : decode cX3_move 17 = .ok (.iload_n 2, 1) := by decide +kernel
theorem dX3_move_18 : decode cX3_move 18 = .ok (.iaload, 1) := by decide +kernel
theorem dX3_move_19 : decode cX3_move 19 = .ok (.iload_n 1, 1) := by decide +kernel
theorem dX3_move_20 : decode cX3_move 20 = .ok (.invokestatic 60, 3) := by decide +kernel
theorem dX3_move_23 : decode cX3_move 23 = .ok (.iastore, 1) := by decide +kernel
theorem dX3_move_24 : decode cX3_move 24 = .ok (.aload_n 0, 1) := by decide +kernel
theorem dX3_move_25 : decode cX3_move 25 = .ok (.getfield 15, 3) := by decide +kernel
theorem dX3_move_28 : decode cX3_move 28 = .ok (.iload_n 2, 1) := by decide +kernel
theorem dX3_move_29 : decode cX3_move 29 = .ok (.aload_n 0, 1) := by decide +kernel
theorem dX3_move_30 : decode cX3_move 30 = .ok (.getfield 15, 3) := by decide +kernel
theorem dX3_move_33 : decode cX3_move 33 = .ok (.iload_n 2, 1) := by decide +kernel
theorem dX3_move_34 : decode cX3_move 34 = .ok (.iaload, 1) := by decide +kernel
theorem dX3_move_35 : decode cX3_move 35 = .ok (.iload_n 1, 1) := by decide +kernel
theorem dX3_move_36 : decode cX3_move 36 = .ok (.invokestatic 60, 3) := by decide +kernel
theorem dX3_move_39 : decode cX3_move 39 = .ok (.iastore, 1) := by decide +kernel
theorem dX3_move_40 : decode cX3_move 40 = .ok (.iinc 2 1, 3) := by decide +kernel
theorem dX3_move_43 : decode cX3_move 43 = .ok (.goto (-41), 3) := by decide +kernel
theorem dX3_move_46 : decode cX3_move 46 = .ok (.return_, 1) := by decide +kernel
set_option maxRecDepth 20000 in
theorem ggX3_canTear_X3_kept : GoodIn wsX3_canTear wsX3_kept := goodIn_r _ [5, 6, 7, 8, 9, 10, 11, 12] (by decide +kernel) (by decide +kernel)
set_option maxRecDepth 20000 in
theorem gX3_canTear_X3_kept : GoodIn wsX3_canTear (va_wsS RX3 64 yX3_kept wsX3_kept) := goodIn_app (goodIn_of _ (by decide +kernel)) ggX3_canTear_X3_kept
theorem dX3_canTear_0 : decode cX3_canTear 0 = .ok (.iconst 0, 1) := by decide +kernel
theorem dX3_canTear_1 : decode cX3_canTear 1 = .ok (.istore 4, 2) := by decide +kernel
theorem dX3_canTear_3 : decode cX3_canTear 3 = .ok (.iload 4, 2) := by decide +kernel
theorem dX3_canTear_5 : decode cX3_canTear 5 = .ok (.bipush 96, 2) := by decide +kernel
theorem dX3_canTear_7 : decode cX3_canTear 7 = .ok (.if_icmp .ge 47, 3) := by decide +kernel
theorem dX3_canTear_10 : decode cX3_canTear 10 = .ok (.iload 4, 2) := by decide +kernel
theorem dX3_canTear_12 : decode cX3_canTear 12 = .ok (.iload_n 1, 1) := by decide +kernel
theorem dX3_canTear_13 : decode cX3_canTear 13 = .ok (.if_icmp .lt 35, 3) := by decide +kernel
theorem dX3_canTear_16 : decode cX3_canTear 16 = .ok (.iload 4, 2) := by decide +kernel
theorem dX3_canTear_18 : decode cX3_canTear 18 = .ok (.iload_n 2, 1) := by decide +kernel
theorem dX3_canTear_19 : decode cX3_canTear 19 = .ok (.if_icmp .gt 29, 3) := by decide +kernel
theorem dX3_canTear_22 : decode cX3_canTear 22 = .ok (.aload_n 0, 1) := by decide +kernel
theorem dX3_canTear_23 : decode cX3_canTear 23 = .ok (.getfield 18, 3) := by decide +kernel
theorem dX3_canTear_26 : decode cX3_canTear 26 = .ok (.iload 4, 2) := by decide +kernel
theorem dX3_canTear_28 : decode cX3_canTear 28 = .ok (.iaload, 1) := by decide +kernel
theorem dX3_canTear_29 : decode cX3_canTear 29 = .ok (.iload_n 3, 1) := by decide +kernel
theorem dX3_canTear_30 : decode cX3_canTear 30 = .ok (.iadd, 1) := by decide +kernel
theorem dX3_canTear_31 : decode cX3_canTear 31 = .ok (.invokestatic 64, 3) := by decide +kernel
theorem dX3_canTear_34 : decode cX3_canTear 34 = .ok (.aload_n 0, 1) := by decide +kernel
theorem dX3_canTear_35 : decode cX3_canTear 35 = .ok (.getfield 18, 3) := by decide +kernel
theorem dX3_canTear_38 : decode cX3_canTear 38 = .ok (.iload 4, 2) := by decide +kernel
theorem dX3_canTear_40 : decode cX3_canTear 40 = .ok (.iaload, 1) := by decide +kernel
theorem dX3_canTear_41 : decode cX3_canTear 41 = .ok (.iload_n 3, 1) := by decide +kernel
theorem dX3_canTear_42 : decode cX3_canTear 42 = .ok (.iadd, 1) := by decide +kernel
theorem dX3_canTear_43 : decode cX3_canTear 43 = .ok (.if_icmp .eq 5, 3) := by decide +kernel
theorem dX3_canTear_46 : decode cX3_canTear 46 = .ok (.iconst 0, 1) := by decide +kernel
theorem dX3_canTear_47 : decode cX3_canTear 47 = .ok (.ireturn, 1) := by decide +kernel
theorem dX3_canTear_48 : decode cX3_canTear 48 = .ok (.iinc 4 1, 3) := by decide +kernel
theorem dX3_canTear_51 : decode cX3_canTear 51 = .ok (.goto (-48), 3) := by decide +kernel
theorem dX3_canTear_54 : decode cX3_canTear 54 = .ok (.iconst 1, 1) := by decide +kernel
theorem dX3_canTear_55 : decode cX3_canTear 55 = .ok (.ireturn, 1) := by decide +kernel
theorem dX3_addToEdges_0 : decode cX3_addToEdges 0 = .ok (.iconst 0, 1) := by decide +kernel
theorem dX3_addToEdges_1 : decode cX3_addToEdges 1 = .ok (.istore 4, 2) := by decide +kernel
theorem dX3_addToEdges_3 : decode cX3_addToEdges 3 = .ok (.iload 4, 2) := by decide +kernel
theorem dX3_addToEdges_5 : decode cX3_addToEdges 5 = .ok (.bipush 96, 2) := by decide +kernel
theorem dX3_addToEdges_7 : decode cX3_addToEdges 7 = .ok (.if_icmp .ge 32, 3) := by decide +kernel
theorem dX3_addToEdges_10 : decode cX3_addToEdges 10 = .ok (.iload 4, 2) := by decide +kernel
theorem dX3_addToEdges_12 : decode cX3_addToEdges 12 = .ok (.iload_n 1, 1) := by decide +kernel
theorem dX3_addToEdges_13 : decode cX3_addToEdges 13 = .ok (.if_icmp .lt 20, 3) := by decide +kernel
theorem dX3_addToEdges_16 : decode cX3_addToEdges 16 = .ok (.iload 4, 2) := by decide +kernel
theorem dX3_addToEdges_18 : decode cX3_addToEdges 18 = .ok (.iload_n 2, 1) := by decide +kernel
theorem dX3_addToEdges_19 : decode cX3_addToEdges 19 = .ok (.if_icmp .gt 14, 3) := by decide +kernel
theorem dX3_addToEdges_22 : decode cX3_addToEdges 22 = .ok (.aload_n 0, 1) := by decide +kernel
theorem dX3_addToEdges_23 : decode cX3_addToEdges 23 = .ok (.getfield 18, 3) := by decide +kernel
theorem dX3_addToEdges_26 : decode cX3_addToEdges 26 = .ok (.iload 4, 2) := by decide +kernel
theorem dX3_addToEdges_28 : decode cX3_addToEdges 28 = .ok (.dup2, 1) := by decide +kernel
theorem dX3_addToEdges_29 : decode cX3_addToEdges 29 = .ok (.iaload, 1) := by decide +kernel
theorem dX3_addToEdges_30 : decode cX3_addToEdges 30 = .ok (.iload_n 3, 1) := by decide +kernel
theorem dX3_addToEdges_31 : decode cX3_addToEdges 31 = .ok (.iadd, 1) := by decide +kernel
theorem dX3_addToEdges_32 : decode cX3_addToEdges 32 = .ok (.iastore, 1) := by decide +kernel
theorem dX3_addToEdges_33 : decode cX3_addToEdges 33 = .ok (.iinc 4 1, 3) := by decide +kernel
theorem dX3_addToEdges_36 : decode cX3_addToEdges 36 = .ok (.goto (-33), 3) := by decide +kernel
theorem dX3_addToEdges_39 : decode cX3_addToEdges 39 = .ok (.return_, 1) := by decide +kernel
theorem dX3_putSteers_0 : decode cX3_putSteers 0 = .ok (.iconst 0, 1) := by decide +kernel
theorem dX3_putSteers_1 : decode cX3_putSteers 1 = .ok (.istore 4, 2) := by decide +kernel
theorem dX3_putSteers_3 : decode cX3_putSteers 3 = .ok (.iload 4, 2) := by decide +kernel
theorem dX3_putSteers_5 : decode cX3_putSteers 5 = .ok (.bipush 96, 2) := by decide +kernel
theorem dX3_putSteers_7 : decode cX3_putSteers 7 = .ok (.if_icmp .ge 29, 3) := by decide +kernel
theorem dX3_putSteers_10 : decode cX3_putSteers 10 = .ok (.iload 4, 2) := by decide +kernel
theorem dX3_putSteers_12 : decode cX3_putSteers 12 = .ok (.iload_n 1, 1) := by decide +kernel
theorem dX3_putSteers_13 : decode cX3_putSteers 13 = .ok (.if_icmp .lt 17, 3) := by decide +kernel
theorem dX3_putSteers_16 : decode cX3_putSteers 16 = .ok (.iload 4, 2) := by decide +kernel
theorem dX3_putSteers_18 : decode cX3_putSteers 18 = .ok (.iload_n 2, 1) := by decide +kernel
theorem dX3_putSteers_19 : decode cX3_putSteers 19 = .ok (.if_icmp .gt 11, 3) := by decide +kernel
theorem dX3_putSteers_22 : decode cX3_putSteers 22 = .ok (.aload_n 0, 1) := by decide +kernel
theorem dX3_putSteers_23 : decode cX3_putSteers 23 = .ok (.getfield 21, 3) := by decide +kernel
theorem dX3_putSteers_26 : decode cX3_putSteers 26 = .ok (.iload 4, 2) := by decide +kernel
theorem dX3_putSteers_28 : decode cX3_putSteers 28 = .ok (.iload_n 3, 1) := by decide +kernel
theorem dX3_putSteers_29 : decode cX3_putSteers 29 = .ok (.iastore, 1) := by decide +kernel
theorem dX3_putSteers_30 : decode cX3_putSteers 30 = .ok (.iinc 4 1, 3) := by decide +kernel
theorem dX3_putSteers_33 : decode cX3_putSteers 33 = .ok (.goto (-30), 3) := by decide +kernel
theorem dX3_putSteers_36 : decode cX3_putSteers 36 = .ok (.return_, 1) := by decide +kernel
set_option maxRecDepth 20000 in
theorem ggX3_openAt_X6_isStep : GoodIn wsX3_openAt wsX6_isStep := goodIn_r _ [5] (by decide +kernel) (by decide +kernel)
set_option maxRecDepth 20000 in
theorem gX3_openAt_X6_isStep_n52 : GoodIn wsX3_openAt (wsX6_isStep) := ggX3_openAt_X6_isStep
theorem dX3_openAt_0 : decode cX3_openAt 0 = .ok (.iload_n 1, 1) := by decide +kernel
theorem dX3_openAt_1 : decode cX3_openAt 1 = .ok (.invokestatic 52, 3) := by decide +kernel
theorem dX3_openAt_4 : decode cX3_openAt 4 = .ok (.ifCond .eq 21, 3) := by decide +kernel
theorem dX3_openAt_7 : decode cX3_openAt 7 = .ok (.aload_n 0, 1) := by decide +kernel
theorem dX3_openAt_8 : decode cX3_openAt 8 = .ok (.getfield 9, 3) := by decide +kernel
theorem dX3_openAt_11 : decode cX3_openAt 11 = .ok (.iload_n 1, 1) := by decide +kernel
theorem dX3_openAt_12 : decode cX3_openAt 12 = .ok (.iaload, 1) := by decide +kernel
theorem dX3_openAt_13 : decode cX3_openAt 13 = .ok (.aload_n 0, 1) := by decide +kernel
theorem dX3_openAt_14 : decode cX3_openAt 14 = .ok (.getfield 15, 3) := by decide +kernel
theorem dX3_openAt_17 : decode cX3_openAt 17 = .ok (.iload_n 1, 1) := by decide +kernel
theorem dX3_openAt_18 : decode cX3_openAt 18 = .ok (.iaload, 1) := by decide +kernel
theorem dX3_openAt_19 : decode cX3_openAt 19 = .ok (.iconst (-1), 1) := by decide +kernel
theorem dX3_openAt_20 : decode cX3_openAt 20 = .ok (.ixor, 1) := by decide +kernel
theorem dX3_openAt_21 : decode cX3_openAt 21 = .ok (.iand, 1) := by decide +kernel
theorem dX3_openAt_22 : decode cX3_openAt 22 = .ok (.goto 4, 3) := by decide +kernel
theorem dX3_openAt_25 : decode cX3_openAt 25 = .ok (.iconst 0, 1) := by decide +kernel
theorem dX3_openAt_26 : decode cX3_openAt 26 = .ok (.ireturn, 1) := by decide +kernel
set_option maxRecDepth 20000 in
theorem ggX3_openHoles_X3_openAt : GoodIn wsX3_openHoles wsX3_openAt := goodIn_r _ [5, 6, 7, 8, 9, 10, 18, 19, 20, 21, 22, 23, 24] (by decide +kernel) (by decide +kernel)
set_option maxRecDepth 20000 in
theorem gX3_openHoles_X3_openAt : GoodIn wsX3_openHoles (wsV RX3 56 RX3 yX3_openAt wsX3_openAt) := goodIn_app (goodIn_of _ (by decide +kernel)) ggX3_openHoles_X3_openAt
set_option maxRecDepth 20000 in
theorem ggX3_openHoles_J6_bitCount_0f7a4 : GoodIn wsX3_openHoles wsJ6_bitCount_0f7a4 := goodIn_r _ [14, 15, 16, 17] (by decide +kernel) (by decide +kernel)
set_option maxRecDepth 20000 in
theorem gX3_openHoles_J6_bitCount_0f7a4 : GoodIn wsX3_openHoles (va_wsS RX3 67 yJ6_bitCount_0f7a4 wsJ6_bitCount_0f7a4) := goodIn_app (goodIn_of _ (by decide +kernel)) ggX3_openHoles_J6_bitCount_0f7a4
theorem dX3_openHoles_0 : decode cX3_openHoles 0 = .ok (.iconst 0, 1) := by decide +kernel
theorem dX3_openHoles_1 : decode cX3_openHoles 1 = .ok (.istore_n 1, 1) := by decide +kernel
theorem dX3_openHoles_2 : decode cX3_openHoles 2 = .ok (.iconst 0, 1) := by decide +kernel
theorem dX3_openHoles_3 : decode cX3_openHoles 3 = .ok (.istore_n 2, 1) := by decide +kernel
theorem dX3_openHoles_4 : decode cX3_openHoles 4 = .ok (.iload_n 2, 1) := by decide +kernel
theorem dX3_openHoles_5 : decode cX3_openHoles 5 = .ok (.bipush 96, 2) := by decide +kernel
theorem dX3_openHoles_7 : decode cX3_openHoles 7 = .ok (.if_icmp .ge 20, 3) := by decide +kernel
theorem dX3_openHoles_10 : decode cX3_openHoles 10 = .ok (.iload_n 1, 1) := by decide +kernel
theorem dX3_openHoles_11 : decode cX3_openHoles 11 = .ok (.aload_n 0, 1) := by decide +kernel
theorem dX3_openHoles_12 : decode cX3_openHoles 12 = .ok (.iload_n 2, 1) := by decide +kernel
theorem dX3_openHoles_13 : decode cX3_openHoles 13 = .ok (.invokevirtual 56, 3) := by decide +kernel
theorem dX3_openHoles_16 : decode cX3_openHoles 16 = .ok (.invokestatic 67, 3) := by decide +kernel
theorem dX3_openHoles_19 : decode cX3_openHoles 19 = .ok (.iadd, 1) := by decide +kernel
theorem dX3_openHoles_20 : decode cX3_openHoles 20 = .ok (.istore_n 1, 1) := by decide +kernel
theorem dX3_openHoles_21 : decode cX3_openHoles 21 = .ok (.iinc 2 1, 3) := by decide +kernel
theorem dX3_openHoles_24 : decode cX3_openHoles 24 = .ok (.goto (-20), 3) := by decide +kernel
theorem dX3_openHoles_27 : decode cX3_openHoles 27 = .ok (.iload_n 1, 1) := by decide +kernel
theorem dX3_openHoles_28 : decode cX3_openHoles 28 = .ok (.ireturn, 1) := by decide +kernel
theorem dX3_tornSteps_0 : decode cX3_tornSteps 0 = .ok (.iconst 0, 1) := by decide +kernel
theorem dX3_tornSteps_1 : decode cX3_tornSteps 1 = .ok (.istore_n 1, 1) := by decide +kernel
theorem dX3_tornSteps_2 : decode cX3_tornSteps 2 = .ok (.iconst 0, 1) := by decide +kernel
theorem dX3_tornSteps_3 : decode cX3_tornSteps 3 = .ok (.istore_n 2, 1) := by decide +kernel
theorem dX3_tornSteps_4 : decode cX3_tornSteps 4 = .ok (.iload_n 2, 1) := by decide +kernel
theorem dX3_tornSteps_5 : decode cX3_tornSteps 5 = .ok (.bipush 96, 2) := by decide +kernel
theorem dX3_tornSteps_7 : decode cX3_tornSteps 7 = .ok (.if_icmp .ge 26, 3) := by decide +kernel
theorem dX3_tornSteps_10 : decode cX3_tornSteps 10 = .ok (.iload_n 1, 1) := by decide +kernel
theorem dX3_tornSteps_11 : decode cX3_tornSteps 11 = .ok (.aload_n 0, 1) := by decide +kernel
theorem dX3_tornSteps_12 : decode cX3_tornSteps 12 = .ok (.getfield 18, 3) := by decide +kernel
theorem dX3_tornSteps_15 : decode cX3_tornSteps 15 = .ok (.iload_n 2, 1) := by decide +kernel
theorem dX3_tornSteps_16 : decode cX3_tornSteps 16 = .ok (.iaload, 1) := by decide +kernel
theorem dX3_tornSteps_17 : decode cX3_tornSteps 17 = .ok (.ifCond .eq 7, 3) := by decide +kernel
theorem dX3_tornSteps_20 : decode cX3_tornSteps 20 = .ok (.iconst 1, 1) := by decide +kernel
theorem dX3_tornSteps_21 : decode cX3_tornSteps 21 = .ok (.goto 4, 3) := by decide +kernel
theorem dX3_tornSteps_24 : decode cX3_tornSteps 24 = .ok (.iconst 0, 1) := by decide +kernel
theorem dX3_tornSteps_25 : decode cX3_tornSteps 25 = .ok (.iadd, 1) := by decide +kernel
theorem dX3_tornSteps_26 : decode cX3_tornSteps 26 = .ok (.istore_n 1, 1) := by decide +kernel
theorem dX3_tornSteps_27 : decode cX3_tornSteps 27 = .ok (.iinc 2 1, 3) := by decide +kernel
theorem dX3_tornSteps_30 : decode cX3_tornSteps 30 = .ok (.goto (-26), 3) := by decide +kernel
theorem dX3_tornSteps_33 : decode cX3_tornSteps 33 = .ok (.iload_n 1, 1) := by decide +kernel
theorem dX3_tornSteps_34 : decode cX3_tornSteps 34 = .ok (.ireturn, 1) := by decide +kernel
set_option maxRecDepth 20000 in
theorem ggX3_voicesAt_X6_isStep : GoodIn wsX3_voicesAt wsX6_isStep := goodIn_r _ [4] (by decide +kernel) (by decide +kernel)
set_option maxRecDepth 20000 in
theorem gX3_voicesAt_X6_isStep_n52 : GoodIn wsX3_voicesAt (wsX6_isStep) := ggX3_voicesAt_X6_isStep
set_option maxRecDepth 20000 in
theorem ggX3_voicesAt_X3_openAt : GoodIn wsX3_voicesAt wsX3_openAt := goodIn_r _ [9, 10, 11, 2, 3, 4, 19, 20, 21, 22, 23, 24, 25] (by decide +kernel) (by decide +kernel)
set_option maxRecDepth 20000 in
theorem gX3_voicesAt_X3_openAt : GoodIn wsX3_voicesAt (wsV RX3 56 RX3 yX3_openAt wsX3_openAt) := goodIn_app (goodIn_of _ (by decide +kernel)) ggX3_voicesAt_X3_openAt
set_option maxRecDepth 20000 in
theorem ggX3_voicesAt_X3_voicesOf : GoodIn wsX3_voicesAt wsX3_voicesOf := goodIn_r _ [14, 15, 16, 17, 8, 18] (by decide +kernel) (by decide +kernel)
set_option maxRecDepth 20000 in
theorem gX3_voicesAt_X3_voicesOf : GoodIn wsX3_voicesAt (va_wsS RX3 72 yX3_voicesOf wsX3_voicesOf) := goodIn_app (goodIn_of _ (by decide +kernel)) ggX3_voicesAt_X3_voicesOf
theorem dX3_voicesAt_0 : decode cX3_voicesAt 0 = .ok (.iload_n 1, 1) := by decide +kernel
theorem dX3_voicesAt_1 : decode cX3_voicesAt 1 = .ok (.invokestatic 52, 3) := by decide +kernel
theorem dX3_voicesAt_4 : decode cX3_voicesAt 4 = .ok (.ifCond .eq 22, 3) := by decide +kernel
theorem dX3_voicesAt_7 : decode cX3_voicesAt 7 = .ok (.aload_n 0, 1) := by decide +kernel
theorem dX3_voicesAt_8 : decode cX3_voicesAt 8 = .ok (.iload_n 1, 1) := by decide +kernel
theorem dX3_voicesAt_9 : decode cX3_voicesAt 9 = .ok (.invokevirtual 56, 3) := by decide +kernel
theorem dX3_voicesAt_12 : decode cX3_voicesAt 12 = .ok (.aload_n 0, 1) := by decide +kernel
theorem dX3_voicesAt_13 : decode cX3_voicesAt 13 = .ok (.getfield 18, 3) := by decide +kernel
theorem dX3_voicesAt_16 : decode cX3_voicesAt 16 = .ok (.iload_n 1, 1) := by decide +kernel
theorem dX3_voicesAt_17 : decode cX3_voicesAt 17 = .ok (.iaload, 1) := by decide +kernel
theorem dX3_voicesAt_18 : decode cX3_voicesAt 18 = .ok (.iload_n 2, 1) := by decide +kernel
theorem dX3_voicesAt_19 : decode cX3_voicesAt 19 = .ok (.iadd, 1) := by decide +kernel
theorem dX3_voicesAt_20 : decode cX3_voicesAt 20 = .ok (.invokestatic 72, 3) := by decide +kernel
theorem dX3_voicesAt_23 : decode cX3_voicesAt 23 = .ok (.goto 4, 3) := by decide +kernel
theorem dX3_voicesAt_26 : decode cX3_voicesAt 26 = .ok (.iconst 0, 1) := by decide +kernel
theorem dX3_voicesAt_27 : decode cX3_voicesAt 27 = .ok (.ireturn, 1) := by decide +kernel
set_option maxRecDepth 20000 in
theorem ggX3_voicesOf_X3_moved : GoodIn wsX3_voicesOf wsX3_moved := goodIn_r _ [5] (by decide +kernel) (by decide +kernel)
set_option maxRecDepth 20000 in
theorem gX3_voicesOf_X3_moved : GoodIn wsX3_voicesOf (va_wsS RX3 60 yX3_moved wsX3_moved) := goodIn_app (goodIn_of _ (by decide +kernel)) ggX3_voicesOf_X3_moved
theorem dX3_voicesOf_0 : decode cX3_voicesOf 0 = .ok (.iload_n 0, 1) := by decide +kernel
theorem dX3_voicesOf_1 : decode cX3_voicesOf 1 = .ok (.bipush (-2), 2) := by decide +kernel
theorem dX3_voicesOf_3 : decode cX3_voicesOf 3 = .ok (.iload_n 1, 1) := by decide +kernel
theorem dX3_voicesOf_4 : decode cX3_voicesOf 4 = .ok (.isub, 1) := by decide +kernel
theorem dX3_voicesOf_5 : decode cX3_voicesOf 5 = .ok (.invokestatic 60, 3) := by decide +kernel
theorem dX3_voicesOf_8 : decode cX3_voicesOf 8 = .ok (.ldc 75, 2) := by decide +kernel
theorem dX3_voicesOf_10 : decode cX3_voicesOf 10 = .ok (.iand, 1) := by decide +kernel
theorem dX3_voicesOf_11 : decode cX3_voicesOf 11 = .ok (.ireturn, 1) := by decide +kernel
theorem dX3_moved_0 : decode cX3_moved 0 = .ok (.iload_n 1, 1) := by decide +kernel
theorem dX3_moved_1 : decode cX3_moved 1 = .ok (.ifCond .lt 9, 3) := by decide +kernel
theorem dX3_moved_4 : decode cX3_moved 4 = .ok (.iload_n 0, 1) := by decide +kernel
theorem dX3_moved_5 : decode cX3_moved 5 = .ok (.iload_n 1, 1) := by decide +kernel
theorem dX3_moved_6 : decode cX3_moved 6 = .ok (.ishl, 1) := by decide +kernel
theorem dX3_moved_7 : decode cX3_moved 7 = .ok (.goto 7, 3) := by decide +kernel
theorem dX3_moved_10 : decode cX3_moved 10 = .ok (.iload_n 0, 1) := by decide +kernel
theorem dX3_moved_11 : decode cX3_moved 11 = .ok (.iload_n 1, 1) := by decide +kernel
theorem dX3_moved_12 : decode cX3_moved 12 = .ok (.ineg, 1) := by decide +kernel
theorem dX3_moved_13 : decode cX3_moved 13 = .ok (.ishr, 1) := by decide +kernel
theorem dX3_moved_14 : decode cX3_moved 14 = .ok (.ireturn, 1) := by decide +kernel
theorem dX3_kept_0 : decode cX3_kept 0 = .ok (.bipush (-3), 2) := by decide +kernel
theorem dX3_kept_2 : decode cX3_kept 2 = .ok (.iconst 3, 1) := by decide +kernel
theorem dX3_kept_3 : decode cX3_kept 3 = .ok (.iload_n 0, 1) := by decide +kernel
theorem dX3_kept_4 : decode cX3_kept 4 = .ok (.invokestatic 76, 3) := by decide +kernel
theorem dX3_kept_7 : decode cX3_kept 7 = .ok (.invokestatic 81, 3) := by decide +kernel
theorem dX3_kept_10 : decode cX3_kept 10 = .ok (.ireturn, 1) := by decide +kernel
set_option maxRecDepth 20000 in
theorem ggX4_init_X3_init : GoodIn wsX4_init wsX3_init := goodIn_r _ [10, 11, 2, 3, 12, 13, 14, 15, 16, 17, 18, 19, 20, 21, 22, 23, 24, 25, 26, 27, 30, 31, 32, 33, 34, 35, 36, 37, 38] (by decide +kernel) (by decide +kernel)
set_option maxRecDepth 20000 in
theorem gX4_init_X3_init_n21 : GoodIn wsX4_init (wsX3_init) := ggX4_init_X3_init
theorem dX4_init_0 : decode cX4_init 0 = .ok (.aload_n 0, 1) := by decide +kernel
theorem dX4_init_1 : decode cX4_init 1 = .ok (.invokespecial 3, 3) := by decide +kernel
theorem dX4_init_4 : decode cX4_init 4 = .ok (.aload_n 0, 1) := by decide +kernel
theorem dX4_init_5 : decode cX4_init 5 = .ok (.bipush 6, 2) := by decide +kernel
theorem dX4_init_7 : decode cX4_init 7 = .ok (.anewarray 9, 3) := by decide +kernel
theorem dX4_init_10 : decode cX4_init 10 = .ok (.putfield 11, 3) := by decide +kernel
theorem dX4_init_13 : decode cX4_init 13 = .ok (.aload_n 0, 1) := by decide +kernel
theorem dX4_init_14 : decode cX4_init 14 = .ok (.iconst 0, 1) := by decide +kernel
theorem dX4_init_15 : decode cX4_init 15 = .ok (.putfield 17, 3) := by decide +kernel
theorem dX4_init_18 : decode cX4_init 18 = .ok (.iconst 0, 1) := by decide +kernel
theorem dX4_init_19 : decode cX4_init 19 = .ok (.istore_n 1, 1) := by decide +kernel
theorem dX4_init_20 : decode cX4_init 20 = .ok (.iload_n 1, 1) := by decide +kernel
theorem dX4_init_21 : decode cX4_init 21 = .ok (.aload_n 0, 1) := by decide +kernel
theorem dX4_init_22 : decode cX4_init 22 = .ok (.getfield 11, 3) := by decide +kernel
theorem dX4_init_25 : decode cX4_init 25 = .ok (.arraylength, 1) := by decide +kernel
theorem dX4_init_26 : decode cX4_init 26 = .ok (.if_icmp .ge 22, 3) := by decide +kernel
theorem dX4_init_29 : decode cX4_init 29 = .ok (.aload_n 0, 1) := by decide +kernel
theorem dX4_init_30 : decode cX4_init 30 = .ok (.getfield 11, 3) := by decide +kernel
theorem dX4_init_33 : decode cX4_init 33 = .ok (.iload_n 1, 1) := by decide +kernel
theorem dX4_init_34 : decode cX4_init 34 = .ok (.new 9, 3) := by decide +kernel
theorem dX4_init_37 : decode cX4_init 37 = .ok (.dup, 1) := by decide +kernel
theorem dX4_init_38 : decode cX4_init 38 = .ok (.invokespecial 21, 3) := by decide +kernel
theorem dX4_init_41 : decode cX4_init 41 = .ok (.aastore, 1) := by decide +kernel
theorem dX4_init_42 : decode cX4_init 42 = .ok (.iinc 1 1, 3) := by decide +kernel
theorem dX4_init_45 : decode cX4_init 45 = .ok (.goto (-25), 3) := by decide +kernel
theorem dX4_init_48 : decode cX4_init 48 = .ok (.return_, 1) := by decide +kernel
theorem dX4_size_0 : decode cX4_size 0 = .ok (.aload_n 0, 1) := by decide +kernel
theorem dX4_size_1 : decode cX4_size 1 = .ok (.getfield 17, 3) := by decide +kernel
theorem dX4_size_4 : decode cX4_size 4 = .ok (.ireturn, 1) := by decide +kernel
set_option maxRecDepth 20000 in
theorem ggX4_keep_X4_dropOldest : GoodIn wsX4_keep wsX4_dropOldest := goodIn_r _ [7, 2, 1, 32, 33] (by decide +kernel) (by decide +kernel)
set_option maxRecDepth 20000 in
theorem gX4_keep_X4_dropOldest : GoodIn wsX4_keep (wsV RX4 22 RX4 yX4_dropOldest wsX4_dropOldest) := goodIn_app (goodIn_of _ (by decide +kernel)) ggX4_keep_X4_dropOldest
set_option maxRecDepth 20000 in
theorem ggX4_keep_X3_copyFrom : GoodIn wsX4_keep wsX3_copyFrom := goodIn_r _ [12, 13, 14, 15, 16, 17, 18, 19, 20, 21, 22, 23, 24, 25, 26, 27, 28, 29, 30, 31, 34, 35, 36, 37, 38, 39, 40, 41, 42] (by decide +kernel) (by decide +kernel)
set_option maxRecDepth 20000 in
theorem gX4_keep_X3_copyFrom : GoodIn wsX4_keep (wsV RX4 25 RX3 yX3_copyFrom wsX3_copyFrom) := goodIn_app (goodIn_of _ (by decide +kernel)) ggX4_keep_X3_copyFrom
theorem dX4_keep_0 : decode cX4_keep 0 = .ok (.aload_n 0, 1) := by decide +kernel
theorem dX4_keep_1 : decode cX4_keep 1 = .ok (.getfield 17, 3) := by decide +kernel
theorem dX4_keep_4 : decode cX4_keep 4 = .ok (.aload_n 0, 1) := by decide +kernel
theorem dX4_keep_5 : decode cX4_keep 5 = .ok (.getfield 11, 3) := by decide +kernel
theorem dX4_keep_8 : decode cX4_keep 8 = .ok (.arraylength, 1) := by decide +kernel
theorem dX4_keep_9 : decode cX4_keep 9 = .ok (.if_icmp .lt 7, 3) := by decide +kernel
theorem dX4_keep_12 : decode cX4_keep 12 = .ok (.aload_n 0, 1) := by decide +kernel
theorem dX4_keep_13 : decode cX4_keep 13 = .ok (.invokevirtual 22, 3) := by decide +kernel
theorem dX4_keep_16 : decode cX4_keep 16 = .ok (.aload_n 0, 1) := by decide +kernel
theorem dX4_keep_17 : decode cX4_keep 17 = .ok (.getfield 17, 3) := by decide +kernel
theorem dX4_keep_20 : decode cX4_keep 20 = .ok (.ifCond .lt 38, 3) := by decide +kernel
theorem dX4_keep_23 : decode cX4_keep 23 = .ok (.aload_n 0, 1) := by decide +kernel
theorem dX4_keep_24 : decode cX4_keep 24 = .ok (.getfield 17, 3) := by decide +kernel
theorem dX4_keep_27 : decode cX4_keep 27 = .ok (.aload_n 0, 1) := by decide +kernel
theorem dX4_keep_28 : decode cX4_keep 28 = .ok (.getfield 11, 3) := by decide +kernel
theorem dX4_keep_31 : decode cX4_keep 31 = .ok (.arraylength, 1) := by decide +kernel
theorem dX4_keep_32 : decode cX4_keep 32 = .ok (.if_icmp .ge 26, 3) := by decide +kernel
theorem dX4_keep_35 : decode cX4_keep 35 = .ok (.aload_n 0, 1) := by decide +kernel
theorem dX4_keep_36 : decode cX4_keep 36 = .ok (.getfield 11, 3) := by decide +kernel
theorem dX4_keep_39 : decode cX4_keep 39 = .ok (.aload_n 0, 1) := by decide +kernel
theorem dX4_keep_40 : decode cX4_keep 40 = .ok (.getfield 17, 3) := by decide +kernel
theorem dX4_keep_43 : decode cX4_keep 43 = .ok (.aaload, 1) := by decide +kernel
theorem dX4_keep_44 : decode cX4_keep 44 = .ok (.aload_n 1, 1) := by decide +kernel
theorem dX4_keep_45 : decode cX4_keep 45 = .ok (.invokevirtual 25, 3) := by decide +kernel
theorem dX4_keep_48 : decode cX4_keep 48 = .ok (.aload_n 0, 1) := by decide +kernel
theorem dX4_keep_49 : decode cX4_keep 49 = .ok (.dup, 1) := by decide +kernel
theorem dX4_keep_50 : decode cX4_keep 50 = .ok (.getfield 17, 3) := by decide +kernel
theorem dX4_keep_53 : decode cX4_keep 53 = .ok (.iconst 1, 1) := by decide +kernel
theorem dX4_keep_54 : decode cX4_keep 54 = .ok (.iadd, 1) := by decide +kernel
theorem dX4_keep_55 : decode cX4_keep 55 = .ok (.putfield 17, 3) := by decide +kernel
theorem dX4_keep_58 : decode cX4_keep 58 = .ok (.return_, 1) := by decide +kernel
theorem dX4_dropOldest_0 : decode cX4_dropOldest 0 = .ok (.aload_n 0, 1) := by decide +kernel
theorem dX4_dropOldest_1 : decode cX4_dropOldest 1 = .ok (.getfield 11, 3) := by decide +kernel
theorem dX4_dropOldest_4 : decode cX4_dropOldest 4 = .ok (.iconst 0, 1) := by decide +kernel
theorem dX4_dropOldest_5 : decode cX4_dropOldest 5 = .ok (.aaload, 1) := by decide +kernel
theorem dX4_dropOldest_6 : decode cX4_dropOldest 6 = .ok (.astore_n 1, 1) := by decide +kernel
theorem dX4_dropOldest_7 : decode cX4_dropOldest 7 = .ok (.iconst 1, 1) := by decide +kernel
theorem dX4_dropOldest_8 : decode cX4_dropOldest 8 = .ok (.istore_n 2, 1) := by decide +kernel
theorem dX4_dropOldest_9 : decode cX4_dropOldest 9 = .ok (.iload_n 2, 1) := by decide +kernel
theorem dX4_dropOldest_10 : decode cX4_dropOldest 10 = .ok (.aload_n 0, 1) := by decide +kernel
theorem dX4_dropOldest_11 : decode cX4_dropOldest 11 = .ok (.getfield 11, 3) := by decide +kernel
theorem dX4_dropOldest_14 : decode cX4_dropOldest 14 = .ok (.arraylength, 1) := by decide +kernel
theorem dX4_dropOldest_15 : decode cX4_dropOldest 15 = .ok (.if_icmp .ge 23, 3) := by decide +kernel
theorem dX4_dropOldest_18 : decode cX4_dropOldest 18 = .ok (.aload_n 0, 1) := by decide +kernel
theorem dX4_dropOldest_19 : decode cX4_dropOldest 19 = .ok (.getfield 11, 3) := by decide +kernel
theorem dX4_dropOldest_22 : decode cX4_dropOldest 22 = .ok (.iload_n 2, 1) := by decide +kernel
theorem dX4_dropOldest_23 : decode cX4_dropOldest 23 = .ok (.iconst 1, 1) := by decide +kernel
theorem dX4_dropOldest_24 : decode cX4_dropOldest 24 = .ok (.isub, 1) := by decide +kernel
theorem dX4_dropOldest_25 : decode cX4_dropOldest 25 = .ok (.aload_n 0, 1) := by decide +kernel
theorem dX4_dropOldest_26 : decode cX4_dropOldest 26 = .ok (.getfield 11, 3) := by decide +kernel
theorem dX4_dropOldest_29 : decode cX4_dropOldest 29 = .ok (.iload_n 2, 1) := by decide +kernel
theorem dX4_dropOldest_30 : decode cX4_dropOldest 30 = .ok (.aaload, 1) := by decide +kernel
theorem dX4_dropOldest_31 : decode cX4_dropOldest 31 = .ok (.aastore, 1) := by decide +kernel
theorem dX4_dropOldest_32 : decode cX4_dropOldest 32 = .ok (.iinc 2 1, 3) := by decide +kernel
theorem dX4_dropOldest_35 : decode cX4_dropOldest 35 = .ok (.goto (-26), 3) := by decide +kernel
theorem dX4_dropOldest_38 : decode cX4_dropOldest 38 = .ok (.aload_n 0, 1) := by decide +kernel
theorem dX4_dropOldest_39 : decode cX4_dropOldest 39 = .ok (.getfield 11, 3) := by decide +kernel
theorem dX4_dropOldest_42 : decode cX4_dropOldest 42 = .ok (.aload_n 0, 1) := by decide +kernel
theorem dX4_dropOldest_43 : decode cX4_dropOldest 43 = .ok (.getfield 11, 3) := by decide +kernel
theorem dX4_dropOldest_46 : decode cX4_dropOldest 46 = .ok (.arraylength, 1) := by decide +kernel
theorem dX4_dropOldest_47 : decode cX4_dropOldest 47 = .ok (.iconst 1, 1) := by decide +kernel
theorem dX4_dropOldest_48 : decode cX4_dropOldest 48 = .ok (.isub, 1) := by decide +kernel
theorem dX4_dropOldest_49 : decode cX4_dropOldest 49 = .ok (.aload_n 1, 1) := by decide +kernel
theorem dX4_dropOldest_50 : decode cX4_dropOldest 50 = .ok (.aastore, 1) := by decide +kernel
theorem dX4_dropOldest_51 : decode cX4_dropOldest 51 = .ok (.aload_n 0, 1) := by decide +kernel
theorem dX4_dropOldest_52 : decode cX4_dropOldest 52 = .ok (.aload_n 0, 1) := by decide +kernel
theorem dX4_dropOldest_53 : decode cX4_dropOldest 53 = .ok (.getfield 11, 3) := by decide +kernel
theorem dX4_dropOldest_56 : decode cX4_dropOldest 56 = .ok (.arraylength, 1) := by decide +kernel
theorem dX4_dropOldest_57 : decode cX4_dropOldest 57 = .ok (.iconst 1, 1) := by decide +kernel
theorem dX4_dropOldest_58 : decode cX4_dropOldest 58 = .ok (.isub, 1) := by decide +kernel
theorem dX4_dropOldest_59 : decode cX4_dropOldest 59 = .ok (.putfield 17, 3) := by decide +kernel
theorem dX4_dropOldest_62 : decode cX4_dropOldest 62 = .ok (.return_, 1) := by decide +kernel
set_option maxRecDepth 20000 in
theorem ggX4_giveBack_X3_copyFrom : GoodIn wsX4_giveBack wsX3_copyFrom := goodIn_r _ [7, 8, 9, 10, 11, 12, 13, 14, 15, 16, 17, 18, 19, 20, 21, 22, 23, 24, 25, 26, 29, 30, 31, 32, 33, 34, 35, 36, 37] (by decide +kernel) (by decide +kernel)
set_option maxRecDepth 20000 in
theorem gX4_giveBack_X3_copyFrom : GoodIn wsX4_giveBack (wsV RX4 25 RX3 yX3_copyFrom wsX3_copyFrom) := goodIn_app (goodIn_of _ (by decide +kernel)) ggX4_giveBack_X3_copyFrom
theorem dX4_giveBack_0 : decode cX4_giveBack 0 = .ok (.aload_n 0, 1) := by decide +kernel
theorem dX4_giveBack_1 : decode cX4_giveBack 1 = .ok (.getfield 17, 3) := by decide +kernel
theorem dX4_giveBack_4 : decode cX4_giveBack 4 = .ok (.ifCond .le 38, 3) := by decide +kernel
theorem dX4_giveBack_7 : decode cX4_giveBack 7 = .ok (.aload_n 0, 1) := by decide +kernel
theorem dX4_giveBack_8 : decode cX4_giveBack 8 = .ok (.getfield 17, 3) := by decide +kernel
theorem dX4_giveBack_11 : decode cX4_giveBack 11 = .ok (.aload_n 0, 1) := by decide +kernel
theorem dX4_giveBack_12 : decode cX4_giveBack 12 = .ok (.getfield 11, 3) := by decide +kernel
theorem dX4_giveBack_15 : decode cX4_giveBack 15 = .ok (.arraylength, 1) := by decide +kernel
theorem dX4_giveBack_16 : decode cX4_giveBack 16 = .ok (.if_icmp .gt 26, 3) := by decide +kernel
theorem dX4_giveBack_19 : decode cX4_giveBack 19 = .ok (.aload_n 0, 1) := by decide +kernel
theorem dX4_giveBack_20 : decode cX4_giveBack 20 = .ok (.dup, 1) := by decide +kernel
theorem dX4_giveBack_21 : decode cX4_giveBack 21 = .ok (.getfield 17, 3) := by decide +kernel
theorem dX4_giveBack_24 : decode cX4_giveBack 24 = .ok (.iconst 1, 1) := by decide +kernel
theorem dX4_giveBack_25 : decode cX4_giveBack 25 = .ok (.isub, 1) := by decide +kernel
theorem dX4_giveBack_26 : decode cX4_giveBack 26 = .ok (.putfield 17, 3) := by decide +kernel
theorem dX4_giveBack_29 : decode cX4_giveBack 29 = .ok (.aload_n 1, 1) := by decide +kernel
theorem dX4_giveBack_30 : decode cX4_giveBack 30 = .ok (.aload_n 0, 1) := by decide +kernel
theorem dX4_giveBack_31 : decode cX4_giveBack 31 = .ok (.getfield 11, 3) := by decide +kernel
theorem dX4_giveBack_34 : decode cX4_giveBack 34 = .ok (.aload_n 0, 1) := by decide +kernel
theorem dX4_giveBack_35 : decode cX4_giveBack 35 = .ok (.getfield 17, 3) := by decide +kernel
theorem dX4_giveBack_38 : decode cX4_giveBack 38 = .ok (.aaload, 1) := by decide +kernel
theorem dX4_giveBack_39 : decode cX4_giveBack 39 = .ok (.invokevirtual 25, 3) := by decide +kernel
theorem dX4_giveBack_42 : decode cX4_giveBack 42 = .ok (.aload_n 0, 1) := by decide +kernel
theorem dX4_giveBack_43 : decode cX4_giveBack 43 = .ok (.getfield 17, 3) := by decide +kernel
theorem dX4_giveBack_46 : decode cX4_giveBack 46 = .ok (.ireturn, 1) := by decide +kernel
set_option maxRecDepth 20000 in
theorem ggX5_init_X0_init : GoodIn wsX5_init wsX0_init := goodIn_r _ [13, 14, 2, 3, 4, 15, 16, 21, 22] (by decide +kernel) (by decide +kernel)
set_option maxRecDepth 20000 in
theorem gX5_init_X0_init_n17 : GoodIn wsX5_init (wsX0_init) := ggX5_init_X0_init
theorem dX5_init_0 : decode cX5_init 0 = .ok (.aload_n 0, 1) := by decide +kernel
theorem dX5_init_1 : decode cX5_init 1 = .ok (.invokespecial 3, 3) := by decide +kernel
theorem dX5_init_4 : decode cX5_init 4 = .ok (.aload_n 0, 1) := by decide +kernel
theorem dX5_init_5 : decode cX5_init 5 = .ok (.bipush 96, 2) := by decide +kernel
theorem dX5_init_7 : decode cX5_init 7 = .ok (.newarray .int, 2) := by decide +kernel
theorem dX5_init_9 : decode cX5_init 9 = .ok (.putfield 9, 3) := by decide +kernel
theorem dX5_init_12 : decode cX5_init 12 = .ok (.aload_n 0, 1) := by decide +kernel
theorem dX5_init_13 : decode cX5_init 13 = .ok (.new 15, 3) := by decide +kernel
theorem dX5_init_16 : decode cX5_init 16 = .ok (.dup, 1) := by decide +kernel
theorem dX5_init_17 : decode cX5_init 17 = .ok (.invokespecial 17, 3) := by decide +kernel
theorem dX5_init_20 : decode cX5_init 20 = .ok (.putfield 18, 3) := by decide +kernel
theorem dX5_init_23 : decode cX5_init 23 = .ok (.aload_n 0, 1) := by decide +kernel
theorem dX5_init_24 : decode cX5_init 24 = .ok (.iconst 0, 1) := by decide +kernel
theorem dX5_init_25 : decode cX5_init 25 = .ok (.putfield 22, 3) := by decide +kernel
theorem dX5_init_28 : decode cX5_init 28 = .ok (.aload_n 0, 1) := by decide +kernel
theorem dX5_init_29 : decode cX5_init 29 = .ok (.iconst (-1), 1) := by decide +kernel
theorem dX5_init_30 : decode cX5_init 30 = .ok (.putfield 26, 3) := by decide +kernel
theorem dX5_init_33 : decode cX5_init 33 = .ok (.return_, 1) := by decide +kernel
set_option maxRecDepth 20000 in
theorem ggX5_findSteer_X3_voicesAt : GoodIn wsX5_findSteer wsX3_voicesAt := goodIn_r _ [11, 12, 13, 14, 15, 16, 17, 18, 10, 19, 20, 21, 22, 23, 24, 25, 26, 27, 28, 63, 64, 65, 66, 67, 68, 69] (by decide +kernel) (by decide +kernel)
set_option maxRecDepth 20000 in
theorem gX5_findSteer_X3_voicesAt : GoodIn wsX5_findSteer (wsV RX5 32 RX3 yX3_voicesAt wsX3_voicesAt) := goodIn_app (goodIn_of _ (by decide +kernel)) ggX5_findSteer_X3_voicesAt
set_option maxRecDepth 20000 in
theorem ggX5_findSteer_X5_offer : GoodIn wsX5_findSteer wsX5_offer := goodIn_r _ [33, 34, 1, 35, 36, 37, 38, 39, 40, 41, 42, 43, 44, 45, 46, 47, 48, 49, 50, 51, 52, 53, 54, 55, 56, 57, 58, 70, 71] (by decide +kernel) (by decide +kernel)
set_option maxRecDepth 20000 in
theorem gX5_findSteer_X5_offer : GoodIn wsX5_findSteer (wsV RX5 47 RX5 yX5_offer wsX5_offer) := goodIn_app (goodIn_of _ (by decide +kernel)) ggX5_findSteer_X5_offer
theorem dX5_findSteer_0 : decode cX5_findSteer 0 = .ok (.aload_n 0, 1) := by decide +kernel
theorem dX5_findSteer_1 : decode cX5_findSteer 1 = .ok (.iconst (-1), 1) := by decide +kernel
theorem dX5_findSteer_2 : decode cX5_findSteer 2 = .ok (.putfield 26, 3) := by decide +kernel
theorem dX5_findSteer_5 : decode cX5_findSteer 5 = .ok (.getstatic 29, 3) := by decide +kernel
theorem dX5_findSteer_8 : decode cX5_findSteer 8 = .ok (.astore 5, 2) := by decide +kernel
theorem dX5_findSteer_10 : decode cX5_findSteer 10 = .ok (.aload 5, 2) := by decide +kernel
theorem dX5_findSteer_12 : decode cX5_findSteer 12 = .ok (.arraylength, 1) := by decide +kernel
theorem dX5_findSteer_13 : decode cX5_findSteer 13 = .ok (.istore 6, 2) := by decide +kernel
theorem dX5_findSteer_15 : decode cX5_findSteer 15 = .ok (.iconst 0, 1) := by decide +kernel
theorem dX5_findSteer_16 : decode cX5_findSteer 16 = .ok (.istore 7, 2) := by decide +kernel
theorem dX5_findSteer_18 : decode cX5_findSteer 18 = .ok (.iload 7, 2) := by decide +kernel
theorem dX5_findSteer_20 : decode cX5_findSteer 20 = .ok (.iload 6, 2) := by decide +kernel
theorem dX5_findSteer_22 : decode cX5_findSteer 22 = .ok (.if_icmp .ge 100, 3) := by decide +kernel
theorem dX5_findSteer_25 : decode cX5_findSteer 25 = .ok (.aload 5, 2) := by decide +kernel
theorem dX5_findSteer_27 : decode cX5_findSteer 27 = .ok (.iload 7, 2) := by decide +kernel
theorem dX5_findSteer_29 : decode cX5_findSteer 29 = .ok (.iaload, 1) := by decide +kernel
theorem dX5_findSteer_30 : decode cX5_findSteer 30 = .ok (.istore 8, 2) := by decide +kernel
theorem dX5_findSteer_32 : decode cX5_findSteer 32 = .ok (.iconst 0, 1) := by decide +kernel
theorem dX5_findSteer_33 : decode cX5_findSteer 33 = .ok (.istore 9, 2) := by decide +kernel
theorem dX5_findSteer_35 : decode cX5_findSteer 35 = .ok (.iload 9, 2) := by decide +kernel
theorem dX5_findSteer_37 : decode cX5_findSteer 37 = .ok (.bipush 96, 2) := by decide +kernel
theorem dX5_findSteer_39 : decode cX5_findSteer 39 = .ok (.if_icmp .ge 59, 3) := by decide +kernel
theorem dX5_findSteer_42 : decode cX5_findSteer 42 = .ok (.iload 9, 2) := by decide +kernel
theorem dX5_findSteer_44 : decode cX5_findSteer 44 = .ok (.iload_n 3, 1) := by decide +kernel
theorem dX5_findSteer_45 : decode cX5_findSteer 45 = .ok (.if_icmp .lt 14, 3) := by decide +kernel
theorem dX5_findSteer_48 : decode cX5_findSteer 48 = .ok (.iload 9, 2) := by decide +kernel
theorem dX5_findSteer_50 : decode cX5_findSteer 50 = .ok (.iload 4, 2) := by decide +kernel
theorem dX5_findSteer_52 : decode cX5_findSteer 52 = .ok (.if_icmp .gt 7, 3) := by decide +kernel
theorem dX5_findSteer_55 : decode cX5_findSteer 55 = .ok (.iconst 1, 1) := by decide +kernel
theorem dX5_findSteer_56 : decode cX5_findSteer 56 = .ok (.goto 4, 3) := by decide +kernel
theorem dX5_findSteer_59 : decode cX5_findSteer 59 = .ok (.iconst 0, 1) := by decide +kernel
theorem dX5_findSteer_60 : decode cX5_findSteer 60 = .ok (.istore 10, 2) := by decide +kernel
theorem dX5_findSteer_62 : decode cX5_findSteer 62 = .ok (.aload_n 0, 1) := by decide +kernel
theorem dX5_findSteer_63 : decode cX5_findSteer 63 = .ok (.getfield 9, 3) := by decide +kernel
theorem dX5_findSteer_66 : decode cX5_findSteer 66 = .ok (.iload 9, 2) := by decide +kernel
theorem dX5_findSteer_68 : decode cX5_findSteer 68 = .ok (.iload 10, 2) := by decide +kernel
theorem dX5_findSteer_70 : decode cX5_findSteer 70 = .ok (.ifCond .eq 14, 3) := by decide +kernel
theorem dX5_findSteer_73 : decode cX5_findSteer 73 = .ok (.aload_n 1, 1) := by decide +kernel
theorem dX5_findSteer_74 : decode cX5_findSteer 74 = .ok (.iload 9, 2) := by decide +kernel
theorem dX5_findSteer_76 : decode cX5_findSteer 76 = .ok (.iload 8, 2) := by decide +kernel
theorem dX5_findSteer_78 : decode cX5_findSteer 78 = .ok (.invokevirtual 32, 3) := by decide +kernel
theorem dX5_findSteer_81 : decode cX5_findSteer 81 = .ok (.goto 10, 3) := by decide +kernel
theorem dX5_findSteer_84 : decode cX5_findSteer 84 = .ok (.aload_n 2, 1) := by decide +kernel
theorem dX5_findSteer_85 : decode cX5_findSteer 85 = .ok (.getfield 38, 3) := by decide +kernel
theorem dX5_findSteer_88 : decode cX5_findSteer 88 = .ok (.iload 9, 2) := by decide +kernel
theorem dX5_findSteer_90 : decode cX5_findSteer 90 = .ok (.iaload, 1) := by decide +kernel
theorem dX5_findSteer_91 : decode cX5_findSteer 91 = .ok (.iastore, 1) := by decide +kernel
theorem dX5_findSteer_92 : decode cX5_findSteer 92 = .ok (.iinc 9 1, 3) := by decide +kernel
theorem dX5_findSteer_95 : decode cX5_findSteer 95 = .ok (.goto (-60), 3) := by decide +kernel
theorem dX5_findSteer_98 : decode cX5_findSteer 98 = .ok (.aload_n 0, 1) := by decide +kernel
theorem dX5_findSteer_99 : decode cX5_findSteer 99 = .ok (.iload 8, 2) := by decide +kernel
theorem dX5_findSteer_101 : decode cX5_findSteer 101 = .ok (.aload_n 0, 1) := by decide +kernel
theorem dX5_findSteer_102 : decode cX5_findSteer 102 = .ok (.getfield 9, 3) := by decide +kernel
theorem dX5_findSteer_105 : decode cX5_findSteer 105 = .ok (.aload_n 1, 1) := by decide +kernel
theorem dX5_findSteer_106 : decode cX5_findSteer 106 = .ok (.getfield 41, 3) := by decide +kernel
theorem dX5_findSteer_109 : decode cX5_findSteer 109 = .ok (.aload_n 1, 1) := by decide +kernel
theorem dX5_findSteer_110 : decode cX5_findSteer 110 = .ok (.getfield 44, 3) := by decide +kernel
theorem dX5_findSteer_113 : decode cX5_findSteer 113 = .ok (.invokevirtual 47, 3) := by decide +kernel
theorem dX5_findSteer_116 : decode cX5_findSteer 116 = .ok (.iinc 7 1, 3) := by decide +kernel
theorem dX5_findSteer_119 : decode cX5_findSteer 119 = .ok (.goto (-101), 3) := by decide +kernel
theorem dX5_findSteer_122 : decode cX5_findSteer 122 = .ok (.return_, 1) := by decide +kernel
set_option maxRecDepth 20000 in
theorem ggX5_findBridge_X5_offer : GoodIn wsX5_findBridge wsX5_offer := goodIn_r _ [8, 9, 1, 10, 11, 12, 13, 14, 15, 16, 17, 18, 19, 20, 21, 22, 23, 24, 25, 26, 27, 28, 29, 30, 31, 32, 33, 45, 46] (by decide +kernel) (by decide +kernel)
set_option maxRecDepth 20000 in
theorem gX5_findBridge_X5_offer : GoodIn wsX5_findBridge (wsV RX5 47 RX5 yX5_offer wsX5_offer) := goodIn_app (goodIn_of _ (by decide +kernel)) ggX5_findBridge_X5_offer
theorem dX5_findBridge_0 : decode cX5_findBridge 0 = .ok (.aload_n 0, 1) := by decide +kernel
theorem dX5_findBridge_1 : decode cX5_findBridge 1 = .ok (.iconst (-1), 1) := by decide +kernel
theorem dX5_findBridge_2 : decode cX5_findBridge 2 = .ok (.putfield 26, 3) := by decide +kernel
theorem dX5_findBridge_5 : decode cX5_findBridge 5 = .ok (.iconst 0, 1) := by decide +kernel
theorem dX5_findBridge_6 : decode cX5_findBridge 6 = .ok (.istore_n 3, 1) := by decide +kernel
theorem dX5_findBridge_7 : decode cX5_findBridge 7 = .ok (.iload_n 3, 1) := by decide +kernel
theorem dX5_findBridge_8 : decode cX5_findBridge 8 = .ok (.iconst 3, 1) := by decide +kernel
theorem dX5_findBridge_9 : decode cX5_findBridge 9 = .ok (.if_icmp .gt 23, 3) := by decide +kernel
theorem dX5_findBridge_12 : decode cX5_findBridge 12 = .ok (.aload_n 0, 1) := by decide +kernel
theorem dX5_findBridge_13 : decode cX5_findBridge 13 = .ok (.iload_n 3, 1) := by decide +kernel
theorem dX5_findBridge_14 : decode cX5_findBridge 14 = .ok (.aload_n 2, 1) := by decide +kernel
theorem dX5_findBridge_15 : decode cX5_findBridge 15 = .ok (.getfield 38, 3) := by decide +kernel
theorem dX5_findBridge_18 : decode cX5_findBridge 18 = .ok (.iload_n 3, 1) := by decide +kernel
theorem dX5_findBridge_19 : decode cX5_findBridge 19 = .ok (.aload_n 1, 1) := by decide +kernel
theorem dX5_findBridge_20 : decode cX5_findBridge 20 = .ok (.getfield 44, 3) := by decide +kernel
theorem dX5_findBridge_23 : decode cX5_findBridge 23 = .ok (.invokevirtual 47, 3) := by decide +kernel
theorem dX5_findBridge_26 : decode cX5_findBridge 26 = .ok (.iinc 3 1, 3) := by decide +kernel
theorem dX5_findBridge_29 : decode cX5_findBridge 29 = .ok (.goto (-22), 3) := by decide +kernel
theorem dX5_findBridge_32 : decode cX5_findBridge 32 = .ok (.return_, 1) := by decide +kernel
set_option maxRecDepth 20000 in
theorem ggX5_findBreak_X3_kept : GoodIn wsX5_findBreak wsX3_kept := goodIn_r _ [10, 11, 12, 13, 14, 15, 16, 17] (by decide +kernel) (by decide +kernel)
set_option maxRecDepth 20000 in
theorem gX5_findBreak_X3_kept : GoodIn wsX5_findBreak (va_wsS RX5 54 yX3_kept wsX3_kept) := goodIn_app (goodIn_of _ (by decide +kernel)) ggX5_findBreak_X3_kept
set_option maxRecDepth 20000 in
theorem ggX5_findBreak_X3_voicesAt : GoodIn wsX5_findBreak wsX3_voicesAt := goodIn_r _ [21, 22, 23, 24, 25, 26, 27, 28, 9, 29, 30, 31, 32, 33, 34, 35, 36, 37, 38, 69, 70, 71, 72, 73, 74, 75] (by decide +kernel) (by decide +kernel)
set_option maxRecDepth 20000 in
theorem gX5_findBreak_X3_voicesAt : GoodIn wsX5_findBreak (wsV RX5 32 RX3 yX3_voicesAt wsX3_voicesAt) := goodIn_app (goodIn_of _ (by decide +kernel)) ggX5_findBreak_X3_voicesAt
set_option maxRecDepth 20000 in
theorem ggX5_findBreak_X5_offer : GoodIn wsX5_findBreak wsX5_offer := goodIn_r _ [43, 44, 1, 45, 46, 47, 48, 49, 50, 51, 52, 53, 54, 55, 56, 57, 58, 59, 60, 61, 62, 63, 64, 65, 66, 67, 68, 80, 81] (by decide +kernel) (by decide +kernel)
set_option maxRecDepth 20000 in
theorem gX5_findBreak_X5_offer : GoodIn wsX5_findBreak (wsV RX5 47 RX5 yX5_offer wsX5_offer) := goodIn_app (goodIn_of _ (by decide +kernel)) ggX5_findBreak_X5_offer
theorem dX5_findBreak_0 : decode cX5_findBreak 0 = .ok (.aload_n 0, 1) := by decide +kernel
theorem dX5_findBreak_1 : decode cX5_findBreak 1 = .ok (.iconst (-1), 1) := by decide +kernel
theorem dX5_findBreak_2 : decode cX5_findBreak 2 = .ok (.putfield 26, 3) := by decide +kernel
theorem dX5_findBreak_5 : decode cX5_findBreak 5 = .ok (.iconst 0, 1) := by decide +kernel
theorem dX5_findBreak_6 : decode cX5_findBreak 6 = .ok (.istore 4, 2) := by decide +kernel
theorem dX5_findBreak_8 : decode cX5_findBreak 8 = .ok (.iload 4, 2) := by decide +kernel
theorem dX5_findBreak_10 : decode cX5_findBreak 10 = .ok (.bipush 96, 2) := by decide +kernel
theorem dX5_findBreak_12 : decode cX5_findBreak 12 = .ok (.if_icmp .ge 34, 3) := by decide +kernel
theorem dX5_findBreak_15 : decode cX5_findBreak 15 = .ok (.aload_n 0, 1) := by decide +kernel
theorem dX5_findBreak_16 : decode cX5_findBreak 16 = .ok (.getfield 9, 3) := by decide +kernel
theorem dX5_findBreak_19 : decode cX5_findBreak 19 = .ok (.iload 4, 2) := by decide +kernel
theorem dX5_findBreak_21 : decode cX5_findBreak 21 = .ok (.aload_n 1, 1) := by decide +kernel
theorem dX5_findBreak_22 : decode cX5_findBreak 22 = .ok (.iload 4, 2) := by decide +kernel
theorem dX5_findBreak_24 : decode cX5_findBreak 24 = .ok (.aload_n 1, 1) := by decide +kernel
theorem dX5_findBreak_25 : decode cX5_findBreak 25 = .ok (.getfield 51, 3) := by decide +kernel
theorem dX5_findBreak_28 : decode cX5_findBreak 28 = .ok (.iload 4, 2) := by decide +kernel
theorem dX5_findBreak_30 : decode cX5_findBreak 30 = .ok (.iaload, 1) := by decide +kernel
theorem dX5_findBreak_31 : decode cX5_findBreak 31 = .ok (.iload_n 3, 1) := by decide +kernel
theorem dX5_findBreak_32 : decode cX5_findBreak 32 = .ok (.iadd, 1) := by decide +kernel
theorem dX5_findBreak_33 : decode cX5_findBreak 33 = .ok (.invokestatic 54, 3) := by decide +kernel
theorem dX5_findBreak_36 : decode cX5_findBreak 36 = .ok (.invokevirtual 32, 3) := by decide +kernel
theorem dX5_findBreak_39 : decode cX5_findBreak 39 = .ok (.iastore, 1) := by decide +kernel
theorem dX5_findBreak_40 : decode cX5_findBreak 40 = .ok (.iinc 4 1, 3) := by decide +kernel
theorem dX5_findBreak_43 : decode cX5_findBreak 43 = .ok (.goto (-35), 3) := by decide +kernel
theorem dX5_findBreak_46 : decode cX5_findBreak 46 = .ok (.iconst 1, 1) := by decide +kernel
theorem dX5_findBreak_47 : decode cX5_findBreak 47 = .ok (.istore 4, 2) := by decide +kernel
theorem dX5_findBreak_49 : decode cX5_findBreak 49 = .ok (.iconst 0, 1) := by decide +kernel
theorem dX5_findBreak_50 : decode cX5_findBreak 50 = .ok (.istore 5, 2) := by decide +kernel
theorem dX5_findBreak_52 : decode cX5_findBreak 52 = .ok (.iload 5, 2) := by decide +kernel
theorem dX5_findBreak_54 : decode cX5_findBreak 54 = .ok (.bipush 96, 2) := by decide +kernel
theorem dX5_findBreak_56 : decode cX5_findBreak 56 = .ok (.if_icmp .ge 70, 3) := by decide +kernel
theorem dX5_findBreak_59 : decode cX5_findBreak 59 = .ok (.iload 4, 2) := by decide +kernel
theorem dX5_findBreak_61 : decode cX5_findBreak 61 = .ok (.ifCond .eq 21, 3) := by decide +kernel
theorem dX5_findBreak_64 : decode cX5_findBreak 64 = .ok (.aload_n 0, 1) := by decide +kernel
theorem dX5_findBreak_65 : decode cX5_findBreak 65 = .ok (.iload 5, 2) := by decide +kernel
theorem dX5_findBreak_67 : decode cX5_findBreak 67 = .ok (.aload_n 0, 1) := by decide +kernel
theorem dX5_findBreak_68 : decode cX5_findBreak 68 = .ok (.getfield 9, 3) := by decide +kernel
theorem dX5_findBreak_71 : decode cX5_findBreak 71 = .ok (.aload_n 1, 1) := by decide +kernel
theorem dX5_findBreak_72 : decode cX5_findBreak 72 = .ok (.getfield 41, 3) := by decide +kernel
theorem dX5_findBreak_75 : decode cX5_findBreak 75 = .ok (.aload_n 1, 1) := by decide +kernel
theorem dX5_findBreak_76 : decode cX5_findBreak 76 = .ok (.getfield 44, 3) := by decide +kernel
theorem dX5_findBreak_79 : decode cX5_findBreak 79 = .ok (.invokevirtual 47, 3) := by decide +kernel
theorem dX5_findBreak_82 : decode cX5_findBreak 82 = .ok (.aload_n 0, 1) := by decide +kernel
theorem dX5_findBreak_83 : decode cX5_findBreak 83 = .ok (.getfield 9, 3) := by decide +kernel
theorem dX5_findBreak_86 : decode cX5_findBreak 86 = .ok (.iload 5, 2) := by decide +kernel
theorem dX5_findBreak_88 : decode cX5_findBreak 88 = .ok (.iaload, 1) := by decide +kernel
theorem dX5_findBreak_89 : decode cX5_findBreak 89 = .ok (.aload_n 2, 1) := by decide +kernel
theorem dX5_findBreak_90 : decode cX5_findBreak 90 = .ok (.getfield 38, 3) := by decide +kernel
theorem dX5_findBreak_93 : decode cX5_findBreak 93 = .ok (.iload 5, 2) := by decide +kernel
theorem dX5_findBreak_95 : decode cX5_findBreak 95 = .ok (.iaload, 1) := by decide +kernel
theorem dX5_findBreak_96 : decode cX5_findBreak 96 = .ok (.if_icmp .eq 7, 3) := by decide +kernel
theorem dX5_findBreak_99 : decode cX5_findBreak 99 = .ok (.iconst 1, 1) := by decide +kernel
theorem dX5_findBreak_100 : decode cX5_findBreak 100 = .ok (.goto 4, 3) := by decide +kernel
theorem dX5_findBreak_103 : decode cX5_findBreak 103 = .ok (.iconst 0, 1) := by decide +kernel
theorem dX5_findBreak_104 : decode cX5_findBreak 104 = .ok (.istore 4, 2) := by decide +kernel
theorem dX5_findBreak_106 : decode cX5_findBreak 106 = .ok (.aload_n 0, 1) := by decide +kernel
theorem dX5_findBreak_107 : decode cX5_findBreak 107 = .ok (.getfield 9, 3) := by decide +kernel
theorem dX5_findBreak_110 : decode cX5_findBreak 110 = .ok (.iload 5, 2) := by decide +kernel
theorem dX5_findBreak_112 : decode cX5_findBreak 112 = .ok (.aload_n 2, 1) := by decide +kernel
theorem dX5_findBreak_113 : decode cX5_findBreak 113 = .ok (.getfield 38, 3) := by decide +kernel
theorem dX5_findBreak_116 : decode cX5_findBreak 116 = .ok (.iload 5, 2) := by decide +kernel
theorem dX5_findBreak_118 : decode cX5_findBreak 118 = .ok (.iaload, 1) := by decide +kernel
theorem dX5_findBreak_119 : decode cX5_findBreak 119 = .ok (.iastore, 1) := by decide +kernel
theorem dX5_findBreak_120 : decode cX5_findBreak 120 = .ok (.iinc 5 1, 3) := by decide +kernel
theorem dX5_findBreak_123 : decode cX5_findBreak 123 = .ok (.goto (-71), 3) := by decide +kernel
theorem dX5_findBreak_126 : decode cX5_findBreak 126 = .ok (.return_, 1) := by decide +kernel
set_option maxRecDepth 20000 in
theorem ggX5_offer_X0_link : GoodIn wsX5_offer wsX0_link := goodIn_r _ [8, 9, 10, 27, 28] (by decide +kernel) (by decide +kernel)
set_option maxRecDepth 20000 in
theorem gX5_offer_X0_link : GoodIn wsX5_offer (wsV RX5 58 RX0 yX0_link wsX0_link) := goodIn_app (goodIn_of _ (by decide +kernel)) ggX5_offer_X0_link
set_option maxRecDepth 20000 in
theorem ggX5_offer_X0_sameNotes : GoodIn wsX5_offer wsX0_sameNotes := goodIn_r _ [14, 9, 15, 10, 16, 17, 18, 19, 20, 21, 22, 27, 28] (by decide +kernel) (by decide +kernel)
set_option maxRecDepth 20000 in
theorem gX5_offer_X0_sameNotes : GoodIn wsX5_offer (wsV RX5 62 RX0 yX0_sameNotes wsX0_sameNotes) := goodIn_app (goodIn_of _ (by decide +kernel)) ggX5_offer_X0_sameNotes
theorem dX5_offer_0 : decode cX5_offer 0 = .ok (.aload_n 0, 1) := by decide +kernel
theorem dX5_offer_1 : decode cX5_offer 1 = .ok (.getfield 18, 3) := by decide +kernel
theorem dX5_offer_4 : decode cX5_offer 4 = .ok (.aload_n 2, 1) := by decide +kernel
theorem dX5_offer_5 : decode cX5_offer 5 = .ok (.iload_n 3, 1) := by decide +kernel
theorem dX5_offer_6 : decode cX5_offer 6 = .ok (.invokevirtual 58, 3) := by decide +kernel
theorem dX5_offer_9 : decode cX5_offer 9 = .ok (.aload_n 0, 1) := by decide +kernel
theorem dX5_offer_10 : decode cX5_offer 10 = .ok (.getfield 18, 3) := by decide +kernel
theorem dX5_offer_13 : decode cX5_offer 13 = .ok (.aload 4, 2) := by decide +kernel
theorem dX5_offer_15 : decode cX5_offer 15 = .ok (.invokevirtual 62, 3) := by decide +kernel
theorem dX5_offer_18 : decode cX5_offer 18 = .ok (.istore 5, 2) := by decide +kernel
theorem dX5_offer_20 : decode cX5_offer 20 = .ok (.iload 5, 2) := by decide +kernel
theorem dX5_offer_22 : decode cX5_offer 22 = .ok (.aload_n 0, 1) := by decide +kernel
theorem dX5_offer_23 : decode cX5_offer 23 = .ok (.getfield 26, 3) := by decide +kernel
theorem dX5_offer_26 : decode cX5_offer 26 = .ok (.if_icmp .le 14, 3) := by decide +kernel
theorem dX5_offer_29 : decode cX5_offer 29 = .ok (.aload_n 0, 1) := by decide +kernel
theorem dX5_offer_30 : decode cX5_offer 30 = .ok (.iload 5, 2) := by decide +kernel
theorem dX5_offer_32 : decode cX5_offer 32 = .ok (.putfield 26, 3) := by decide +kernel
theorem dX5_offer_35 : decode cX5_offer 35 = .ok (.aload_n 0, 1) := by decide +kernel
theorem dX5_offer_36 : decode cX5_offer 36 = .ok (.iload_n 1, 1) := by decide +kernel
theorem dX5_offer_37 : decode cX5_offer 37 = .ok (.putfield 22, 3) := by decide +kernel
theorem dX5_offer_40 : decode cX5_offer 40 = .ok (.return_, 1) := by decide +kernel

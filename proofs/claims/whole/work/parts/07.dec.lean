theorem dX7_punchAll_118 : decode cX7_punchAll 118 = .ok (.goto (-46), 3) := by decide +kernel
theorem dX7_punchAll_121 : decode cX7_punchAll 121 = .ok (.iload_n 2, 1) := by decide +kernel
theorem dX7_punchAll_122 : decode cX7_punchAll 122 = .ok (.ireturn, 1) := by decide +kernel
theorem dX7_undo_0 : decode cX7_undo 0 = .ok (.aload_n 0, 1) := by decide +kernel
theorem dX7_undo_1 : decode cX7_undo 1 = .ok (.aload_n 0, 1) := by decide +kernel
theorem dX7_undo_2 : decode cX7_undo 2 = .ok (.getfield 50, 3) := by decide +kernel
theorem dX7_undo_5 : decode cX7_undo 5 = .ok (.ifCond .le 7, 3) := by decide +kernel
theorem dX7_undo_8 : decode cX7_undo 8 = .ok (.iconst 0, 1) := by decide +kernel
theorem dX7_undo_9 : decode cX7_undo 9 = .ok (.goto 4, 3) := by decide +kernel
theorem dX7_undo_12 : decode cX7_undo 12 = .ok (.iconst 1, 1) := by decide +kernel
theorem dX7_undo_13 : decode cX7_undo 13 = .ok (.putfield 46, 3) := by decide +kernel
theorem dX7_undo_16 : decode cX7_undo 16 = .ok (.aload_n 0, 1) := by decide +kernel
theorem dX7_undo_17 : decode cX7_undo 17 = .ok (.getfield 46, 3) := by decide +kernel
theorem dX7_undo_20 : decode cX7_undo 20 = .ok (.ifCond .le 5, 3) := by decide +kernel
theorem dX7_undo_23 : decode cX7_undo 23 = .ok (.iconst 0, 1) := by decide +kernel
theorem dX7_undo_24 : decode cX7_undo 24 = .ok (.ireturn, 1) := by decide +kernel
theorem dX7_undo_25 : decode cX7_undo 25 = .ok (.aload_n 0, 1) := by decide +kernel
theorem dX7_undo_26 : decode cX7_undo 26 = .ok (.dup, 1) := by decide +kernel
theorem dX7_undo_27 : decode cX7_undo 27 = .ok (.getfield 50, 3) := by decide +kernel
theorem dX7_undo_30 : decode cX7_undo 30 = .ok (.iconst 1, 1) := by decide +kernel
theorem dX7_undo_31 : decode cX7_undo 31 = .ok (.isub, 1) := by decide +kernel
theorem dX7_undo_32 : decode cX7_undo 32 = .ok (.putfield 50, 3) := by decide +kernel
theorem dX7_undo_35 : decode cX7_undo 35 = .ok (.iconst 0, 1) := by decide +kernel
theorem dX7_undo_36 : decode cX7_undo 36 = .ok (.istore_n 1, 1) := by decide +kernel
theorem dX7_undo_37 : decode cX7_undo 37 = .ok (.iload_n 1, 1) := by decide +kernel
theorem dX7_undo_38 : decode cX7_undo 38 = .ok (.sipush 578, 3) := by decide +kernel
theorem dX7_undo_41 : decode cX7_undo 41 = .ok (.if_icmp .ge 30, 3) := by decide +kernel
theorem dX7_undo_44 : decode cX7_undo 44 = .ok (.aload_n 0, 1) := by decide +kernel
theorem dX7_undo_45 : decode cX7_undo 45 = .ok (.getfield 7, 3) := by decide +kernel
theorem dX7_undo_48 : decode cX7_undo 48 = .ok (.iload_n 1, 1) := by decide +kernel
theorem dX7_undo_49 : decode cX7_undo 49 = .ok (.aload_n 0, 1) := by decide +kernel
theorem dX7_undo_50 : decode cX7_undo 50 = .ok (.getfield 13, 3) := by decide +kernel
theorem dX7_undo_53 : decode cX7_undo 53 = .ok (.sipush 578, 3) := by decide +kernel
theorem dX7_undo_56 : decode cX7_undo 56 = .ok (.aload_n 0, 1) := by decide +kernel
theorem dX7_undo_57 : decode cX7_undo 57 = .ok (.getfield 50, 3) := by decide +kernel
theorem dX7_undo_60 : decode cX7_undo 60 = .ok (.imul, 1) := by decide +kernel
theorem dX7_undo_61 : decode cX7_undo 61 = .ok (.iload_n 1, 1) := by decide +kernel
theorem dX7_undo_62 : decode cX7_undo 62 = .ok (.iadd, 1) := by decide +kernel
theorem dX7_undo_63 : decode cX7_undo 63 = .ok (.iaload, 1) := by decide +kernel
theorem dX7_undo_64 : decode cX7_undo 64 = .ok (.iastore, 1) := by decide +kernel
theorem dX7_undo_65 : decode cX7_undo 65 = .ok (.iinc 1 1, 3) := by decide +kernel
theorem dX7_undo_68 : decode cX7_undo 68 = .ok (.goto (-31), 3) := by decide +kernel
theorem dX7_undo_71 : decode cX7_undo 71 = .ok (.aload_n 0, 1) := by decide +kernel
theorem dX7_undo_72 : decode cX7_undo 72 = .ok (.getfield 50, 3) := by decide +kernel
theorem dX7_undo_75 : decode cX7_undo 75 = .ok (.ireturn, 1) := by decide +kernel
set_option maxRecDepth 20000 in
theorem ggX7_readFor_X7_aside : GoodIn wsX7_readFor wsX7_aside := goodIn_r _ [5, 6, 10, 11, 12, 13, 14, 15, 16, 17, 18, 19, 20, 21, 22, 23, 24, 25, 26, 27, 28] (by decide +kernel) (by decide +kernel)
set_option maxRecDepth 20000 in
theorem gX7_readFor_X7_aside : GoodIn wsX7_readFor (wsV RX7 61 RX7 yX7_aside wsX7_aside) := goodIn_app (goodIn_of _ (by decide +kernel)) ggX7_readFor_X7_aside
set_option maxRecDepth 20000 in
theorem ggX7_readFor_X7_within : GoodIn wsX7_readFor wsX7_within := goodIn_r _ [9] (by decide +kernel) (by decide +kernel)
set_option maxRecDepth 20000 in
theorem gX7_readFor_X7_within : GoodIn wsX7_readFor (va_wsS RX7 53 yX7_within wsX7_within) := goodIn_app (goodIn_of _ (by decide +kernel)) ggX7_readFor_X7_within
theorem dX7_readFor_0 : decode cX7_readFor 0 = .ok (.iload_n 2, 1) := by decide +kernel
theorem dX7_readFor_1 : decode cX7_readFor 1 = .ok (.iconst 3, 1) := by decide +kernel
theorem dX7_readFor_2 : decode cX7_readFor 2 = .ok (.isub, 1) := by decide +kernel
theorem dX7_readFor_3 : decode cX7_readFor 3 = .ok (.aload_n 0, 1) := by decide +kernel
theorem dX7_readFor_4 : decode cX7_readFor 4 = .ok (.iload_n 1, 1) := by decide +kernel
theorem dX7_readFor_5 : decode cX7_readFor 5 = .ok (.invokevirtual 61, 3) := by decide +kernel
theorem dX7_readFor_8 : decode cX7_readFor 8 = .ok (.isub, 1) := by decide +kernel
theorem dX7_readFor_9 : decode cX7_readFor 9 = .ok (.istore_n 3, 1) := by decide +kernel
theorem dX7_readFor_10 : decode cX7_readFor 10 = .ok (.iload_n 3, 1) := by decide +kernel
theorem dX7_readFor_11 : decode cX7_readFor 11 = .ok (.iconst (-1), 1) := by decide +kernel
theorem dX7_readFor_12 : decode cX7_readFor 12 = .ok (.if_icmp .ne 8, 3) := by decide +kernel
theorem dX7_readFor_15 : decode cX7_readFor 15 = .ok (.bipush (-2), 2) := by decide +kernel
theorem dX7_readFor_17 : decode cX7_readFor 17 = .ok (.goto 18, 3) := by decide +kernel
theorem dX7_readFor_20 : decode cX7_readFor 20 = .ok (.iload_n 3, 1) := by decide +kernel
theorem dX7_readFor_21 : decode cX7_readFor 21 = .ok (.iconst 0, 1) := by decide +kernel
theorem dX7_readFor_22 : decode cX7_readFor 22 = .ok (.bipush 19, 2) := by decide +kernel
theorem dX7_readFor_24 : decode cX7_readFor 24 = .ok (.invokestatic 53, 3) := by decide +kernel
theorem dX7_readFor_27 : decode cX7_readFor 27 = .ok (.ifCond .eq 7, 3) := by decide +kernel
theorem dX7_readFor_30 : decode cX7_readFor 30 = .ok (.iload_n 3, 1) := by decide +kernel
theorem dX7_readFor_31 : decode cX7_readFor 31 = .ok (.goto 4, 3) := by decide +kernel
theorem dX7_readFor_34 : decode cX7_readFor 34 = .ok (.iconst (-1), 1) := by decide +kernel
theorem dX7_readFor_35 : decode cX7_readFor 35 = .ok (.ireturn, 1) := by decide +kernel
set_option maxRecDepth 20000 in
theorem ggX7_place_X7_isStep : GoodIn wsX7_place wsX7_isStep := goodIn_r _ [6, 7, 8, 5, 9] (by decide +kernel) (by decide +kernel)
set_option maxRecDepth 20000 in
theorem gX7_place_X7_isStep : GoodIn wsX7_place (va_wsS RX7 106 yX7_isStep wsX7_isStep) := goodIn_app (goodIn_of _ (by decide +kernel)) ggX7_place_X7_isStep
set_option maxRecDepth 20000 in
theorem ggX7_place_X7_isTrack : GoodIn wsX7_place wsX7_isTrack := goodIn_r _ [12, 7, 8, 5, 9] (by decide +kernel) (by decide +kernel)
set_option maxRecDepth 20000 in
theorem gX7_place_X7_isTrack : GoodIn wsX7_place (va_wsS RX7 64 yX7_isTrack wsX7_isTrack) := goodIn_app (goodIn_of _ (by decide +kernel)) ggX7_place_X7_isTrack
set_option maxRecDepth 20000 in
theorem ggX7_place_X7_within : GoodIn wsX7_place wsX7_within := goodIn_r _ [9] (by decide +kernel) (by decide +kernel)
set_option maxRecDepth 20000 in
theorem gX7_place_X7_within : GoodIn wsX7_place (va_wsS RX7 53 yX7_within wsX7_within) := goodIn_app (goodIn_of _ (by decide +kernel)) ggX7_place_X7_within
set_option maxRecDepth 20000 in
theorem ggX7_place_X7_readFor : GoodIn wsX7_place wsX7_readFor := goodIn_r _ [16, 17, 18, 19, 5, 20, 2, 7, 8, 9, 21, 22, 23, 24, 25, 26, 27, 28, 29, 30, 31, 32, 33, 34, 35, 36, 37, 38, 39] (by decide +kernel) (by decide +kernel)
set_option maxRecDepth 20000 in
theorem gX7_place_X7_readFor : GoodIn wsX7_place (wsV RX7 166 RX7 yX7_readFor wsX7_readFor) := goodIn_app (goodIn_of _ (by decide +kernel)) ggX7_place_X7_readFor
theorem dX7_place_0 : decode cX7_place 0 = .ok (.aload_n 0, 1) := by decide +kernel
theorem dX7_place_1 : decode cX7_place 1 = .ok (.iload_n 1, 1) := by decide +kernel
theorem dX7_place_2 : decode cX7_place 2 = .ok (.invokestatic 106, 3) := by decide +kernel
theorem dX7_place_5 : decode cX7_place 5 = .ok (.ifCond .eq 10, 3) := by decide +kernel
theorem dX7_place_8 : decode cX7_place 8 = .ok (.iload_n 2, 1) := by decide +kernel
theorem dX7_place_9 : decode cX7_place 9 = .ok (.invokestatic 64, 3) := by decide +kernel
theorem dX7_place_12 : decode cX7_place 12 = .ok (.ifCond .ne 7, 3) := by decide +kernel
theorem dX7_place_15 : decode cX7_place 15 = .ok (.iconst 1, 1) := by decide +kernel
theorem dX7_place_16 : decode cX7_place 16 = .ok (.goto 17, 3) := by decide +kernel
theorem dX7_place_19 : decode cX7_place 19 = .ok (.iload_n 3, 1) := by decide +kernel
theorem dX7_place_20 : decode cX7_place 20 = .ok (.iconst 0, 1) := by decide +kernel
theorem dX7_place_21 : decode cX7_place 21 = .ok (.iconst 2, 1) := by decide +kernel
theorem dX7_place_22 : decode cX7_place 22 = .ok (.invokestatic 53, 3) := by decide +kernel
theorem dX7_place_25 : decode cX7_place 25 = .ok (.ifCond .eq 7, 3) := by decide +kernel
theorem dX7_place_28 : decode cX7_place 28 = .ok (.iconst 0, 1) := by decide +kernel
theorem dX7_place_29 : decode cX7_place 29 = .ok (.goto 4, 3) := by decide +kernel
theorem dX7_place_32 : decode cX7_place 32 = .ok (.iconst 2, 1) := by decide +kernel
theorem dX7_place_33 : decode cX7_place 33 = .ok (.putfield 46, 3) := by decide +kernel
theorem dX7_place_36 : decode cX7_place 36 = .ok (.aload_n 0, 1) := by decide +kernel
theorem dX7_place_37 : decode cX7_place 37 = .ok (.getfield 46, 3) := by decide +kernel
theorem dX7_place_40 : decode cX7_place 40 = .ok (.ifCond .le 5, 3) := by decide +kernel
theorem dX7_place_43 : decode cX7_place 43 = .ok (.iconst 0, 1) := by decide +kernel
theorem dX7_place_44 : decode cX7_place 44 = .ok (.ireturn, 1) := by decide +kernel
theorem dX7_place_45 : decode cX7_place 45 = .ok (.iload_n 3, 1) := by decide +kernel
theorem dX7_place_46 : decode cX7_place 46 = .ok (.ifCond .ne 18, 3) := by decide +kernel
theorem dX7_place_49 : decode cX7_place 49 = .ok (.aload_n 0, 1) := by decide +kernel
theorem dX7_place_50 : decode cX7_place 50 = .ok (.getfield 7, 3) := by decide +kernel
theorem dX7_place_53 : decode cX7_place 53 = .ok (.iconst 0, 1) := by decide +kernel
theorem dX7_place_54 : decode cX7_place 54 = .ok (.iload_n 1, 1) := by decide +kernel
theorem dX7_place_55 : decode cX7_place 55 = .ok (.iadd, 1) := by decide +kernel
theorem dX7_place_56 : decode cX7_place 56 = .ok (.iaload, 1) := by decide +kernel
theorem dX7_place_57 : decode cX7_place 57 = .ok (.iload_n 2, 1) := by decide +kernel
theorem dX7_place_58 : decode cX7_place 58 = .ok (.ishr, 1) := by decide +kernel
theorem dX7_place_59 : decode cX7_place 59 = .ok (.iconst 1, 1) := by decide +kernel
theorem dX7_place_60 : decode cX7_place 60 = .ok (.iand, 1) := by decide +kernel
theorem dX7_place_61 : decode cX7_place 61 = .ok (.goto 30, 3) := by decide +kernel
theorem dX7_place_64 : decode cX7_place 64 = .ok (.iload_n 3, 1) := by decide +kernel
theorem dX7_place_65 : decode cX7_place 65 = .ok (.iconst 1, 1) := by decide +kernel
theorem dX7_place_66 : decode cX7_place 66 = .ok (.if_icmp .ne 19, 3) := by decide +kernel
theorem dX7_place_69 : decode cX7_place 69 = .ok (.aload_n 0, 1) := by decide +kernel
theorem dX7_place_70 : decode cX7_place 70 = .ok (.getfield 7, 3) := by decide +kernel
theorem dX7_place_73 : decode cX7_place 73 = .ok (.bipush 96, 2) := by decide +kernel
theorem dX7_place_75 : decode cX7_place 75 = .ok (.iload_n 1, 1) := by decide +kernel
theorem dX7_place_76 : decode cX7_place 76 = .ok (.iadd, 1) := by decide +kernel
theorem dX7_place_77 : decode cX7_place 77 = .ok (.iaload, 1) := by decide +kernel
theorem dX7_place_78 : decode cX7_place 78 = .ok (.iload_n 2, 1) := by decide +kernel
theorem dX7_place_79 : decode cX7_place 79 = .ok (.ishr, 1) := by decide +kernel
theorem dX7_place_80 : decode cX7_place 80 = .ok (.iconst 1, 1) := by decide +kernel
theorem dX7_place_81 : decode cX7_place 81 = .ok (.iand, 1) := by decide +kernel
theorem dX7_place_82 : decode cX7_place 82 = .ok (.goto 9, 3) := by decide +kernel
theorem dX7_place_85 : decode cX7_place 85 = .ok (.aload_n 0, 1) := by decide +kernel
theorem dX7_place_86 : decode cX7_place 86 = .ok (.iload_n 1, 1) := by decide +kernel
theorem dX7_place_87 : decode cX7_place 87 = .ok (.iload_n 2, 1) := by decide +kernel
theorem dX7_place_88 : decode cX7_place 88 = .ok (.invokevirtual 166, 3) := by decide +kernel
theorem dX7_place_91 : decode cX7_place 91 = .ok (.ireturn, 1) := by decide +kernel
theorem dX7_isDown_0 : decode cX7_isDown 0 = .ok (.aload_n 0, 1) := by decide +kernel
theorem dX7_isDown_1 : decode cX7_isDown 1 = .ok (.getfield 28, 3) := by decide +kernel
theorem dX7_isDown_4 : decode cX7_isDown 4 = .ok (.iload_n 1, 1) := by decide +kernel
theorem dX7_isDown_5 : decode cX7_isDown 5 = .ok (.iaload, 1) := by decide +kernel
theorem dX7_isDown_6 : decode cX7_isDown 6 = .ok (.bipush 20, 2) := by decide +kernel
theorem dX7_isDown_8 : decode cX7_isDown 8 = .ok (.ishr, 1) := by decide +kernel
theorem dX7_isDown_9 : decode cX7_isDown 9 = .ok (.iconst 1, 1) := by decide +kernel
theorem dX7_isDown_10 : decode cX7_isDown 10 = .ok (.iand, 1) := by decide +kernel
theorem dX7_isDown_11 : decode cX7_isDown 11 = .ok (.iconst 1, 1) := by decide +kernel
theorem dX7_isDown_12 : decode cX7_isDown 12 = .ok (.if_icmp .ne 7, 3) := by decide +kernel
theorem dX7_isDown_15 : decode cX7_isDown 15 = .ok (.iconst 1, 1) := by decide +kernel
theorem dX7_isDown_16 : decode cX7_isDown 16 = .ok (.goto 4, 3) := by decide +kernel
theorem dX7_isDown_19 : decode cX7_isDown 19 = .ok (.iconst 0, 1) := by decide +kernel
theorem dX7_isDown_20 : decode cX7_isDown 20 = .ok (.ireturn, 1) := by decide +kernel
set_option maxRecDepth 20000 in
theorem ggX7_soundsTo_X7_isDown : GoodIn wsX7_soundsTo wsX7_isDown := goodIn_r _ [9, 10, 14, 15, 16, 17, 18, 19, 20, 21, 22, 23, 24, 25, 26, 27, 28, 29, 30, 31, 32] (by decide +kernel) (by decide +kernel)
set_option maxRecDepth 20000 in
theorem gX7_soundsTo_X7_isDown : GoodIn wsX7_soundsTo (wsV RX7 169 RX7 yX7_isDown wsX7_isDown) := goodIn_app (goodIn_of _ (by decide +kernel)) ggX7_soundsTo_X7_isDown
set_option maxRecDepth 20000 in
theorem ggX7_soundsTo_X7_endFrom : GoodIn wsX7_soundsTo wsX7_endFrom := goodIn_r _ [13] (by decide +kernel) (by decide +kernel)
set_option maxRecDepth 20000 in
theorem gX7_soundsTo_X7_endFrom : GoodIn wsX7_soundsTo (va_wsS RX7 82 yX7_endFrom wsX7_endFrom) := goodIn_app (goodIn_of _ (by decide +kernel)) ggX7_soundsTo_X7_endFrom
theorem dX7_soundsTo_0 : decode cX7_soundsTo 0 = .ok (.aload_n 0, 1) := by decide +kernel
theorem dX7_soundsTo_1 : decode cX7_soundsTo 1 = .ok (.getfield 37, 3) := by decide +kernel
theorem dX7_soundsTo_4 : decode cX7_soundsTo 4 = .ok (.iload_n 1, 1) := by decide +kernel
theorem dX7_soundsTo_5 : decode cX7_soundsTo 5 = .ok (.iaload, 1) := by decide +kernel
theorem dX7_soundsTo_6 : decode cX7_soundsTo 6 = .ok (.istore_n 2, 1) := by decide +kernel
theorem dX7_soundsTo_7 : decode cX7_soundsTo 7 = .ok (.aload_n 0, 1) := by decide +kernel
theorem dX7_soundsTo_8 : decode cX7_soundsTo 8 = .ok (.iload_n 2, 1) := by decide +kernel
theorem dX7_soundsTo_9 : decode cX7_soundsTo 9 = .ok (.invokevirtual 169, 3) := by decide +kernel
theorem dX7_soundsTo_12 : decode cX7_soundsTo 12 = .ok (.ifCond .ne 5, 3) := by decide +kernel
theorem dX7_soundsTo_15 : decode cX7_soundsTo 15 = .ok (.iload_n 2, 1) := by decide +kernel
theorem dX7_soundsTo_16 : decode cX7_soundsTo 16 = .ok (.ireturn, 1) := by decide +kernel
theorem dX7_soundsTo_17 : decode cX7_soundsTo 17 = .ok (.aload_n 0, 1) := by decide +kernel
theorem dX7_soundsTo_18 : decode cX7_soundsTo 18 = .ok (.getfield 25, 3) := by decide +kernel
theorem dX7_soundsTo_21 : decode cX7_soundsTo 21 = .ok (.bipush 20, 2) := by decide +kernel
theorem dX7_soundsTo_23 : decode cX7_soundsTo 23 = .ok (.iload_n 2, 1) := by decide +kernel
theorem dX7_soundsTo_24 : decode cX7_soundsTo 24 = .ok (.invokestatic 82, 3) := by decide +kernel
theorem dX7_soundsTo_27 : decode cX7_soundsTo 27 = .ok (.istore_n 3, 1) := by decide +kernel
theorem dX7_soundsTo_28 : decode cX7_soundsTo 28 = .ok (.iload_n 2, 1) := by decide +kernel
theorem dX7_soundsTo_29 : decode cX7_soundsTo 29 = .ok (.iconst 1, 1) := by decide +kernel
theorem dX7_soundsTo_30 : decode cX7_soundsTo 30 = .ok (.iadd, 1) := by decide +kernel
theorem dX7_soundsTo_31 : decode cX7_soundsTo 31 = .ok (.istore 4, 2) := by decide +kernel
theorem dX7_soundsTo_33 : decode cX7_soundsTo 33 = .ok (.iload 4, 2) := by decide +kernel
theorem dX7_soundsTo_35 : decode cX7_soundsTo 35 = .ok (.iload_n 3, 1) := by decide +kernel
theorem dX7_soundsTo_36 : decode cX7_soundsTo 36 = .ok (.if_icmp .gt 34, 3) := by decide +kernel
theorem dX7_soundsTo_39 : decode cX7_soundsTo 39 = .ok (.aload_n 0, 1) := by decide +kernel
theorem dX7_soundsTo_40 : decode cX7_soundsTo 40 = .ok (.getfield 22, 3) := by decide +kernel
theorem dX7_soundsTo_43 : decode cX7_soundsTo 43 = .ok (.iload 4, 2) := by decide +kernel
theorem dX7_soundsTo_45 : decode cX7_soundsTo 45 = .ok (.iaload, 1) := by decide +kernel
theorem dX7_soundsTo_46 : decode cX7_soundsTo 46 = .ok (.aload_n 0, 1) := by decide +kernel
theorem dX7_soundsTo_47 : decode cX7_soundsTo 47 = .ok (.getfield 31, 3) := by decide +kernel
theorem dX7_soundsTo_50 : decode cX7_soundsTo 50 = .ok (.iload_n 1, 1) := by decide +kernel
theorem dX7_soundsTo_51 : decode cX7_soundsTo 51 = .ok (.iaload, 1) := by decide +kernel
theorem dX7_soundsTo_52 : decode cX7_soundsTo 52 = .ok (.ishr, 1) := by decide +kernel
theorem dX7_soundsTo_53 : decode cX7_soundsTo 53 = .ok (.iconst 1, 1) := by decide +kernel
theorem dX7_soundsTo_54 : decode cX7_soundsTo 54 = .ok (.iand, 1) := by decide +kernel
theorem dX7_soundsTo_55 : decode cX7_soundsTo 55 = .ok (.iconst 1, 1) := by decide +kernel
theorem dX7_soundsTo_56 : decode cX7_soundsTo 56 = .ok (.if_icmp .ne 8, 3) := by decide +kernel
theorem dX7_soundsTo_59 : decode cX7_soundsTo 59 = .ok (.iload 4, 2) := by decide +kernel
theorem dX7_soundsTo_61 : decode cX7_soundsTo 61 = .ok (.iconst 1, 1) := by decide +kernel
theorem dX7_soundsTo_62 : decode cX7_soundsTo 62 = .ok (.isub, 1) := by decide +kernel
theorem dX7_soundsTo_63 : decode cX7_soundsTo 63 = .ok (.ireturn, 1) := by decide +kernel
theorem dX7_soundsTo_64 : decode cX7_soundsTo 64 = .ok (.iinc 4 1, 3) := by decide +kernel
theorem dX7_soundsTo_67 : decode cX7_soundsTo 67 = .ok (.goto (-34), 3) := by decide +kernel
theorem dX7_soundsTo_70 : decode cX7_soundsTo 70 = .ok (.iload_n 3, 1) := by decide +kernel
theorem dX7_soundsTo_71 : decode cX7_soundsTo 71 = .ok (.ireturn, 1) := by decide +kernel
set_option maxRecDepth 20000 in
theorem ggX7_soundAt_X7_soundsTo : GoodIn wsX7_soundAt wsX7_soundsTo := goodIn_r _ [8, 9, 10, 11, 3, 12, 13, 14, 7, 15, 16, 17, 18, 19, 20, 21, 22, 23, 24, 25, 26, 27, 28, 29, 30, 31, 32, 33, 34, 35, 36, 37, 38] (by decide +kernel) (by decide +kernel)
set_option maxRecDepth 20000 in
theorem gX7_soundAt_X7_soundsTo : GoodIn wsX7_soundAt (wsV RX7 172 RX7 yX7_soundsTo wsX7_soundsTo) := goodIn_app (goodIn_of _ (by decide +kernel)) ggX7_soundAt_X7_soundsTo
theorem dX7_soundAt_0 : decode cX7_soundAt 0 = .ok (.iconst 0, 1) := by decide +kernel
theorem dX7_soundAt_1 : decode cX7_soundAt 1 = .ok (.istore_n 2, 1) := by decide +kernel
theorem dX7_soundAt_2 : decode cX7_soundAt 2 = .ok (.iconst 0, 1) := by decide +kernel
theorem dX7_soundAt_3 : decode cX7_soundAt 3 = .ok (.istore_n 3, 1) := by decide +kernel
theorem dX7_soundAt_4 : decode cX7_soundAt 4 = .ok (.iload_n 3, 1) := by decide +kernel
theorem dX7_soundAt_5 : decode cX7_soundAt 5 = .ok (.aload_n 0, 1) := by decide +kernel
theorem dX7_soundAt_6 : decode cX7_soundAt 6 = .ok (.getfield 79, 3) := by decide +kernel
theorem dX7_soundAt_9 : decode cX7_soundAt 9 = .ok (.if_icmp .ge 43, 3) := by decide +kernel
theorem dX7_soundAt_12 : decode cX7_soundAt 12 = .ok (.iload_n 2, 1) := by decide +kernel
theorem dX7_soundAt_13 : decode cX7_soundAt 13 = .ok (.aload_n 0, 1) := by decide +kernel
theorem dX7_soundAt_14 : decode cX7_soundAt 14 = .ok (.getfield 34, 3) := by decide +kernel
theorem dX7_soundAt_17 : decode cX7_soundAt 17 = .ok (.iload_n 3, 1) := by decide +kernel
theorem dX7_soundAt_18 : decode cX7_soundAt 18 = .ok (.iaload, 1) := by decide +kernel
theorem dX7_soundAt_19 : decode cX7_soundAt 19 = .ok (.iload_n 1, 1) := by decide +kernel
theorem dX7_soundAt_20 : decode cX7_soundAt 20 = .ok (.if_icmp .gt 23, 3) := by decide +kernel
theorem dX7_soundAt_23 : decode cX7_soundAt 23 = .ok (.aload_n 0, 1) := by decide +kernel
theorem dX7_soundAt_24 : decode cX7_soundAt 24 = .ok (.iload_n 3, 1) := by decide +kernel
theorem dX7_soundAt_25 : decode cX7_soundAt 25 = .ok (.invokevirtual 172, 3) := by decide +kernel
theorem dX7_soundAt_28 : decode cX7_soundAt 28 = .ok (.iload_n 1, 1) := by decide +kernel
theorem dX7_soundAt_29 : decode cX7_soundAt 29 = .ok (.if_icmp .lt 14, 3) := by decide +kernel
theorem dX7_soundAt_32 : decode cX7_soundAt 32 = .ok (.iconst 1, 1) := by decide +kernel
theorem dX7_soundAt_33 : decode cX7_soundAt 33 = .ok (.aload_n 0, 1) := by decide +kernel
theorem dX7_soundAt_34 : decode cX7_soundAt 34 = .ok (.getfield 31, 3) := by decide +kernel
theorem dX7_soundAt_37 : decode cX7_soundAt 37 = .ok (.iload_n 3, 1) := by decide +kernel
theorem dX7_soundAt_38 : decode cX7_soundAt 38 = .ok (.iaload, 1) := by decide +kernel
theorem dX7_soundAt_39 : decode cX7_soundAt 39 = .ok (.ishl, 1) := by decide +kernel
theorem dX7_soundAt_40 : decode cX7_soundAt 40 = .ok (.goto 4, 3) := by decide +kernel
theorem dX7_soundAt_43 : decode cX7_soundAt 43 = .ok (.iconst 0, 1) := by decide +kernel
theorem dX7_soundAt_44 : decode cX7_soundAt 44 = .ok (.ior, 1) := by decide +kernel
theorem dX7_soundAt_45 : decode cX7_soundAt 45 = .ok (.istore_n 2, 1) := by decide +kernel
theorem dX7_soundAt_46 : decode cX7_soundAt 46 = .ok (.iinc 3 1, 3) := by decide +kernel
theorem dX7_soundAt_49 : decode cX7_soundAt 49 = .ok (.goto (-45), 3) := by decide +kernel
theorem dX7_soundAt_52 : decode cX7_soundAt 52 = .ok (.iload_n 2, 1) := by decide +kernel
theorem dX7_soundAt_53 : decode cX7_soundAt 53 = .ok (.ireturn, 1) := by decide +kernel
set_option maxRecDepth 20000 in
theorem ggX7_isWished_X7_isStep : GoodIn wsX7_isWished wsX7_isStep := goodIn_r _ [8, 9, 10, 7, 11] (by decide +kernel) (by decide +kernel)
set_option maxRecDepth 20000 in
theorem gX7_isWished_X7_isStep : GoodIn wsX7_isWished (va_wsS RX7 106 yX7_isStep wsX7_isStep) := goodIn_app (goodIn_of _ (by decide +kernel)) ggX7_isWished_X7_isStep
theorem dX7_isWished_0 : decode cX7_isWished 0 = .ok (.ldc 138, 2) := by decide +kernel
theorem dX7_isWished_2 : decode cX7_isWished 2 = .ok (.istore_n 2, 1) := by decide +kernel
theorem dX7_isWished_3 : decode cX7_isWished 3 = .ok (.iconst 0, 1) := by decide +kernel
theorem dX7_isWished_4 : decode cX7_isWished 4 = .ok (.istore_n 3, 1) := by decide +kernel
theorem dX7_isWished_5 : decode cX7_isWished 5 = .ok (.iconst 0, 1) := by decide +kernel
theorem dX7_isWished_6 : decode cX7_isWished 6 = .ok (.istore 4, 2) := by decide +kernel
theorem dX7_isWished_8 : decode cX7_isWished 8 = .ok (.iconst 1, 1) := by decide +kernel
theorem dX7_isWished_9 : decode cX7_isWished 9 = .ok (.istore 5, 2) := by decide +kernel
theorem dX7_isWished_11 : decode cX7_isWished 11 = .ok (.iload 5, 2) := by decide +kernel
theorem dX7_isWished_13 : decode cX7_isWished 13 = .ok (.aload_n 0, 1) := by decide +kernel
theorem dX7_isWished_14 : decode cX7_isWished 14 = .ok (.getfield 7, 3) := by decide +kernel
theorem dX7_isWished_17 : decode cX7_isWished 17 = .ok (.sipush 385, 3) := by decide +kernel
theorem dX7_isWished_20 : decode cX7_isWished 20 = .ok (.iaload, 1) := by decide +kernel
theorem dX7_isWished_21 : decode cX7_isWished 21 = .ok (.if_icmp .gt 79, 3) := by decide +kernel
theorem dX7_isWished_24 : decode cX7_isWished 24 = .ok (.iload_n 3, 1) := by decide +kernel
theorem dX7_isWished_25 : decode cX7_isWished 25 = .ok (.ifCond .ne 27, 3) := by decide +kernel
theorem dX7_isWished_28 : decode cX7_isWished 28 = .ok (.iload_n 1, 1) := by decide +kernel
theorem dX7_isWished_29 : decode cX7_isWished 29 = .ok (.iload 5, 2) := by decide +kernel
theorem dX7_isWished_31 : decode cX7_isWished 31 = .ok (.isub, 1) := by decide +kernel
theorem dX7_isWished_32 : decode cX7_isWished 32 = .ok (.invokestatic 106, 3) := by decide +kernel
theorem dX7_isWished_35 : decode cX7_isWished 35 = .ok (.ifCond .eq 21, 3) := by decide +kernel
theorem dX7_isWished_38 : decode cX7_isWished 38 = .ok (.aload_n 0, 1) := by decide +kernel
theorem dX7_isWished_39 : decode cX7_isWished 39 = .ok (.getfield 28, 3) := by decide +kernel
theorem dX7_isWished_42 : decode cX7_isWished 42 = .ok (.iload_n 1, 1) := by decide +kernel
theorem dX7_isWished_43 : decode cX7_isWished 43 = .ok (.iload 5, 2) := by decide +kernel
theorem dX7_isWished_45 : decode cX7_isWished 45 = .ok (.isub, 1) := by decide +kernel
theorem dX7_isWished_46 : decode cX7_isWished 46 = .ok (.iaload, 1) := by decide +kernel
theorem dX7_isWished_47 : decode cX7_isWished 47 = .ok (.iload_n 2, 1) := by decide +kernel
theorem dX7_isWished_48 : decode cX7_isWished 48 = .ok (.iand, 1) := by decide +kernel
theorem dX7_isWished_49 : decode cX7_isWished 49 = .ok (.ifCond .eq 7, 3) := by decide +kernel
theorem dX7_isWished_52 : decode cX7_isWished 52 = .ok (.iconst 1, 1) := by decide +kernel
theorem dX7_isWished_53 : decode cX7_isWished 53 = .ok (.goto 4, 3) := by decide +kernel
theorem dX7_isWished_56 : decode cX7_isWished 56 = .ok (.iconst 0, 1) := by decide +kernel
theorem dX7_isWished_57 : decode cX7_isWished 57 = .ok (.istore_n 3, 1) := by decide +kernel
theorem dX7_isWished_58 : decode cX7_isWished 58 = .ok (.iload 4, 2) := by decide +kernel
theorem dX7_isWished_60 : decode cX7_isWished 60 = .ok (.ifCond .ne 27, 3) := by decide +kernel
theorem dX7_isWished_63 : decode cX7_isWished 63 = .ok (.iload_n 1, 1) := by decide +kernel
theorem dX7_isWished_64 : decode cX7_isWished 64 = .ok (.iload 5, 2) := by decide +kernel
theorem dX7_isWished_66 : decode cX7_isWished 66 = .ok (.iadd, 1) := by decide +kernel
theorem dX7_isWished_67 : decode cX7_isWished 67 = .ok (.invokestatic 106, 3) := by decide +kernel
theorem dX7_isWished_70 : decode cX7_isWished 70 = .ok (.ifCond .eq 21, 3) := by decide +kernel
theorem dX7_isWished_73 : decode cX7_isWished 73 = .ok (.aload_n 0, 1) := by decide +kernel
theorem dX7_isWished_74 : decode cX7_isWished 74 = .ok (.getfield 22, 3) := by decide +kernel
theorem dX7_isWished_77 : decode cX7_isWished 77 = .ok (.iload_n 1, 1) := by decide +kernel
theorem dX7_isWished_78 : decode cX7_isWished 78 = .ok (.iload 5, 2) := by decide +kernel
theorem dX7_isWished_80 : decode cX7_isWished 80 = .ok (.iadd, 1) := by decide +kernel
theorem dX7_isWished_81 : decode cX7_isWished 81 = .ok (.iaload, 1) := by decide +kernel
theorem dX7_isWished_82 : decode cX7_isWished 82 = .ok (.iload_n 2, 1) := by decide +kernel
theorem dX7_isWished_83 : decode cX7_isWished 83 = .ok (.iand, 1) := by decide +kernel
theorem dX7_isWished_84 : decode cX7_isWished 84 = .ok (.ifCond .eq 7, 3) := by decide +kernel
theorem dX7_isWished_87 : decode cX7_isWished 87 = .ok (.iconst 1, 1) := by decide +kernel
theorem dX7_isWished_88 : decode cX7_isWished 88 = .ok (.goto 4, 3) := by decide +kernel
theorem dX7_isWished_91 : decode cX7_isWished 91 = .ok (.iconst 0, 1) := by decide +kernel
theorem dX7_isWished_92 : decode cX7_isWished 92 = .ok (.istore 4, 2) := by decide +kernel
theorem dX7_isWished_94 : decode cX7_isWished 94 = .ok (.iinc 5 1, 3) := by decide +kernel
theorem dX7_isWished_97 : decode cX7_isWished 97 = .ok (.goto (-86), 3) := by decide +kernel
theorem dX7_isWished_100 : decode cX7_isWished 100 = .ok (.aload_n 0, 1) := by decide +kernel
theorem dX7_isWished_101 : decode cX7_isWished 101 = .ok (.getfield 28, 3) := by decide +kernel
theorem dX7_isWished_104 : decode cX7_isWished 104 = .ok (.iload_n 1, 1) := by decide +kernel
theorem dX7_isWished_105 : decode cX7_isWished 105 = .ok (.iaload, 1) := by decide +kernel
theorem dX7_isWished_106 : decode cX7_isWished 106 = .ok (.iload_n 2, 1) := by decide +kernel
theorem dX7_isWished_107 : decode cX7_isWished 107 = .ok (.iand, 1) := by decide +kernel
theorem dX7_isWished_108 : decode cX7_isWished 108 = .ok (.ifCond .ne 16, 3) := by decide +kernel
theorem dX7_isWished_111 : decode cX7_isWished 111 = .ok (.iload_n 3, 1) := by decide +kernel
theorem dX7_isWished_112 : decode cX7_isWished 112 = .ok (.ifCond .eq 12, 3) := by decide +kernel
theorem dX7_isWished_115 : decode cX7_isWished 115 = .ok (.iload 4, 2) := by decide +kernel
theorem dX7_isWished_117 : decode cX7_isWished 117 = .ok (.ifCond .eq 7, 3) := by decide +kernel
theorem dX7_isWished_120 : decode cX7_isWished 120 = .ok (.iconst 1, 1) := by decide +kernel
theorem dX7_isWished_121 : decode cX7_isWished 121 = .ok (.goto 4, 3) := by decide +kernel
theorem dX7_isWished_124 : decode cX7_isWished 124 = .ok (.iconst 0, 1) := by decide +kernel
theorem dX7_isWished_125 : decode cX7_isWished 125 = .ok (.ireturn, 1) := by decide +kernel
set_option maxRecDepth 20000 in
theorem ggX7_stepNow_X7_soundAt : GoodIn wsX7_stepNow wsX7_soundAt := goodIn_r _ [8, 9, 10, 11, 12, 13, 14, 7, 15, 16, 17, 18, 19, 20, 21, 22, 2, 23, 24, 25, 40, 41, 42, 43, 44, 45, 46, 47, 48, 49, 50, 51, 52, 53, 54, 55, 56, 57, 58] (by decide +kernel) (by decide +kernel)
set_option maxRecDepth 20000 in
theorem gX7_stepNow_X7_soundAt : GoodIn wsX7_stepNow (wsV RX7 175 RX7 yX7_soundAt wsX7_soundAt) := goodIn_app (goodIn_of _ (by decide +kernel)) ggX7_stepNow_X7_soundAt
set_option maxRecDepth 20000 in
theorem ggX7_stepNow_X7_isDown : GoodIn wsX7_stepNow wsX7_isDown := goodIn_r _ [22, 2, 40, 41, 42, 43, 44, 45, 46, 47, 48, 49, 50, 51, 52, 53, 54, 55, 56, 57, 58] (by decide +kernel) (by decide +kernel)
set_option maxRecDepth 20000 in
theorem gX7_stepNow_X7_isDown : GoodIn wsX7_stepNow (wsV RX7 169 RX7 yX7_isDown wsX7_isDown) := goodIn_app (goodIn_of _ (by decide +kernel)) ggX7_stepNow_X7_isDown
set_option maxRecDepth 20000 in
theorem ggX7_stepNow_X7_isWished : GoodIn wsX7_stepNow wsX7_isWished := goodIn_r _ [29, 3, 1, 2, 18, 30, 31, 7, 32, 33, 34, 35, 40, 41, 42, 43, 44, 45, 46, 47, 48, 49, 50, 51, 52, 53, 54, 55, 56, 57, 58] (by decide +kernel) (by decide +kernel)
set_option maxRecDepth 20000 in
theorem gX7_stepNow_X7_isWished : GoodIn wsX7_stepNow (wsV RX7 178 RX7 yX7_isWished wsX7_isWished) := goodIn_app (goodIn_of _ (by decide +kernel)) ggX7_stepNow_X7_isWished
set_option maxRecDepth 20000 in
theorem ggX7_stepNow_X7_openAt : GoodIn wsX7_stepNow wsX7_openAt := goodIn_r _ [39, 1, 40, 41, 42, 43, 44, 45, 46, 47, 48, 49, 50, 51, 52, 53, 54, 55, 56, 57, 58] (by decide +kernel) (by decide +kernel)
set_option maxRecDepth 20000 in
theorem gX7_stepNow_X7_openAt : GoodIn wsX7_stepNow (wsV RX7 57 RX7 yX7_openAt wsX7_openAt) := goodIn_app (goodIn_of _ (by decide +kernel)) ggX7_stepNow_X7_openAt
theorem dX7_stepNow_0 : decode cX7_stepNow 0 = .ok (.iload_n 2, 1) := by decide +kernel
theorem dX7_stepNow_1 : decode cX7_stepNow 1 = .ok (.tableswitch 105 0 5 #[39, 50, 61, 71, 77, 91], 39) := by decide +kernel
theorem dX7_stepNow_40 : decode cX7_stepNow 40 = .ok (.aload_n 0, 1) := by decide +kernel
theorem dX7_stepNow_41 : decode cX7_stepNow 41 = .ok (.getfield 7, 3) := by decide +kernel
theorem dX7_stepNow_44 : decode cX7_stepNow 44 = .ok (.sipush 192, 3) := by decide +kernel
theorem dX7_stepNow_47 : decode cX7_stepNow 47 = .ok (.iload_n 1, 1) := by decide +kernel
theorem dX7_stepNow_48 : decode cX7_stepNow 48 = .ok (.iadd, 1) := by decide +kernel
theorem dX7_stepNow_49 : decode cX7_stepNow 49 = .ok (.iaload, 1) := by decide +kernel
theorem dX7_stepNow_50 : decode cX7_stepNow 50 = .ok (.ireturn, 1) := by decide +kernel
theorem dX7_stepNow_51 : decode cX7_stepNow 51 = .ok (.aload_n 0, 1) := by decide +kernel
theorem dX7_stepNow_52 : decode cX7_stepNow 52 = .ok (.getfield 7, 3) := by decide +kernel
theorem dX7_stepNow_55 : decode cX7_stepNow 55 = .ok (.sipush 288, 3) := by decide +kernel
theorem dX7_stepNow_58 : decode cX7_stepNow 58 = .ok (.iload_n 1, 1) := by decide +kernel
theorem dX7_stepNow_59 : decode cX7_stepNow 59 = .ok (.iadd, 1) := by decide +kernel
theorem dX7_stepNow_60 : decode cX7_stepNow 60 = .ok (.iaload, 1) := by decide +kernel
theorem dX7_stepNow_61 : decode cX7_stepNow 61 = .ok (.ireturn, 1) := by decide +kernel
theorem dX7_stepNow_62 : decode cX7_stepNow 62 = .ok (.aload_n 0, 1) := by decide +kernel
theorem dX7_stepNow_63 : decode cX7_stepNow 63 = .ok (.getfield 28, 3) := by decide +kernel
theorem dX7_stepNow_66 : decode cX7_stepNow 66 = .ok (.iload_n 1, 1) := by decide +kernel
theorem dX7_stepNow_67 : decode cX7_stepNow 67 = .ok (.iaload, 1) := by decide +kernel
theorem dX7_stepNow_68 : decode cX7_stepNow 68 = .ok (.ldc 138, 2) := by decide +kernel
theorem dX7_stepNow_70 : decode cX7_stepNow 70 = .ok (.iand, 1) := by decide +kernel
theorem dX7_stepNow_71 : decode cX7_stepNow 71 = .ok (.ireturn, 1) := by decide +kernel
theorem dX7_stepNow_72 : decode cX7_stepNow 72 = .ok (.aload_n 0, 1) := by decide +kernel
theorem dX7_stepNow_73 : decode cX7_stepNow 73 = .ok (.iload_n 1, 1) := by decide +kernel
theorem dX7_stepNow_74 : decode cX7_stepNow 74 = .ok (.invokevirtual 175, 3) := by decide +kernel
theorem dX7_stepNow_77 : decode cX7_stepNow 77 = .ok (.ireturn, 1) := by decide +kernel
theorem dX7_stepNow_78 : decode cX7_stepNow 78 = .ok (.aload_n 0, 1) := by decide +kernel
theorem dX7_stepNow_79 : decode cX7_stepNow 79 = .ok (.iload_n 1, 1) := by decide +kernel
theorem dX7_stepNow_80 : decode cX7_stepNow 80 = .ok (.invokevirtual 169, 3) := by decide +kernel
theorem dX7_stepNow_83 : decode cX7_stepNow 83 = .ok (.ifCond .eq 7, 3) := by decide +kernel
theorem dX7_stepNow_86 : decode cX7_stepNow 86 = .ok (.iconst 1, 1) := by decide +kernel
theorem dX7_stepNow_87 : decode cX7_stepNow 87 = .ok (.goto 4, 3) := by decide +kernel
theorem dX7_stepNow_90 : decode cX7_stepNow 90 = .ok (.iconst 0, 1) := by decide +kernel
theorem dX7_stepNow_91 : decode cX7_stepNow 91 = .ok (.ireturn, 1) := by decide +kernel
theorem dX7_stepNow_92 : decode cX7_stepNow 92 = .ok (.aload_n 0, 1) := by decide +kernel
theorem dX7_stepNow_93 : decode cX7_stepNow 93 = .ok (.iload_n 1, 1) := by decide +kernel
theorem dX7_stepNow_94 : decode cX7_stepNow 94 = .ok (.invokevirtual 178, 3) := by decide +kernel
theorem dX7_stepNow_97 : decode cX7_stepNow 97 = .ok (.ifCond .eq 7, 3) := by decide +kernel
theorem dX7_stepNow_100 : decode cX7_stepNow 100 = .ok (.iconst 1, 1) := by decide +kernel
theorem dX7_stepNow_101 : decode cX7_stepNow 101 = .ok (.goto 4, 3) := by decide +kernel
theorem dX7_stepNow_104 : decode cX7_stepNow 104 = .ok (.iconst 0, 1) := by decide +kernel
theorem dX7_stepNow_105 : decode cX7_stepNow 105 = .ok (.ireturn, 1) := by decide +kernel
theorem dX7_stepNow_106 : decode cX7_stepNow 106 = .ok (.aload_n 0, 1) := by decide +kernel
theorem dX7_stepNow_107 : decode cX7_stepNow 107 = .ok (.iload_n 1, 1) := by decide +kernel
theorem dX7_stepNow_108 : decode cX7_stepNow 108 = .ok (.invokevirtual 57, 3) := by decide +kernel
theorem dX7_stepNow_111 : decode cX7_stepNow 111 = .ok (.ireturn, 1) := by decide +kernel
set_option maxRecDepth 20000 in
theorem ggX7_step_X7_isStep : GoodIn wsX7_step wsX7_isStep := goodIn_r _ [5, 6, 7, 4, 8] (by decide +kernel) (by decide +kernel)
set_option maxRecDepth 20000 in
theorem gX7_step_X7_isStep : GoodIn wsX7_step (va_wsS RX7 106 yX7_isStep wsX7_isStep) := goodIn_app (goodIn_of _ (by decide +kernel)) ggX7_step_X7_isStep
set_option maxRecDepth 20000 in
theorem ggX7_step_X7_within : GoodIn wsX7_step wsX7_within := goodIn_r _ [8] (by decide +kernel) (by decide +kernel)
set_option maxRecDepth 20000 in
theorem gX7_step_X7_within : GoodIn wsX7_step (va_wsS RX7 53 yX7_within wsX7_within) := goodIn_app (goodIn_of _ (by decide +kernel)) ggX7_step_X7_within
set_option maxRecDepth 20000 in
theorem ggX7_step_X7_lay : GoodIn wsX7_step wsX7_lay := goodIn_r _ [12, 13, 14, 15, 16, 17, 18, 19, 20, 21, 4, 22, 23, 24, 25, 26, 27, 28, 29, 30, 31, 32, 33, 34, 35, 36, 6, 7, 8, 37, 38, 39, 40, 41, 42, 43, 44, 45, 46, 47, 69, 70, 71, 72, 73, 74, 75, 76, 77, 78, 79, 80, 81, 82, 83, 84, 85, 86, 87] (by decide +kernel) (by decide +kernel)
set_option maxRecDepth 20000 in
theorem gX7_step_X7_lay : GoodIn wsX7_step (wsV RX7 93 RX7 yX7_lay wsX7_lay) := goodIn_app (goodIn_of _ (by decide +kernel)) ggX7_step_X7_lay
set_option maxRecDepth 20000 in
theorem ggX7_step_X7_stepNow : GoodIn wsX7_step wsX7_stepNow := goodIn_r _ [51, 29, 24, 52, 53, 54, 55, 4, 56, 13, 16, 15, 57, 58, 59, 60, 17, 18, 14, 61, 62, 63, 64, 45, 46, 47, 65, 66, 67, 68, 2, 3, 5, 6, 7, 8, 25, 26, 27, 28, 69, 70, 71, 72, 73, 74, 75, 76, 77, 78, 79, 80, 81, 82, 83, 84, 85, 86, 87] (by decide +kernel) (by decide +kernel)
set_option maxRecDepth 20000 in
theorem gX7_step_X7_stepNow : GoodIn wsX7_step (wsV RX7 181 RX7 yX7_stepNow wsX7_stepNow) := goodIn_app (goodIn_of _ (by decide +kernel)) ggX7_step_X7_stepNow
theorem dX7_step_0 : decode cX7_step 0 = .ok (.aload_n 0, 1) := by decide +kernel
theorem dX7_step_1 : decode cX7_step 1 = .ok (.iload_n 1, 1) := by decide +kernel
theorem dX7_step_2 : decode cX7_step 2 = .ok (.invokestatic 106, 3) := by decide +kernel
theorem dX7_step_5 : decode cX7_step 5 = .ok (.ifCond .ne 7, 3) := by decide +kernel
theorem dX7_step_8 : decode cX7_step 8 = .ok (.iconst 1, 1) := by decide +kernel
theorem dX7_step_9 : decode cX7_step 9 = .ok (.goto 18, 3) := by decide +kernel
theorem dX7_step_12 : decode cX7_step 12 = .ok (.iload_n 2, 1) := by decide +kernel
theorem dX7_step_13 : decode cX7_step 13 = .ok (.iconst 0, 1) := by decide +kernel
theorem dX7_step_14 : decode cX7_step 14 = .ok (.bipush 6, 2) := by decide +kernel
theorem dX7_step_16 : decode cX7_step 16 = .ok (.invokestatic 53, 3) := by decide +kernel
theorem dX7_step_19 : decode cX7_step 19 = .ok (.ifCond .eq 7, 3) := by decide +kernel
theorem dX7_step_22 : decode cX7_step 22 = .ok (.iconst 0, 1) := by decide +kernel
theorem dX7_step_23 : decode cX7_step 23 = .ok (.goto 4, 3) := by decide +kernel
theorem dX7_step_26 : decode cX7_step 26 = .ok (.iconst 2, 1) := by decide +kernel
theorem dX7_step_27 : decode cX7_step 27 = .ok (.putfield 46, 3) := by decide +kernel
theorem dX7_step_30 : decode cX7_step 30 = .ok (.aload_n 0, 1) := by decide +kernel
theorem dX7_step_31 : decode cX7_step 31 = .ok (.getfield 46, 3) := by decide +kernel
theorem dX7_step_34 : decode cX7_step 34 = .ok (.ifCond .le 5, 3) := by decide +kernel
theorem dX7_step_37 : decode cX7_step 37 = .ok (.iconst 0, 1) := by decide +kernel
theorem dX7_step_38 : decode cX7_step 38 = .ok (.ireturn, 1) := by decide +kernel
theorem dX7_step_39 : decode cX7_step 39 = .ok (.aload_n 0, 1) := by decide +kernel
theorem dX7_step_40 : decode cX7_step 40 = .ok (.invokevirtual 93, 3) := by decide +kernel
theorem dX7_step_43 : decode cX7_step 43 = .ok (.aload_n 0, 1) := by decide +kernel
theorem dX7_step_44 : decode cX7_step 44 = .ok (.iload_n 1, 1) := by decide +kernel
theorem dX7_step_45 : decode cX7_step 45 = .ok (.iload_n 2, 1) := by decide +kernel
theorem dX7_step_46 : decode cX7_step 46 = .ok (.invokevirtual 181, 3) := by decide +kernel
theorem dX7_step_49 : decode cX7_step 49 = .ok (.ireturn, 1) := by decide +kernel
theorem dX7_holesOf_0 : decode cX7_holesOf 0 = .ok (.iconst 0, 1) := by decide +kernel
theorem dX7_holesOf_1 : decode cX7_holesOf 1 = .ok (.istore_n 2, 1) := by decide +kernel
theorem dX7_holesOf_2 : decode cX7_holesOf 2 = .ok (.aload_n 0, 1) := by decide +kernel
theorem dX7_holesOf_3 : decode cX7_holesOf 3 = .ok (.getfield 34, 3) := by decide +kernel
theorem dX7_holesOf_6 : decode cX7_holesOf 6 = .ok (.iload_n 1, 1) := by decide +kernel
theorem dX7_holesOf_7 : decode cX7_holesOf 7 = .ok (.iaload, 1) := by decide +kernel
theorem dX7_holesOf_8 : decode cX7_holesOf 8 = .ok (.istore_n 3, 1) := by decide +kernel
theorem dX7_holesOf_9 : decode cX7_holesOf 9 = .ok (.iload_n 3, 1) := by decide +kernel
theorem dX7_holesOf_10 : decode cX7_holesOf 10 = .ok (.aload_n 0, 1) := by decide +kernel
theorem dX7_holesOf_11 : decode cX7_holesOf 11 = .ok (.getfield 37, 3) := by decide +kernel
theorem dX7_holesOf_14 : decode cX7_holesOf 14 = .ok (.iload_n 1, 1) := by decide +kernel
theorem dX7_holesOf_15 : decode cX7_holesOf 15 = .ok (.iaload, 1) := by decide +kernel
theorem dX7_holesOf_16 : decode cX7_holesOf 16 = .ok (.if_icmp .gt 27, 3) := by decide +kernel
theorem dX7_holesOf_19 : decode cX7_holesOf 19 = .ok (.iload_n 2, 1) := by decide +kernel
theorem dX7_holesOf_20 : decode cX7_holesOf 20 = .ok (.aload_n 0, 1) := by decide +kernel
theorem dX7_holesOf_21 : decode cX7_holesOf 21 = .ok (.getfield 19, 3) := by decide +kernel
theorem dX7_holesOf_24 : decode cX7_holesOf 24 = .ok (.iload_n 3, 1) := by decide +kernel
theorem dX7_holesOf_25 : decode cX7_holesOf 25 = .ok (.iaload, 1) := by decide +kernel
theorem dX7_holesOf_26 : decode cX7_holesOf 26 = .ok (.aload_n 0, 1) := by decide +kernel
theorem dX7_holesOf_27 : decode cX7_holesOf 27 = .ok (.getfield 31, 3) := by decide +kernel
theorem dX7_holesOf_30 : decode cX7_holesOf 30 = .ok (.iload_n 1, 1) := by decide +kernel
theorem dX7_holesOf_31 : decode cX7_holesOf 31 = .ok (.iaload, 1) := by decide +kernel
theorem dX7_holesOf_32 : decode cX7_holesOf 32 = .ok (.ishr, 1) := by decide +kernel
theorem dX7_holesOf_33 : decode cX7_holesOf 33 = .ok (.iconst 1, 1) := by decide +kernel
theorem dX7_holesOf_34 : decode cX7_holesOf 34 = .ok (.iand, 1) := by decide +kernel
theorem dX7_holesOf_35 : decode cX7_holesOf 35 = .ok (.iadd, 1) := by decide +kernel
theorem dX7_holesOf_36 : decode cX7_holesOf 36 = .ok (.istore_n 2, 1) := by decide +kernel
theorem dX7_holesOf_37 : decode cX7_holesOf 37 = .ok (.iinc 3 1, 3) := by decide +kernel
theorem dX7_holesOf_40 : decode cX7_holesOf 40 = .ok (.goto (-31), 3) := by decide +kernel
theorem dX7_holesOf_43 : decode cX7_holesOf 43 = .ok (.iload_n 2, 1) := by decide +kernel
theorem dX7_holesOf_44 : decode cX7_holesOf 44 = .ok (.ireturn, 1) := by decide +kernel
set_option maxRecDepth 20000 in
theorem ggX7_playedNow_X7_soundsTo : GoodIn wsX7_playedNow wsX7_soundsTo := goodIn_r _ [8, 3, 9, 10, 1, 11, 12, 13, 7, 14, 15, 16, 17, 18, 33, 34, 35, 36, 37, 38, 39, 40, 41, 42, 43, 44, 45, 46, 47, 48, 49, 50, 51] (by decide +kernel) (by decide +kernel)
set_option maxRecDepth 20000 in
theorem gX7_playedNow_X7_soundsTo : GoodIn wsX7_playedNow (wsV RX7 172 RX7 yX7_soundsTo wsX7_soundsTo) := goodIn_app (goodIn_of _ (by decide +kernel)) ggX7_playedNow_X7_soundsTo
set_option maxRecDepth 20000 in
theorem ggX7_playedNow_X7_holesOf : GoodIn wsX7_playedNow wsX7_holesOf := goodIn_r _ [22, 2, 3, 23, 1, 33, 34, 35, 36, 37, 38, 39, 40, 41, 42, 43, 44, 45, 46, 47, 48, 49, 50, 51] (by decide +kernel) (by decide +kernel)
set_option maxRecDepth 20000 in
theorem gX7_playedNow_X7_holesOf : GoodIn wsX7_playedNow (wsV RX7 184 RX7 yX7_holesOf wsX7_holesOf) := goodIn_app (goodIn_of _ (by decide +kernel)) ggX7_playedNow_X7_holesOf
set_option maxRecDepth 20000 in
theorem ggX7_playedNow_X7_isRight : GoodIn wsX7_playedNow wsX7_isRight := goodIn_r _ [27, 1, 2, 3, 28, 29, 30, 7, 31, 32, 33, 34, 35, 36, 37, 38, 39, 40, 41, 42, 43, 44, 45, 46, 47, 48, 49, 50, 51] (by decide +kernel) (by decide +kernel)
set_option maxRecDepth 20000 in
theorem gX7_playedNow_X7_isRight : GoodIn wsX7_playedNow (wsV RX7 90 RX7 yX7_isRight wsX7_isRight) := goodIn_app (goodIn_of _ (by decide +kernel)) ggX7_playedNow_X7_isRight
theorem dX7_playedNow_0 : decode cX7_playedNow 0 = .ok (.iload_n 2, 1) := by decide +kernel
theorem dX7_playedNow_1 : decode cX7_playedNow 1 = .ok (.tableswitch 68 0 4 #[35, 42, 49, 56, 62], 35) := by decide +kernel
theorem dX7_playedNow_36 : decode cX7_playedNow 36 = .ok (.aload_n 0, 1) := by decide +kernel
theorem dX7_playedNow_37 : decode cX7_playedNow 37 = .ok (.getfield 31, 3) := by decide +kernel
theorem dX7_playedNow_40 : decode cX7_playedNow 40 = .ok (.iload_n 1, 1) := by decide +kernel
theorem dX7_playedNow_41 : decode cX7_playedNow 41 = .ok (.iaload, 1) := by decide +kernel
theorem dX7_playedNow_42 : decode cX7_playedNow 42 = .ok (.ireturn, 1) := by decide +kernel
theorem dX7_playedNow_43 : decode cX7_playedNow 43 = .ok (.aload_n 0, 1) := by decide +kernel
theorem dX7_playedNow_44 : decode cX7_playedNow 44 = .ok (.getfield 34, 3) := by decide +kernel
theorem dX7_playedNow_47 : decode cX7_playedNow 47 = .ok (.iload_n 1, 1) := by decide +kernel
theorem dX7_playedNow_48 : decode cX7_playedNow 48 = .ok (.iaload, 1) := by decide +kernel
theorem dX7_playedNow_49 : decode cX7_playedNow 49 = .ok (.ireturn, 1) := by decide +kernel
theorem dX7_playedNow_50 : decode cX7_playedNow 50 = .ok (.aload_n 0, 1) := by decide +kernel
theorem dX7_playedNow_51 : decode cX7_playedNow 51 = .ok (.getfield 37, 3) := by decide +kernel
theorem dX7_playedNow_54 : decode cX7_playedNow 54 = .ok (.iload_n 1, 1) := by decide +kernel
theorem dX7_playedNow_55 : decode cX7_playedNow 55 = .ok (.iaload, 1) := by decide +kernel
theorem dX7_playedNow_56 : decode cX7_playedNow 56 = .ok (.ireturn, 1) := by decide +kernel
theorem dX7_playedNow_57 : decode cX7_playedNow 57 = .ok (.aload_n 0, 1) := by decide +kernel
theorem dX7_playedNow_58 : decode cX7_playedNow 58 = .ok (.iload_n 1, 1) := by decide +kernel
theorem dX7_playedNow_59 : decode cX7_playedNow 59 = .ok (.invokevirtual 172, 3) := by decide +kernel
theorem dX7_playedNow_62 : decode cX7_playedNow 62 = .ok (.ireturn, 1) := by decide +kernel
theorem dX7_playedNow_63 : decode cX7_playedNow 63 = .ok (.aload_n 0, 1) := by decide +kernel
theorem dX7_playedNow_64 : decode cX7_playedNow 64 = .ok (.iload_n 1, 1) := by decide +kernel
theorem dX7_playedNow_65 : decode cX7_playedNow 65 = .ok (.invokevirtual 184, 3) := by decide +kernel
theorem dX7_playedNow_68 : decode cX7_playedNow 68 = .ok (.ireturn, 1) := by decide +kernel
theorem dX7_playedNow_69 : decode cX7_playedNow 69 = .ok (.aload_n 0, 1) := by decide +kernel
theorem dX7_playedNow_70 : decode cX7_playedNow 70 = .ok (.iload_n 1, 1) := by decide +kernel
theorem dX7_playedNow_71 : decode cX7_playedNow 71 = .ok (.invokevirtual 90, 3) := by decide +kernel
theorem dX7_playedNow_74 : decode cX7_playedNow 74 = .ok (.ifCond .eq 7, 3) := by decide +kernel
theorem dX7_playedNow_77 : decode cX7_playedNow 77 = .ok (.iconst 1, 1) := by decide +kernel
theorem dX7_playedNow_78 : decode cX7_playedNow 78 = .ok (.goto 4, 3) := by decide +kernel
theorem dX7_playedNow_81 : decode cX7_playedNow 81 = .ok (.iconst 0, 1) := by decide +kernel
theorem dX7_playedNow_82 : decode cX7_playedNow 82 = .ok (.ireturn, 1) := by decide +kernel
set_option maxRecDepth 20000 in
theorem ggX7_played_X7_lay : GoodIn wsX7_played wsX7_lay := goodIn_r _ [7, 1, 8, 9, 10, 11, 12, 13, 14, 15, 6, 16, 17, 18, 19, 20, 21, 22, 23, 24, 25, 26, 27, 28, 29, 30, 31, 32, 33, 34, 35, 36, 37, 38, 39, 40, 41, 42, 43, 44, 69, 70, 71, 72, 73, 74, 75, 76, 77, 78, 79, 80, 81, 82, 83, 84, 85, 86, 87] (by decide +kernel) (by decide +kernel)
set_option maxRecDepth 20000 in
theorem gX7_played_X7_lay : GoodIn wsX7_played (wsV RX7 93 RX7 yX7_lay wsX7_lay) := goodIn_app (goodIn_of _ (by decide +kernel)) ggX7_played_X7_lay
set_option maxRecDepth 20000 in
theorem ggX7_played_X7_within : GoodIn wsX7_played wsX7_within := goodIn_r _ [33] (by decide +kernel) (by decide +kernel)
set_option maxRecDepth 20000 in
theorem gX7_played_X7_within : GoodIn wsX7_played (va_wsS RX7 53 yX7_within wsX7_within) := goodIn_app (goodIn_of _ (by decide +kernel)) ggX7_played_X7_within
set_option maxRecDepth 20000 in
theorem ggX7_played_X7_playedNow : GoodIn wsX7_played wsX7_playedNow := goodIn_r _ [48, 9, 10, 11, 49, 50, 51, 6, 52, 12, 8, 53, 54, 55, 56, 18, 42, 43, 44, 57, 58, 59, 60, 17, 61, 62, 63, 64, 65, 66, 67, 68, 23, 69, 70, 71, 72, 73, 74, 75, 76, 77, 78, 79, 80, 81, 82, 83, 84, 85, 86, 87] (by decide +kernel) (by decide +kernel)
set_option maxRecDepth 20000 in
theorem gX7_played_X7_playedNow : GoodIn wsX7_played (wsV RX7 187 RX7 yX7_playedNow wsX7_playedNow) := goodIn_app (goodIn_of _ (by decide +kernel)) ggX7_played_X7_playedNow
theorem dX7_played_0 : decode cX7_played 0 = .ok (.aload_n 0, 1) := by decide +kernel
theorem dX7_played_1 : decode cX7_played 1 = .ok (.invokevirtual 93, 3) := by decide +kernel
theorem dX7_played_4 : decode cX7_played 4 = .ok (.aload_n 0, 1) := by decide +kernel
theorem dX7_played_5 : decode cX7_played 5 = .ok (.iload_n 1, 1) := by decide +kernel
theorem dX7_played_6 : decode cX7_played 6 = .ok (.iconst 0, 1) := by decide +kernel
theorem dX7_played_7 : decode cX7_played 7 = .ok (.aload_n 0, 1) := by decide +kernel
theorem dX7_played_8 : decode cX7_played 8 = .ok (.getfield 79, 3) := by decide +kernel
theorem dX7_played_11 : decode cX7_played 11 = .ok (.iconst 1, 1) := by decide +kernel
theorem dX7_played_12 : decode cX7_played 12 = .ok (.isub, 1) := by decide +kernel
theorem dX7_played_13 : decode cX7_played 13 = .ok (.invokestatic 53, 3) := by decide +kernel
theorem dX7_played_16 : decode cX7_played 16 = .ok (.ifCond .ne 7, 3) := by decide +kernel
theorem dX7_played_19 : decode cX7_played 19 = .ok (.iconst 1, 1) := by decide +kernel
theorem dX7_played_20 : decode cX7_played 20 = .ok (.goto 17, 3) := by decide +kernel
theorem dX7_played_23 : decode cX7_played 23 = .ok (.iload_n 2, 1) := by decide +kernel
theorem dX7_played_24 : decode cX7_played 24 = .ok (.iconst 0, 1) := by decide +kernel
theorem dX7_played_25 : decode cX7_played 25 = .ok (.iconst 5, 1) := by decide +kernel
theorem dX7_played_26 : decode cX7_played 26 = .ok (.invokestatic 53, 3) := by decide +kernel
theorem dX7_played_29 : decode cX7_played 29 = .ok (.ifCond .eq 7, 3) := by decide +kernel
theorem dX7_played_32 : decode cX7_played 32 = .ok (.iconst 0, 1) := by decide +kernel
theorem dX7_played_33 : decode cX7_played 33 = .ok (.goto 4, 3) := by decide +kernel
theorem dX7_played_36 : decode cX7_played 36 = .ok (.iconst 2, 1) := by decide +kernel
theorem dX7_played_37 : decode cX7_played 37 = .ok (.putfield 46, 3) := by decide +kernel
theorem dX7_played_40 : decode cX7_played 40 = .ok (.aload_n 0, 1) := by decide +kernel
theorem dX7_played_41 : decode cX7_played 41 = .ok (.getfield 46, 3) := by decide +kernel
theorem dX7_played_44 : decode cX7_played 44 = .ok (.ifCond .le 7, 3) := by decide +kernel
theorem dX7_played_47 : decode cX7_played 47 = .ok (.iconst 0, 1) := by decide +kernel
theorem dX7_played_48 : decode cX7_played 48 = .ok (.goto 9, 3) := by decide +kernel
theorem dX7_played_51 : decode cX7_played 51 = .ok (.aload_n 0, 1) := by decide +kernel
theorem dX7_played_52 : decode cX7_played 52 = .ok (.iload_n 1, 1) := by decide +kernel
theorem dX7_played_53 : decode cX7_played 53 = .ok (.iload_n 2, 1) := by decide +kernel
theorem dX7_played_54 : decode cX7_played 54 = .ok (.invokevirtual 187, 3) := by decide +kernel
theorem dX7_played_57 : decode cX7_played 57 = .ok (.ireturn, 1) := by decide +kernel
theorem dX7_tuneAt_0 : decode cX7_tuneAt 0 = .ok (.iload_n 1, 1) := by decide +kernel
theorem dX7_tuneAt_1 : decode cX7_tuneAt 1 = .ok (.istore_n 2, 1) := by decide +kernel
theorem dX7_tuneAt_2 : decode cX7_tuneAt 2 = .ok (.iconst 0, 1) := by decide +kernel
theorem dX7_tuneAt_3 : decode cX7_tuneAt 3 = .ok (.istore_n 3, 1) := by decide +kernel
theorem dX7_tuneAt_4 : decode cX7_tuneAt 4 = .ok (.iload_n 2, 1) := by decide +kernel
theorem dX7_tuneAt_5 : decode cX7_tuneAt 5 = .ok (.ifCond .gt 26, 3) := by decide +kernel
theorem dX7_tuneAt_8 : decode cX7_tuneAt 8 = .ok (.aload_n 0, 1) := by decide +kernel
theorem dX7_tuneAt_9 : decode cX7_tuneAt 9 = .ok (.getfield 7, 3) := by decide +kernel
theorem dX7_tuneAt_12 : decode cX7_tuneAt 12 = .ok (.sipush 386, 3) := by decide +kernel
theorem dX7_tuneAt_15 : decode cX7_tuneAt 15 = .ok (.iload_n 3, 1) := by decide +kernel
theorem dX7_tuneAt_16 : decode cX7_tuneAt 16 = .ok (.bipush 20, 2) := by decide +kernel
theorem dX7_tuneAt_18 : decode cX7_tuneAt 18 = .ok (.idiv, 1) := by decide +kernel
theorem dX7_tuneAt_19 : decode cX7_tuneAt 19 = .ok (.iadd, 1) := by decide +kernel
theorem dX7_tuneAt_20 : decode cX7_tuneAt 20 = .ok (.iaload, 1) := by decide +kernel
theorem dX7_tuneAt_21 : decode cX7_tuneAt 21 = .ok (.iload_n 3, 1) := by decide +kernel
theorem dX7_tuneAt_22 : decode cX7_tuneAt 22 = .ok (.bipush 20, 2) := by decide +kernel
theorem dX7_tuneAt_24 : decode cX7_tuneAt 24 = .ok (.irem, 1) := by decide +kernel
theorem dX7_tuneAt_25 : decode cX7_tuneAt 25 = .ok (.ishr, 1) := by decide +kernel
theorem dX7_tuneAt_26 : decode cX7_tuneAt 26 = .ok (.iconst 1, 1) := by decide +kernel
theorem dX7_tuneAt_27 : decode cX7_tuneAt 27 = .ok (.iand, 1) := by decide +kernel
theorem dX7_tuneAt_28 : decode cX7_tuneAt 28 = .ok (.ifCond .ne 32, 3) := by decide +kernel
theorem dX7_tuneAt_31 : decode cX7_tuneAt 31 = .ok (.iload_n 2, 1) := by decide +kernel
theorem dX7_tuneAt_32 : decode cX7_tuneAt 32 = .ok (.aload_n 0, 1) := by decide +kernel
theorem dX7_tuneAt_33 : decode cX7_tuneAt 33 = .ok (.getfield 7, 3) := by decide +kernel
theorem dX7_tuneAt_36 : decode cX7_tuneAt 36 = .ok (.sipush 386, 3) := by decide +kernel
theorem dX7_tuneAt_39 : decode cX7_tuneAt 39 = .ok (.iload_n 3, 1) := by decide +kernel
theorem dX7_tuneAt_40 : decode cX7_tuneAt 40 = .ok (.bipush 20, 2) := by decide +kernel
theorem dX7_tuneAt_42 : decode cX7_tuneAt 42 = .ok (.idiv, 1) := by decide +kernel
theorem dX7_tuneAt_43 : decode cX7_tuneAt 43 = .ok (.iadd, 1) := by decide +kernel
theorem dX7_tuneAt_44 : decode cX7_tuneAt 44 = .ok (.iaload, 1) := by decide +kernel
theorem dX7_tuneAt_45 : decode cX7_tuneAt 45 = .ok (.iload_n 3, 1) := by decide +kernel
theorem dX7_tuneAt_46 : decode cX7_tuneAt 46 = .ok (.bipush 20, 2) := by decide +kernel
theorem dX7_tuneAt_48 : decode cX7_tuneAt 48 = .ok (.irem, 1) := by decide +kernel
theorem dX7_tuneAt_49 : decode cX7_tuneAt 49 = .ok (.ishr, 1) := by decide +kernel
theorem dX7_tuneAt_50 : decode cX7_tuneAt 50 = .ok (.iconst 1, 1) := by decide +kernel
theorem dX7_tuneAt_51 : decode cX7_tuneAt 51 = .ok (.iand, 1) := by decide +kernel
theorem dX7_tuneAt_52 : decode cX7_tuneAt 52 = .ok (.isub, 1) := by decide +kernel
theorem dX7_tuneAt_53 : decode cX7_tuneAt 53 = .ok (.istore_n 2, 1) := by decide +kernel
theorem dX7_tuneAt_54 : decode cX7_tuneAt 54 = .ok (.iinc 3 1, 3) := by decide +kernel
theorem dX7_tuneAt_57 : decode cX7_tuneAt 57 = .ok (.goto (-53), 3) := by decide +kernel
theorem dX7_tuneAt_60 : decode cX7_tuneAt 60 = .ok (.iload_n 3, 1) := by decide +kernel
theorem dX7_tuneAt_61 : decode cX7_tuneAt 61 = .ok (.ireturn, 1) := by decide +kernel
set_option maxRecDepth 20000 in
theorem ggX7_isMissing_X7_endFrom : GoodIn wsX7_isMissing wsX7_endFrom := goodIn_r _ [6] (by decide +kernel) (by decide +kernel)
set_option maxRecDepth 20000 in
theorem gX7_isMissing_X7_endFrom : GoodIn wsX7_isMissing (va_wsS RX7 82 yX7_endFrom wsX7_endFrom) := goodIn_app (goodIn_of _ (by decide +kernel)) ggX7_isMissing_X7_endFrom
set_option maxRecDepth 20000 in
theorem ggX7_isMissing_X7_tuneLast : GoodIn wsX7_isMissing wsX7_tuneLast := goodIn_r _ [10, 11, 12, 13, 14, 15, 16, 17, 18, 19, 20, 21, 22, 23, 24, 25, 26, 27, 28, 29, 30] (by decide +kernel) (by decide +kernel)
set_option maxRecDepth 20000 in
theorem gX7_isMissing_X7_tuneLast : GoodIn wsX7_isMissing (wsV RX7 86 RX7 yX7_tuneLast wsX7_tuneLast) := goodIn_app (goodIn_of _ (by decide +kernel)) ggX7_isMissing_X7_tuneLast
theorem dX7_isMissing_0 : decode cX7_isMissing 0 = .ok (.aload_n 0, 1) := by decide +kernel
theorem dX7_isMissing_1 : decode cX7_isMissing 1 = .ok (.getfield 22, 3) := by decide +kernel
theorem dX7_isMissing_4 : decode cX7_isMissing 4 = .ok (.iload_n 2, 1) := by decide +kernel
theorem dX7_isMissing_5 : decode cX7_isMissing 5 = .ok (.iaload, 1) := by decide +kernel
theorem dX7_isMissing_6 : decode cX7_isMissing 6 = .ok (.iload_n 1, 1) := by decide +kernel
theorem dX7_isMissing_7 : decode cX7_isMissing 7 = .ok (.ishr, 1) := by decide +kernel
theorem dX7_isMissing_8 : decode cX7_isMissing 8 = .ok (.iconst 1, 1) := by decide +kernel
theorem dX7_isMissing_9 : decode cX7_isMissing 9 = .ok (.iand, 1) := by decide +kernel
theorem dX7_isMissing_10 : decode cX7_isMissing 10 = .ok (.iconst 1, 1) := by decide +kernel
theorem dX7_isMissing_11 : decode cX7_isMissing 11 = .ok (.if_icmp .ne 7, 3) := by decide +kernel
theorem dX7_isMissing_14 : decode cX7_isMissing 14 = .ok (.iconst 1, 1) := by decide +kernel
theorem dX7_isMissing_15 : decode cX7_isMissing 15 = .ok (.goto 4, 3) := by decide +kernel
theorem dX7_isMissing_18 : decode cX7_isMissing 18 = .ok (.iconst 0, 1) := by decide +kernel
theorem dX7_isMissing_19 : decode cX7_isMissing 19 = .ok (.istore_n 3, 1) := by decide +kernel
theorem dX7_isMissing_20 : decode cX7_isMissing 20 = .ok (.iload_n 3, 1) := by decide +kernel
theorem dX7_isMissing_21 : decode cX7_isMissing 21 = .ok (.ifCond .eq 21, 3) := by decide +kernel
theorem dX7_isMissing_24 : decode cX7_isMissing 24 = .ok (.aload_n 0, 1) := by decide +kernel
theorem dX7_isMissing_25 : decode cX7_isMissing 25 = .ok (.getfield 25, 3) := by decide +kernel
theorem dX7_isMissing_28 : decode cX7_isMissing 28 = .ok (.iload_n 1, 1) := by decide +kernel
theorem dX7_isMissing_29 : decode cX7_isMissing 29 = .ok (.iload_n 2, 1) := by decide +kernel
theorem dX7_isMissing_30 : decode cX7_isMissing 30 = .ok (.invokestatic 82, 3) := by decide +kernel
theorem dX7_isMissing_33 : decode cX7_isMissing 33 = .ok (.aload_n 0, 1) := by decide +kernel
theorem dX7_isMissing_34 : decode cX7_isMissing 34 = .ok (.iload_n 1, 1) := by decide +kernel
theorem dX7_isMissing_35 : decode cX7_isMissing 35 = .ok (.iload_n 2, 1) := by decide +kernel
theorem dX7_isMissing_36 : decode cX7_isMissing 36 = .ok (.invokevirtual 86, 3) := by decide +kernel
theorem dX7_isMissing_39 : decode cX7_isMissing 39 = .ok (.if_icmp .eq 7, 3) := by decide +kernel
theorem dX7_isMissing_42 : decode cX7_isMissing 42 = .ok (.iconst 1, 1) := by decide +kernel
theorem dX7_isMissing_43 : decode cX7_isMissing 43 = .ok (.goto 4, 3) := by decide +kernel
theorem dX7_isMissing_46 : decode cX7_isMissing 46 = .ok (.iconst 0, 1) := by decide +kernel
theorem dX7_isMissing_47 : decode cX7_isMissing 47 = .ok (.ireturn, 1) := by decide +kernel
set_option maxRecDepth 20000 in
theorem ggX7_tuneNow_X7_tuneAt : GoodIn wsX7_tuneNow wsX7_tuneAt := goodIn_r _ [5, 6, 20, 21, 22, 23, 24, 25, 26, 27, 28, 29, 30, 31, 32, 33, 34, 35, 36, 37, 38] (by decide +kernel) (by decide +kernel)
set_option maxRecDepth 20000 in
theorem gX7_tuneNow_X7_tuneAt : GoodIn wsX7_tuneNow (wsV RX7 190 RX7 yX7_tuneAt wsX7_tuneAt) := goodIn_app (goodIn_of _ (by decide +kernel)) ggX7_tuneNow_X7_tuneAt
set_option maxRecDepth 20000 in
theorem ggX7_tuneNow_X7_tuneLast : GoodIn wsX7_tuneNow wsX7_tuneLast := goodIn_r _ [10, 6, 20, 21, 22, 23, 24, 25, 26, 27, 28, 29, 30, 31, 32, 33, 34, 35, 36, 37, 38] (by decide +kernel) (by decide +kernel)
set_option maxRecDepth 20000 in
theorem gX7_tuneNow_X7_tuneLast : GoodIn wsX7_tuneNow (wsV RX7 86 RX7 yX7_tuneLast wsX7_tuneLast) := goodIn_app (goodIn_of _ (by decide +kernel)) ggX7_tuneNow_X7_tuneLast
set_option maxRecDepth 20000 in
theorem ggX7_tuneNow_X7_isMissing : GoodIn wsX7_tuneNow wsX7_isMissing := goodIn_r _ [14, 15, 16, 17, 18, 4, 19, 7, 8, 9, 10, 6, 20, 21, 22, 23, 24, 25, 26, 27, 28, 29, 30, 31, 32, 33, 34, 35, 36, 37, 38] (by decide +kernel) (by decide +kernel)
set_option maxRecDepth 20000 in
theorem gX7_tuneNow_X7_isMissing : GoodIn wsX7_tuneNow (wsV RX7 193 RX7 yX7_isMissing wsX7_isMissing) := goodIn_app (goodIn_of _ (by decide +kernel)) ggX7_tuneNow_X7_isMissing
theorem dX7_tuneNow_0 : decode cX7_tuneNow 0 = .ok (.aload_n 0, 1) := by decide +kernel
theorem dX7_tuneNow_1 : decode cX7_tuneNow 1 = .ok (.iload_n 1, 1) := by decide +kernel
theorem dX7_tuneNow_2 : decode cX7_tuneNow 2 = .ok (.invokevirtual 190, 3) := by decide +kernel
theorem dX7_tuneNow_5 : decode cX7_tuneNow 5 = .ok (.bipush 20, 2) := by decide +kernel
theorem dX7_tuneNow_7 : decode cX7_tuneNow 7 = .ok (.irem, 1) := by decide +kernel
theorem dX7_tuneNow_8 : decode cX7_tuneNow 8 = .ok (.istore_n 3, 1) := by decide +kernel
theorem dX7_tuneNow_9 : decode cX7_tuneNow 9 = .ok (.aload_n 0, 1) := by decide +kernel
theorem dX7_tuneNow_10 : decode cX7_tuneNow 10 = .ok (.iload_n 1, 1) := by decide +kernel
theorem dX7_tuneNow_11 : decode cX7_tuneNow 11 = .ok (.invokevirtual 190, 3) := by decide +kernel
theorem dX7_tuneNow_14 : decode cX7_tuneNow 14 = .ok (.bipush 20, 2) := by decide +kernel
theorem dX7_tuneNow_16 : decode cX7_tuneNow 16 = .ok (.idiv, 1) := by decide +kernel
theorem dX7_tuneNow_17 : decode cX7_tuneNow 17 = .ok (.istore 4, 2) := by decide +kernel
theorem dX7_tuneNow_19 : decode cX7_tuneNow 19 = .ok (.iload_n 2, 1) := by decide +kernel
theorem dX7_tuneNow_20 : decode cX7_tuneNow 20 = .ok (.tableswitch 41 0 2 #[28, 30, 33], 28) := by decide +kernel
theorem dX7_tuneNow_48 : decode cX7_tuneNow 48 = .ok (.iload_n 3, 1) := by decide +kernel
theorem dX7_tuneNow_49 : decode cX7_tuneNow 49 = .ok (.ireturn, 1) := by decide +kernel
theorem dX7_tuneNow_50 : decode cX7_tuneNow 50 = .ok (.iload 4, 2) := by decide +kernel
theorem dX7_tuneNow_52 : decode cX7_tuneNow 52 = .ok (.ireturn, 1) := by decide +kernel
theorem dX7_tuneNow_53 : decode cX7_tuneNow 53 = .ok (.aload_n 0, 1) := by decide +kernel
theorem dX7_tuneNow_54 : decode cX7_tuneNow 54 = .ok (.iload_n 3, 1) := by decide +kernel
theorem dX7_tuneNow_55 : decode cX7_tuneNow 55 = .ok (.iload 4, 2) := by decide +kernel
theorem dX7_tuneNow_57 : decode cX7_tuneNow 57 = .ok (.invokevirtual 86, 3) := by decide +kernel
theorem dX7_tuneNow_60 : decode cX7_tuneNow 60 = .ok (.ireturn, 1) := by decide +kernel
theorem dX7_tuneNow_61 : decode cX7_tuneNow 61 = .ok (.aload_n 0, 1) := by decide +kernel
theorem dX7_tuneNow_62 : decode cX7_tuneNow 62 = .ok (.iload_n 3, 1) := by decide +kernel
theorem dX7_tuneNow_63 : decode cX7_tuneNow 63 = .ok (.iload 4, 2) := by decide +kernel
theorem dX7_tuneNow_65 : decode cX7_tuneNow 65 = .ok (.invokevirtual 193, 3) := by decide +kernel
theorem dX7_tuneNow_68 : decode cX7_tuneNow 68 = .ok (.ifCond .eq 7, 3) := by decide +kernel
theorem dX7_tuneNow_71 : decode cX7_tuneNow 71 = .ok (.iconst 1, 1) := by decide +kernel
theorem dX7_tuneNow_72 : decode cX7_tuneNow 72 = .ok (.goto 4, 3) := by decide +kernel
theorem dX7_tuneNow_75 : decode cX7_tuneNow 75 = .ok (.iconst 0, 1) := by decide +kernel
theorem dX7_tuneNow_76 : decode cX7_tuneNow 76 = .ok (.ireturn, 1) := by decide +kernel
set_option maxRecDepth 20000 in
theorem ggX7_tune_X7_tuneNotes : GoodIn wsX7_tune wsX7_tuneNotes := goodIn_r _ [6, 7, 8, 9, 5, 10, 68, 69, 70, 71, 72, 73, 74, 75, 76, 77, 78, 79, 80, 81, 82, 83, 84, 85, 86] (by decide +kernel) (by decide +kernel)
set_option maxRecDepth 20000 in
theorem gX7_tune_X7_tuneNotes : GoodIn wsX7_tune (wsV RX7 197 RX7 yX7_tuneNotes wsX7_tuneNotes) := goodIn_app (goodIn_of _ (by decide +kernel)) ggX7_tune_X7_tuneNotes
set_option maxRecDepth 20000 in
theorem ggX7_tune_X7_within : GoodIn wsX7_tune wsX7_within := goodIn_r _ [13] (by decide +kernel) (by decide +kernel)
set_option maxRecDepth 20000 in
theorem gX7_tune_X7_within : GoodIn wsX7_tune (va_wsS RX7 53 yX7_within wsX7_within) := goodIn_app (goodIn_of _ (by decide +kernel)) ggX7_tune_X7_within
set_option maxRecDepth 20000 in
theorem ggX7_tune_X7_lay : GoodIn wsX7_tune wsX7_lay := goodIn_r _ [17, 18, 19, 20, 21, 22, 23, 24, 25, 26, 5, 27, 28, 29, 30, 31, 32, 33, 7, 34, 35, 36, 37, 38, 39, 40, 11, 12, 13, 41, 42, 43, 44, 45, 46, 47, 48, 49, 50, 51, 68, 69, 70, 71, 72, 73, 74, 75, 76, 77, 78, 79, 80, 81, 82, 83, 84, 85, 86] (by decide +kernel) (by decide +kernel)
set_option maxRecDepth 20000 in
theorem gX7_tune_X7_lay : GoodIn wsX7_tune (wsV RX7 93 RX7 yX7_lay wsX7_lay) := goodIn_app (goodIn_of _ (by decide +kernel)) ggX7_tune_X7_lay
set_option maxRecDepth 20000 in
theorem ggX7_tune_X7_tuneNow : GoodIn wsX7_tune wsX7_tuneNow := goodIn_r _ [55, 56, 57, 58, 5, 59, 7, 60, 61, 62, 63, 64, 65, 66, 67, 19, 23, 49, 50, 51, 68, 69, 70, 71, 72, 73, 74, 75, 76, 77, 78, 79, 80, 81, 82, 83, 84, 85, 86] (by decide +kernel) (by decide +kernel)
set_option maxRecDepth 20000 in
theorem gX7_tune_X7_tuneNow : GoodIn wsX7_tune (wsV RX7 200 RX7 yX7_tuneNow wsX7_tuneNow) := goodIn_app (goodIn_of _ (by decide +kernel)) ggX7_tune_X7_tuneNow
theorem dX7_tune_0 : decode cX7_tune 0 = .ok (.aload_n 0, 1) := by decide +kernel
theorem dX7_tune_1 : decode cX7_tune 1 = .ok (.iload_n 1, 1) := by decide +kernel
theorem dX7_tune_2 : decode cX7_tune 2 = .ok (.iconst 0, 1) := by decide +kernel
theorem dX7_tune_3 : decode cX7_tune 3 = .ok (.aload_n 0, 1) := by decide +kernel
theorem dX7_tune_4 : decode cX7_tune 4 = .ok (.invokevirtual 197, 3) := by decide +kernel
theorem dX7_tune_7 : decode cX7_tune 7 = .ok (.iconst 1, 1) := by decide +kernel
theorem dX7_tune_8 : decode cX7_tune 8 = .ok (.isub, 1) := by decide +kernel
theorem dX7_tune_9 : decode cX7_tune 9 = .ok (.invokestatic 53, 3) := by decide +kernel
theorem dX7_tune_12 : decode cX7_tune 12 = .ok (.ifCond .ne 7, 3) := by decide +kernel
theorem dX7_tune_15 : decode cX7_tune 15 = .ok (.iconst 1, 1) := by decide +kernel
theorem dX7_tune_16 : decode cX7_tune 16 = .ok (.goto 17, 3) := by decide +kernel
theorem dX7_tune_19 : decode cX7_tune 19 = .ok (.iload_n 2, 1) := by decide +kernel
theorem dX7_tune_20 : decode cX7_tune 20 = .ok (.iconst 0, 1) := by decide +kernel
theorem dX7_tune_21 : decode cX7_tune 21 = .ok (.iconst 3, 1) := by decide +kernel
theorem dX7_tune_22 : decode cX7_tune 22 = .ok (.invokestatic 53, 3) := by decide +kernel
theorem dX7_tune_25 : decode cX7_tune 25 = .ok (.ifCond .eq 7, 3) := by decide +kernel
theorem dX7_tune_28 : decode cX7_tune 28 = .ok (.iconst 0, 1) := by decide +kernel
theorem dX7_tune_29 : decode cX7_tune 29 = .ok (.goto 4, 3) := by decide +kernel
theorem dX7_tune_32 : decode cX7_tune 32 = .ok (.iconst 2, 1) := by decide +kernel
theorem dX7_tune_33 : decode cX7_tune 33 = .ok (.putfield 46, 3) := by decide +kernel
theorem dX7_tune_36 : decode cX7_tune 36 = .ok (.aload_n 0, 1) := by decide +kernel
theorem dX7_tune_37 : decode cX7_tune 37 = .ok (.getfield 46, 3) := by decide +kernel
theorem dX7_tune_40 : decode cX7_tune 40 = .ok (.ifCond .le 5, 3) := by decide +kernel
theorem dX7_tune_43 : decode cX7_tune 43 = .ok (.iconst 0, 1) := by decide +kernel
theorem dX7_tune_44 : decode cX7_tune 44 = .ok (.ireturn, 1) := by decide +kernel
theorem dX7_tune_45 : decode cX7_tune 45 = .ok (.aload_n 0, 1) := by decide +kernel
theorem dX7_tune_46 : decode cX7_tune 46 = .ok (.invokevirtual 93, 3) := by decide +kernel
theorem dX7_tune_49 : decode cX7_tune 49 = .ok (.aload_n 0, 1) := by decide +kernel
theorem dX7_tune_50 : decode cX7_tune 50 = .ok (.iload_n 1, 1) := by decide +kernel
theorem dX7_tune_51 : decode cX7_tune 51 = .ok (.iload_n 2, 1) := by decide +kernel
theorem dX7_tune_52 : decode cX7_tune 52 = .ok (.invokevirtual 200, 3) := by decide +kernel
theorem dX7_tune_55 : decode cX7_tune 55 = .ok (.ireturn, 1) := by decide +kernel
set_option maxRecDepth 20000 in
theorem ggX7_onesIn_X7_ones : GoodIn wsX7_onesIn wsX7_ones := goodIn_r _ [5] (by decide +kernel) (by decide +kernel)
set_option maxRecDepth 20000 in
theorem gX7_onesIn_X7_ones : GoodIn wsX7_onesIn (va_wsS RX7 100 yX7_ones wsX7_ones) := goodIn_app (goodIn_of _ (by decide +kernel)) ggX7_onesIn_X7_ones
theorem dX7_onesIn_0 : decode cX7_onesIn 0 = .ok (.iconst 0, 1) := by decide +kernel
theorem dX7_onesIn_1 : decode cX7_onesIn 1 = .ok (.istore_n 2, 1) := by decide +kernel
theorem dX7_onesIn_2 : decode cX7_onesIn 2 = .ok (.iconst 0, 1) := by decide +kernel
theorem dX7_onesIn_3 : decode cX7_onesIn 3 = .ok (.istore_n 3, 1) := by decide +kernel
theorem dX7_onesIn_4 : decode cX7_onesIn 4 = .ok (.iload_n 3, 1) := by decide +kernel
theorem dX7_onesIn_5 : decode cX7_onesIn 5 = .ok (.bipush 96, 2) := by decide +kernel
theorem dX7_onesIn_7 : decode cX7_onesIn 7 = .ok (.if_icmp .ge 23, 3) := by decide +kernel
theorem dX7_onesIn_10 : decode cX7_onesIn 10 = .ok (.iload_n 2, 1) := by decide +kernel
theorem dX7_onesIn_11 : decode cX7_onesIn 11 = .ok (.aload_n 0, 1) := by decide +kernel
theorem dX7_onesIn_12 : decode cX7_onesIn 12 = .ok (.getfield 7, 3) := by decide +kernel
theorem dX7_onesIn_15 : decode cX7_onesIn 15 = .ok (.iload_n 1, 1) := by decide +kernel
theorem dX7_onesIn_16 : decode cX7_onesIn 16 = .ok (.iload_n 3, 1) := by decide +kernel
theorem dX7_onesIn_17 : decode cX7_onesIn 17 = .ok (.iadd, 1) := by decide +kernel
theorem dX7_onesIn_18 : decode cX7_onesIn 18 = .ok (.iaload, 1) := by decide +kernel
theorem dX7_onesIn_19 : decode cX7_onesIn 19 = .ok (.invokestatic 100, 3) := by decide +kernel
theorem dX7_onesIn_22 : decode cX7_onesIn 22 = .ok (.iadd, 1) := by decide +kernel
theorem dX7_onesIn_23 : decode cX7_onesIn 23 = .ok (.istore_n 2, 1) := by decide +kernel
theorem dX7_onesIn_24 : decode cX7_onesIn 24 = .ok (.iinc 3 1, 3) := by decide +kernel
theorem dX7_onesIn_27 : decode cX7_onesIn 27 = .ok (.goto (-23), 3) := by decide +kernel
theorem dX7_onesIn_30 : decode cX7_onesIn 30 = .ok (.iload_n 2, 1) := by decide +kernel
theorem dX7_onesIn_31 : decode cX7_onesIn 31 = .ok (.ireturn, 1) := by decide +kernel
set_option maxRecDepth 20000 in
theorem ggX7_openHoles_X7_openAt : GoodIn wsX7_openHoles wsX7_openAt := goodIn_r _ [5, 6, 10, 11, 12, 13, 14, 15, 16, 17, 18, 19, 20, 21, 22, 23, 24, 25, 26, 27, 28] (by decide +kernel) (by decide +kernel)
set_option maxRecDepth 20000 in
theorem gX7_openHoles_X7_openAt : GoodIn wsX7_openHoles (wsV RX7 57 RX7 yX7_openAt wsX7_openAt) := goodIn_app (goodIn_of _ (by decide +kernel)) ggX7_openHoles_X7_openAt
set_option maxRecDepth 20000 in
theorem ggX7_openHoles_X7_ones : GoodIn wsX7_openHoles wsX7_ones := goodIn_r _ [9] (by decide +kernel) (by decide +kernel)
set_option maxRecDepth 20000 in
theorem gX7_openHoles_X7_ones : GoodIn wsX7_openHoles (va_wsS RX7 100 yX7_ones wsX7_ones) := goodIn_app (goodIn_of _ (by decide +kernel)) ggX7_openHoles_X7_ones
theorem dX7_openHoles_0 : decode cX7_openHoles 0 = .ok (.iconst 0, 1) := by decide +kernel
theorem dX7_openHoles_1 : decode cX7_openHoles 1 = .ok (.istore_n 1, 1) := by decide +kernel
theorem dX7_openHoles_2 : decode cX7_openHoles 2 = .ok (.iconst 0, 1) := by decide +kernel
theorem dX7_openHoles_3 : decode cX7_openHoles 3 = .ok (.istore_n 2, 1) := by decide +kernel
theorem dX7_openHoles_4 : decode cX7_openHoles 4 = .ok (.iload_n 2, 1) := by decide +kernel
theorem dX7_openHoles_5 : decode cX7_openHoles 5 = .ok (.bipush 96, 2) := by decide +kernel
theorem dX7_openHoles_7 : decode cX7_openHoles 7 = .ok (.if_icmp .ge 20, 3) := by decide +kernel
theorem dX7_openHoles_10 : decode cX7_openHoles 10 = .ok (.iload_n 1, 1) := by decide +kernel
theorem dX7_openHoles_11 : decode cX7_openHoles 11 = .ok (.aload_n 0, 1) := by decide +kernel
theorem dX7_openHoles_12 : decode cX7_openHoles 12 = .ok (.iload_n 2, 1) := by decide +kernel
theorem dX7_openHoles_13 : decode cX7_openHoles 13 = .ok (.invokevirtual 57, 3) := by decide +kernel
theorem dX7_openHoles_16 : decode cX7_openHoles 16 = .ok (.invokestatic 100, 3) := by decide +kernel
theorem dX7_openHoles_19 : decode cX7_openHoles 19 = .ok (.iadd, 1) := by decide +kernel
theorem dX7_openHoles_20 : decode cX7_openHoles 20 = .ok (.istore_n 1, 1) := by decide +kernel
theorem dX7_openHoles_21 : decode cX7_openHoles 21 = .ok (.iinc 2 1, 3) := by decide +kernel
theorem dX7_openHoles_24 : decode cX7_openHoles 24 = .ok (.goto (-20), 3) := by decide +kernel
theorem dX7_openHoles_27 : decode cX7_openHoles 27 = .ok (.iload_n 1, 1) := by decide +kernel
theorem dX7_openHoles_28 : decode cX7_openHoles 28 = .ok (.ireturn, 1) := by decide +kernel
set_option maxRecDepth 20000 in
theorem ggX7_sumOf_X7_isDown : GoodIn wsX7_sumOf wsX7_isDown := goodIn_r _ [8, 9, 24, 25, 26, 27, 28, 29, 30, 31, 32, 33, 34, 35, 36, 37, 38, 39, 40, 41, 42] (by decide +kernel) (by decide +kernel)
set_option maxRecDepth 20000 in
theorem gX7_sumOf_X7_isDown : GoodIn wsX7_sumOf (wsV RX7 169 RX7 yX7_isDown wsX7_isDown) := goodIn_app (goodIn_of _ (by decide +kernel)) ggX7_sumOf_X7_isDown
set_option maxRecDepth 20000 in
theorem ggX7_sumOf_X7_isWished : GoodIn wsX7_sumOf wsX7_isWished := goodIn_r _ [13, 14, 3, 9, 1, 15, 16, 7, 17, 18, 19, 20, 24, 25, 26, 27, 28, 29, 30, 31, 32, 33, 34, 35, 36, 37, 38, 39, 40, 41, 42] (by decide +kernel) (by decide +kernel)
set_option maxRecDepth 20000 in
theorem gX7_sumOf_X7_isWished : GoodIn wsX7_sumOf (wsV RX7 178 RX7 yX7_isWished wsX7_isWished) := goodIn_app (goodIn_of _ (by decide +kernel)) ggX7_sumOf_X7_isWished
set_option maxRecDepth 20000 in
theorem ggX7_sumOf_X7_ones : GoodIn wsX7_sumOf wsX7_ones := goodIn_r _ [23] (by decide +kernel) (by decide +kernel)
set_option maxRecDepth 20000 in
theorem gX7_sumOf_X7_ones : GoodIn wsX7_sumOf (va_wsS RX7 100 yX7_ones wsX7_ones) := goodIn_app (goodIn_of _ (by decide +kernel)) ggX7_sumOf_X7_ones
theorem dX7_sumOf_0 : decode cX7_sumOf 0 = .ok (.iconst 0, 1) := by decide +kernel
theorem dX7_sumOf_1 : decode cX7_sumOf 1 = .ok (.istore_n 2, 1) := by decide +kernel
theorem dX7_sumOf_2 : decode cX7_sumOf 2 = .ok (.iconst 0, 1) := by decide +kernel
theorem dX7_sumOf_3 : decode cX7_sumOf 3 = .ok (.istore_n 3, 1) := by decide +kernel
theorem dX7_sumOf_4 : decode cX7_sumOf 4 = .ok (.iload_n 3, 1) := by decide +kernel
theorem dX7_sumOf_5 : decode cX7_sumOf 5 = .ok (.bipush 96, 2) := by decide +kernel
theorem dX7_sumOf_7 : decode cX7_sumOf 7 = .ok (.if_icmp .ge 130, 3) := by decide +kernel
theorem dX7_sumOf_10 : decode cX7_sumOf 10 = .ok (.iload_n 1, 1) := by decide +kernel
theorem dX7_sumOf_11 : decode cX7_sumOf 11 = .ok (.tableswitch 99 0 3 #[29, 46, 65, 84], 29) := by decide +kernel
theorem dX7_sumOf_40 : decode cX7_sumOf 40 = .ok (.iload_n 2, 1) := by decide +kernel
theorem dX7_sumOf_41 : decode cX7_sumOf 41 = .ok (.aload_n 0, 1) := by decide +kernel
theorem dX7_sumOf_42 : decode cX7_sumOf 42 = .ok (.getfield 22, 3) := by decide +kernel
theorem dX7_sumOf_45 : decode cX7_sumOf 45 = .ok (.iload_n 3, 1) := by decide +kernel
theorem dX7_sumOf_46 : decode cX7_sumOf 46 = .ok (.iaload, 1) := by decide +kernel
theorem dX7_sumOf_47 : decode cX7_sumOf 47 = .ok (.bipush 20, 2) := by decide +kernel
theorem dX7_sumOf_49 : decode cX7_sumOf 49 = .ok (.ishr, 1) := by decide +kernel
theorem dX7_sumOf_50 : decode cX7_sumOf 50 = .ok (.iconst 1, 1) := by decide +kernel
theorem dX7_sumOf_51 : decode cX7_sumOf 51 = .ok (.iand, 1) := by decide +kernel
theorem dX7_sumOf_52 : decode cX7_sumOf 52 = .ok (.iadd, 1) := by decide +kernel
theorem dX7_sumOf_53 : decode cX7_sumOf 53 = .ok (.istore_n 2, 1) := by decide +kernel
theorem dX7_sumOf_54 : decode cX7_sumOf 54 = .ok (.goto 77, 3) := by decide +kernel
theorem dX7_sumOf_57 : decode cX7_sumOf 57 = .ok (.iload_n 2, 1) := by decide +kernel
theorem dX7_sumOf_58 : decode cX7_sumOf 58 = .ok (.aload_n 0, 1) := by decide +kernel
theorem dX7_sumOf_59 : decode cX7_sumOf 59 = .ok (.iload_n 3, 1) := by decide +kernel
theorem dX7_sumOf_60 : decode cX7_sumOf 60 = .ok (.invokevirtual 169, 3) := by decide +kernel
theorem dX7_sumOf_63 : decode cX7_sumOf 63 = .ok (.ifCond .eq 7, 3) := by decide +kernel
theorem dX7_sumOf_66 : decode cX7_sumOf 66 = .ok (.iconst 1, 1) := by decide +kernel
theorem dX7_sumOf_67 : decode cX7_sumOf 67 = .ok (.goto 4, 3) := by decide +kernel
theorem dX7_sumOf_70 : decode cX7_sumOf 70 = .ok (.iconst 0, 1) := by decide +kernel
theorem dX7_sumOf_71 : decode cX7_sumOf 71 = .ok (.iadd, 1) := by decide +kernel
theorem dX7_sumOf_72 : decode cX7_sumOf 72 = .ok (.istore_n 2, 1) := by decide +kernel
theorem dX7_sumOf_73 : decode cX7_sumOf 73 = .ok (.goto 58, 3) := by decide +kernel
theorem dX7_sumOf_76 : decode cX7_sumOf 76 = .ok (.iload_n 2, 1) := by decide +kernel
theorem dX7_sumOf_77 : decode cX7_sumOf 77 = .ok (.aload_n 0, 1) := by decide +kernel
theorem dX7_sumOf_78 : decode cX7_sumOf 78 = .ok (.iload_n 3, 1) := by decide +kernel
theorem dX7_sumOf_79 : decode cX7_sumOf 79 = .ok (.invokevirtual 178, 3) := by decide +kernel
theorem dX7_sumOf_82 : decode cX7_sumOf 82 = .ok (.ifCond .eq 7, 3) := by decide +kernel
theorem dX7_sumOf_85 : decode cX7_sumOf 85 = .ok (.iconst 1, 1) := by decide +kernel
theorem dX7_sumOf_86 : decode cX7_sumOf 86 = .ok (.goto 4, 3) := by decide +kernel
theorem dX7_sumOf_89 : decode cX7_sumOf 89 = .ok (.iconst 0, 1) := by decide +kernel
theorem dX7_sumOf_90 : decode cX7_sumOf 90 = .ok (.iadd, 1) := by decide +kernel
theorem dX7_sumOf_91 : decode cX7_sumOf 91 = .ok (.istore_n 2, 1) := by decide +kernel
theorem dX7_sumOf_92 : decode cX7_sumOf 92 = .ok (.goto 39, 3) := by decide +kernel
theorem dX7_sumOf_95 : decode cX7_sumOf 95 = .ok (.iload_n 2, 1) := by decide +kernel
theorem dX7_sumOf_96 : decode cX7_sumOf 96 = .ok (.aload_n 0, 1) := by decide +kernel
theorem dX7_sumOf_97 : decode cX7_sumOf 97 = .ok (.getfield 19, 3) := by decide +kernel
theorem dX7_sumOf_100 : decode cX7_sumOf 100 = .ok (.iload_n 3, 1) := by decide +kernel
theorem dX7_sumOf_101 : decode cX7_sumOf 101 = .ok (.iaload, 1) := by decide +kernel
theorem dX7_sumOf_102 : decode cX7_sumOf 102 = .ok (.invokestatic 100, 3) := by decide +kernel
theorem dX7_sumOf_105 : decode cX7_sumOf 105 = .ok (.iadd, 1) := by decide +kernel
theorem dX7_sumOf_106 : decode cX7_sumOf 106 = .ok (.istore_n 2, 1) := by decide +kernel
theorem dX7_sumOf_107 : decode cX7_sumOf 107 = .ok (.goto 24, 3) := by decide +kernel
theorem dX7_sumOf_110 : decode cX7_sumOf 110 = .ok (.iload_n 2, 1) := by decide +kernel
theorem dX7_sumOf_111 : decode cX7_sumOf 111 = .ok (.aload_n 0, 1) := by decide +kernel
theorem dX7_sumOf_112 : decode cX7_sumOf 112 = .ok (.getfield 7, 3) := by decide +kernel
theorem dX7_sumOf_115 : decode cX7_sumOf 115 = .ok (.sipush 192, 3) := by decide +kernel
theorem dX7_sumOf_118 : decode cX7_sumOf 118 = .ok (.iload_n 3, 1) := by decide +kernel
theorem dX7_sumOf_119 : decode cX7_sumOf 119 = .ok (.iadd, 1) := by decide +kernel
theorem dX7_sumOf_120 : decode cX7_sumOf 120 = .ok (.iaload, 1) := by decide +kernel
theorem dX7_sumOf_121 : decode cX7_sumOf 121 = .ok (.ifCond .ne 7, 3) := by decide +kernel
theorem dX7_sumOf_124 : decode cX7_sumOf 124 = .ok (.iconst 0, 1) := by decide +kernel
theorem dX7_sumOf_125 : decode cX7_sumOf 125 = .ok (.goto 4, 3) := by decide +kernel
theorem dX7_sumOf_128 : decode cX7_sumOf 128 = .ok (.iconst 1, 1) := by decide +kernel
theorem dX7_sumOf_129 : decode cX7_sumOf 129 = .ok (.iadd, 1) := by decide +kernel
theorem dX7_sumOf_130 : decode cX7_sumOf 130 = .ok (.istore_n 2, 1) := by decide +kernel
theorem dX7_sumOf_131 : decode cX7_sumOf 131 = .ok (.iinc 3 1, 3) := by decide +kernel
theorem dX7_sumOf_134 : decode cX7_sumOf 134 = .ok (.goto (-130), 3) := by decide +kernel
theorem dX7_sumOf_137 : decode cX7_sumOf 137 = .ok (.iload_n 2, 1) := by decide +kernel
theorem dX7_sumOf_138 : decode cX7_sumOf 138 = .ok (.ireturn, 1) := by decide +kernel
set_option maxRecDepth 20000 in
theorem ggX7_wrongHoles_X7_isRight : GoodIn wsX7_wrongHoles wsX7_isRight := goodIn_r _ [6, 7, 8, 9, 10, 11, 12, 5, 13, 14, 20, 21, 22, 23, 24, 25, 26, 27, 28, 29, 30, 31, 32, 33, 34, 35, 36, 37, 38] (by decide +kernel) (by decide +kernel)
set_option maxRecDepth 20000 in
theorem gX7_wrongHoles_X7_isRight : GoodIn wsX7_wrongHoles (wsV RX7 90 RX7 yX7_isRight wsX7_isRight) := goodIn_app (goodIn_of _ (by decide +kernel)) ggX7_wrongHoles_X7_isRight
set_option maxRecDepth 20000 in
theorem ggX7_wrongHoles_X7_holesOf : GoodIn wsX7_wrongHoles wsX7_holesOf := goodIn_r _ [18, 8, 9, 19, 7, 20, 21, 22, 23, 24, 25, 26, 27, 28, 29, 30, 31, 32, 33, 34, 35, 36, 37, 38] (by decide +kernel) (by decide +kernel)
set_option maxRecDepth 20000 in
theorem gX7_wrongHoles_X7_holesOf : GoodIn wsX7_wrongHoles (wsV RX7 184 RX7 yX7_holesOf wsX7_holesOf) := goodIn_app (goodIn_of _ (by decide +kernel)) ggX7_wrongHoles_X7_holesOf
theorem dX7_wrongHoles_0 : decode cX7_wrongHoles 0 = .ok (.iconst 0, 1) := by decide +kernel
theorem dX7_wrongHoles_1 : decode cX7_wrongHoles 1 = .ok (.istore_n 1, 1) := by decide +kernel
theorem dX7_wrongHoles_2 : decode cX7_wrongHoles 2 = .ok (.iconst 0, 1) := by decide +kernel
theorem dX7_wrongHoles_3 : decode cX7_wrongHoles 3 = .ok (.istore_n 2, 1) := by decide +kernel
theorem dX7_wrongHoles_4 : decode cX7_wrongHoles 4 = .ok (.iload_n 2, 1) := by decide +kernel
theorem dX7_wrongHoles_5 : decode cX7_wrongHoles 5 = .ok (.aload_n 0, 1) := by decide +kernel
theorem dX7_wrongHoles_6 : decode cX7_wrongHoles 6 = .ok (.getfield 79, 3) := by decide +kernel
theorem dX7_wrongHoles_9 : decode cX7_wrongHoles 9 = .ok (.if_icmp .ge 29, 3) := by decide +kernel
theorem dX7_wrongHoles_12 : decode cX7_wrongHoles 12 = .ok (.iload_n 1, 1) := by decide +kernel
theorem dX7_wrongHoles_13 : decode cX7_wrongHoles 13 = .ok (.aload_n 0, 1) := by decide +kernel
theorem dX7_wrongHoles_14 : decode cX7_wrongHoles 14 = .ok (.iload_n 2, 1) := by decide +kernel
theorem dX7_wrongHoles_15 : decode cX7_wrongHoles 15 = .ok (.invokevirtual 90, 3) := by decide +kernel
theorem dX7_wrongHoles_18 : decode cX7_wrongHoles 18 = .ok (.ifCond .eq 7, 3) := by decide +kernel
theorem dX7_wrongHoles_21 : decode cX7_wrongHoles 21 = .ok (.iconst 0, 1) := by decide +kernel
theorem dX7_wrongHoles_22 : decode cX7_wrongHoles 22 = .ok (.goto 8, 3) := by decide +kernel
theorem dX7_wrongHoles_25 : decode cX7_wrongHoles 25 = .ok (.aload_n 0, 1) := by decide +kernel
theorem dX7_wrongHoles_26 : decode cX7_wrongHoles 26 = .ok (.iload_n 2, 1) := by decide +kernel
theorem dX7_wrongHoles_27 : decode cX7_wrongHoles 27 = .ok (.invokevirtual 184, 3) := by decide +kernel
theorem dX7_wrongHoles_30 : decode cX7_wrongHoles 30 = .ok (.iadd, 1) := by decide +kernel
theorem dX7_wrongHoles_31 : decode cX7_wrongHoles 31 = .ok (.istore_n 1, 1) := by decide +kernel
theorem dX7_wrongHoles_32 : decode cX7_wrongHoles 32 = .ok (.iinc 2 1, 3) := by decide +kernel
theorem dX7_wrongHoles_35 : decode cX7_wrongHoles 35 = .ok (.goto (-31), 3) := by decide +kernel
theorem dX7_wrongHoles_38 : decode cX7_wrongHoles 38 = .ok (.iload_n 1, 1) := by decide +kernel
theorem dX7_wrongHoles_39 : decode cX7_wrongHoles 39 = .ok (.ireturn, 1) := by decide +kernel
set_option maxRecDepth 20000 in
theorem ggX7_counted_X7_onesIn : GoodIn wsX7_counted wsX7_onesIn := goodIn_r _ [7, 8, 9, 10, 6, 11, 69, 70, 71, 72, 73, 74, 75, 76, 77, 78, 79, 80, 81, 82, 83, 84, 85, 86, 87] (by decide +kernel) (by decide +kernel)
set_option maxRecDepth 20000 in
theorem gX7_counted_X7_onesIn : GoodIn wsX7_counted (wsV RX7 203 RX7 yX7_onesIn wsX7_onesIn) := goodIn_app (goodIn_of _ (by decide +kernel)) ggX7_counted_X7_onesIn
set_option maxRecDepth 20000 in
theorem ggX7_counted_X7_openHoles : GoodIn wsX7_counted wsX7_openHoles := goodIn_r _ [15, 16, 17, 18, 6, 19, 8, 9, 10, 11, 69, 70, 71, 72, 73, 74, 75, 76, 77, 78, 79, 80, 81, 82, 83, 84, 85, 86, 87] (by decide +kernel) (by decide +kernel)
set_option maxRecDepth 20000 in
theorem gX7_counted_X7_openHoles : GoodIn wsX7_counted (wsV RX7 206 RX7 yX7_openHoles wsX7_openHoles) := goodIn_app (goodIn_of _ (by decide +kernel)) ggX7_counted_X7_openHoles
set_option maxRecDepth 20000 in
theorem ggX7_counted_X7_tuneNotes : GoodIn wsX7_counted wsX7_tuneNotes := goodIn_r _ [23, 8, 9, 10, 6, 11, 69, 70, 71, 72, 73, 74, 75, 76, 77, 78, 79, 80, 81, 82, 83, 84, 85, 86, 87] (by decide +kernel) (by decide +kernel)
set_option maxRecDepth 20000 in
theorem gX7_counted_X7_tuneNotes : GoodIn wsX7_counted (wsV RX7 197 RX7 yX7_tuneNotes wsX7_tuneNotes) := goodIn_app (goodIn_of _ (by decide +kernel)) ggX7_counted_X7_tuneNotes
set_option maxRecDepth 20000 in
theorem ggX7_counted_X7_rights : GoodIn wsX7_counted wsX7_rights := goodIn_r _ [27, 1, 28, 29, 30, 6, 31, 32, 33, 34, 35, 36, 37, 38, 8, 69, 70, 71, 72, 73, 74, 75, 76, 77, 78, 79, 80, 81, 82, 83, 84, 85, 86, 87] (by decide +kernel) (by decide +kernel)
set_option maxRecDepth 20000 in
theorem gX7_counted_X7_rights : GoodIn wsX7_counted (wsV RX7 96 RX7 yX7_rights wsX7_rights) := goodIn_app (goodIn_of _ (by decide +kernel)) ggX7_counted_X7_rights
set_option maxRecDepth 20000 in
theorem ggX7_counted_X7_sumOf : GoodIn wsX7_counted wsX7_sumOf := goodIn_r _ [42, 43, 44, 8, 45, 46, 47, 6, 48, 49, 50, 51, 52, 53, 54, 55, 56, 57, 58, 59, 60, 9, 10, 11, 69, 70, 71, 72, 73, 74, 75, 76, 77, 78, 79, 80, 81, 82, 83, 84, 85, 86, 87] (by decide +kernel) (by decide +kernel)
set_option maxRecDepth 20000 in
theorem gX7_counted_X7_sumOf : GoodIn wsX7_counted (wsV RX7 209 RX7 yX7_sumOf wsX7_sumOf) := goodIn_app (goodIn_of _ (by decide +kernel)) ggX7_counted_X7_sumOf
set_option maxRecDepth 20000 in
theorem ggX7_counted_X7_wrongHoles : GoodIn wsX7_counted wsX7_wrongHoles := goodIn_r _ [64, 1, 28, 29, 30, 6, 31, 32, 33, 34, 35, 36, 37, 38, 8, 65, 66, 67, 68, 44, 69, 70, 71, 72, 73, 74, 75, 76, 77, 78, 79, 80, 81, 82, 83, 84, 85, 86, 87] (by decide +kernel) (by decide +kernel)
set_option maxRecDepth 20000 in
theorem gX7_counted_X7_wrongHoles : GoodIn wsX7_counted (wsV RX7 212 RX7 yX7_wrongHoles wsX7_wrongHoles) := goodIn_app (goodIn_of _ (by decide +kernel)) ggX7_counted_X7_wrongHoles
theorem dX7_counted_0 : decode cX7_counted 0 = .ok (.iload_n 1, 1) := by decide +kernel
theorem dX7_counted_1 : decode cX7_counted 1 = .ok (.tableswitch 155 0 13 #[71, 77, 82, 89, 94, 99, 104, 114, 124, 124, 124, 133, 138, 149], 71) := by decide +kernel
theorem dX7_counted_72 : decode cX7_counted 72 = .ok (.aload_n 0, 1) := by decide +kernel
theorem dX7_counted_73 : decode cX7_counted 73 = .ok (.iconst 0, 1) := by decide +kernel
theorem dX7_counted_74 : decode cX7_counted 74 = .ok (.invokevirtual 203, 3) := by decide +kernel
theorem dX7_counted_77 : decode cX7_counted 77 = .ok (.ireturn, 1) := by decide +kernel
theorem dX7_counted_78 : decode cX7_counted 78 = .ok (.aload_n 0, 1) := by decide +kernel
theorem dX7_counted_79 : decode cX7_counted 79 = .ok (.invokevirtual 206, 3) := by decide +kernel
theorem dX7_counted_82 : decode cX7_counted 82 = .ok (.ireturn, 1) := by decide +kernel
theorem dX7_counted_83 : decode cX7_counted 83 = .ok (.aload_n 0, 1) := by decide +kernel
theorem dX7_counted_84 : decode cX7_counted 84 = .ok (.bipush 96, 2) := by decide +kernel
theorem dX7_counted_86 : decode cX7_counted 86 = .ok (.invokevirtual 203, 3) := by decide +kernel
theorem dX7_counted_89 : decode cX7_counted 89 = .ok (.ireturn, 1) := by decide +kernel
theorem dX7_counted_90 : decode cX7_counted 90 = .ok (.aload_n 0, 1) := by decide +kernel
theorem dX7_counted_91 : decode cX7_counted 91 = .ok (.getfield 79, 3) := by decide +kernel
theorem dX7_counted_94 : decode cX7_counted 94 = .ok (.ireturn, 1) := by decide +kernel
theorem dX7_counted_95 : decode cX7_counted 95 = .ok (.aload_n 0, 1) := by decide +kernel
theorem dX7_counted_96 : decode cX7_counted 96 = .ok (.invokevirtual 197, 3) := by decide +kernel
theorem dX7_counted_99 : decode cX7_counted 99 = .ok (.ireturn, 1) := by decide +kernel
theorem dX7_counted_100 : decode cX7_counted 100 = .ok (.aload_n 0, 1) := by decide +kernel
theorem dX7_counted_101 : decode cX7_counted 101 = .ok (.invokevirtual 96, 3) := by decide +kernel
theorem dX7_counted_104 : decode cX7_counted 104 = .ok (.ireturn, 1) := by decide +kernel
theorem dX7_counted_105 : decode cX7_counted 105 = .ok (.aload_n 0, 1) := by decide +kernel
theorem dX7_counted_106 : decode cX7_counted 106 = .ok (.getfield 79, 3) := by decide +kernel
theorem dX7_counted_109 : decode cX7_counted 109 = .ok (.aload_n 0, 1) := by decide +kernel
theorem dX7_counted_110 : decode cX7_counted 110 = .ok (.invokevirtual 96, 3) := by decide +kernel
theorem dX7_counted_113 : decode cX7_counted 113 = .ok (.isub, 1) := by decide +kernel
theorem dX7_counted_114 : decode cX7_counted 114 = .ok (.ireturn, 1) := by decide +kernel
theorem dX7_counted_115 : decode cX7_counted 115 = .ok (.aload_n 0, 1) := by decide +kernel
theorem dX7_counted_116 : decode cX7_counted 116 = .ok (.invokevirtual 197, 3) := by decide +kernel
theorem dX7_counted_119 : decode cX7_counted 119 = .ok (.aload_n 0, 1) := by decide +kernel
theorem dX7_counted_120 : decode cX7_counted 120 = .ok (.invokevirtual 96, 3) := by decide +kernel
theorem dX7_counted_123 : decode cX7_counted 123 = .ok (.isub, 1) := by decide +kernel
theorem dX7_counted_124 : decode cX7_counted 124 = .ok (.ireturn, 1) := by decide +kernel
theorem dX7_counted_125 : decode cX7_counted 125 = .ok (.aload_n 0, 1) := by decide +kernel
theorem dX7_counted_126 : decode cX7_counted 126 = .ok (.iload_n 1, 1) := by decide +kernel
theorem dX7_counted_127 : decode cX7_counted 127 = .ok (.bipush 8, 2) := by decide +kernel
theorem dX7_counted_129 : decode cX7_counted 129 = .ok (.isub, 1) := by decide +kernel
theorem dX7_counted_130 : decode cX7_counted 130 = .ok (.invokevirtual 209, 3) := by decide +kernel
theorem dX7_counted_133 : decode cX7_counted 133 = .ok (.ireturn, 1) := by decide +kernel
theorem dX7_counted_134 : decode cX7_counted 134 = .ok (.aload_n 0, 1) := by decide +kernel
theorem dX7_counted_135 : decode cX7_counted 135 = .ok (.invokevirtual 212, 3) := by decide +kernel
theorem dX7_counted_138 : decode cX7_counted 138 = .ok (.ireturn, 1) := by decide +kernel
theorem dX7_counted_139 : decode cX7_counted 139 = .ok (.aload_n 0, 1) := by decide +kernel
theorem dX7_counted_140 : decode cX7_counted 140 = .ok (.invokevirtual 206, 3) := by decide +kernel
theorem dX7_counted_143 : decode cX7_counted 143 = .ok (.aload_n 0, 1) := by decide +kernel
theorem dX7_counted_144 : decode cX7_counted 144 = .ok (.iconst 3, 1) := by decide +kernel
theorem dX7_counted_145 : decode cX7_counted 145 = .ok (.invokevirtual 209, 3) := by decide +kernel
theorem dX7_counted_148 : decode cX7_counted 148 = .ok (.isub, 1) := by decide +kernel
theorem dX7_counted_149 : decode cX7_counted 149 = .ok (.ireturn, 1) := by decide +kernel
theorem dX7_counted_150 : decode cX7_counted 150 = .ok (.aload_n 0, 1) := by decide +kernel
theorem dX7_counted_151 : decode cX7_counted 151 = .ok (.iconst 4, 1) := by decide +kernel
theorem dX7_counted_152 : decode cX7_counted 152 = .ok (.invokevirtual 209, 3) := by decide +kernel
theorem dX7_counted_155 : decode cX7_counted 155 = .ok (.ireturn, 1) := by decide +kernel
theorem dX7_counted_156 : decode cX7_counted 156 = .ok (.aload_n 0, 1) := by decide +kernel
theorem dX7_counted_157 : decode cX7_counted 157 = .ok (.getfield 50, 3) := by decide +kernel
theorem dX7_counted_160 : decode cX7_counted 160 = .ok (.ireturn, 1) := by decide +kernel
set_option maxRecDepth 20000 in
theorem ggX7_count_X7_within : GoodIn wsX7_count wsX7_within := goodIn_r _ [5] (by decide +kernel) (by decide +kernel)
set_option maxRecDepth 20000 in
theorem gX7_count_X7_within : GoodIn wsX7_count (va_wsS RX7 53 yX7_within wsX7_within) := goodIn_app (goodIn_of _ (by decide +kernel)) ggX7_count_X7_within
set_option maxRecDepth 20000 in
theorem ggX7_count_X7_lay : GoodIn wsX7_count wsX7_lay := goodIn_r _ [9, 10, 11, 12, 13, 14, 15, 16, 17, 18, 4, 19, 20, 21, 22, 23, 24, 25, 26, 27, 28, 29, 30, 31, 32, 33, 2, 3, 5, 34, 35, 36, 37, 38, 39, 40, 41, 42, 43, 44, 101, 102, 103, 104, 105, 106, 107, 108, 109, 110, 111, 112, 113, 114, 115, 116, 117, 118, 119] (by decide +kernel) (by decide +kernel)
set_option maxRecDepth 20000 in
theorem gX7_count_X7_lay : GoodIn wsX7_count (wsV RX7 93 RX7 yX7_lay wsX7_lay) := goodIn_app (goodIn_of _ (by decide +kernel)) ggX7_count_X7_lay
set_option maxRecDepth 20000 in
theorem ggX7_count_X7_counted : GoodIn wsX7_count wsX7_counted := goodIn_r _ [48, 10, 49, 50, 51, 52, 4, 53, 26, 54, 55, 56, 57, 58, 59, 60, 22, 23, 24, 25, 61, 62, 63, 64, 65, 66, 67, 68, 69, 70, 71, 72, 12, 13, 14, 73, 74, 75, 76, 77, 78, 79, 80, 11, 20, 81, 82, 83, 84, 21, 85, 86, 87, 88, 89, 90, 91, 92, 2, 3, 5, 93, 94, 95, 96, 97, 98, 99, 100, 101, 102, 103, 104, 105, 106, 107, 108, 109, 110, 111, 112, 113, 114, 115, 116, 117, 118, 119] (by decide +kernel) (by decide +kernel)
set_option maxRecDepth 20000 in
theorem gX7_count_X7_counted : GoodIn wsX7_count (wsV RX7 215 RX7 yX7_counted wsX7_counted) := goodIn_app (goodIn_of _ (by decide +kernel)) ggX7_count_X7_counted
theorem dX7_count_0 : decode cX7_count 0 = .ok (.aload_n 0, 1) := by decide +kernel
theorem dX7_count_1 : decode cX7_count 1 = .ok (.iload_n 1, 1) := by decide +kernel
theorem dX7_count_2 : decode cX7_count 2 = .ok (.iconst 0, 1) := by decide +kernel
theorem dX7_count_3 : decode cX7_count 3 = .ok (.bipush 14, 2) := by decide +kernel
theorem dX7_count_5 : decode cX7_count 5 = .ok (.invokestatic 53, 3) := by decide +kernel
theorem dX7_count_8 : decode cX7_count 8 = .ok (.ifCond .eq 7, 3) := by decide +kernel
theorem dX7_count_11 : decode cX7_count 11 = .ok (.iconst 0, 1) := by decide +kernel
theorem dX7_count_12 : decode cX7_count 12 = .ok (.goto 4, 3) := by decide +kernel
theorem dX7_count_15 : decode cX7_count 15 = .ok (.iconst 1, 1) := by decide +kernel
theorem dX7_count_16 : decode cX7_count 16 = .ok (.putfield 46, 3) := by decide +kernel
theorem dX7_count_19 : decode cX7_count 19 = .ok (.aload_n 0, 1) := by decide +kernel
theorem dX7_count_20 : decode cX7_count 20 = .ok (.getfield 46, 3) := by decide +kernel
theorem dX7_count_23 : decode cX7_count 23 = .ok (.ifCond .le 5, 3) := by decide +kernel
theorem dX7_count_26 : decode cX7_count 26 = .ok (.iconst 0, 1) := by decide +kernel
theorem dX7_count_27 : decode cX7_count 27 = .ok (.ireturn, 1) := by decide +kernel
theorem dX7_count_28 : decode cX7_count 28 = .ok (.aload_n 0, 1) := by decide +kernel
theorem dX7_count_29 : decode cX7_count 29 = .ok (.invokevirtual 93, 3) := by decide +kernel
theorem dX7_count_32 : decode cX7_count 32 = .ok (.aload_n 0, 1) := by decide +kernel
theorem dX7_count_33 : decode cX7_count 33 = .ok (.iload_n 1, 1) := by decide +kernel
theorem dX7_count_34 : decode cX7_count 34 = .ok (.invokevirtual 215, 3) := by decide +kernel
theorem dX7_count_37 : decode cX7_count 37 = .ok (.ireturn, 1) := by decide +kernel
set_option maxRecDepth 20000 in
theorem ggX7_setting_X7_isSetting : GoodIn wsX7_setting wsX7_isSetting := goodIn_r _ [6, 7, 8, 5, 9] (by decide +kernel) (by decide +kernel)
set_option maxRecDepth 20000 in
theorem gX7_setting_X7_isSetting : GoodIn wsX7_setting (va_wsS RX7 135 yX7_isSetting wsX7_isSetting) := goodIn_app (goodIn_of _ (by decide +kernel)) ggX7_setting_X7_isSetting
theorem dX7_setting_0 : decode cX7_setting 0 = .ok (.aload_n 0, 1) := by decide +kernel
theorem dX7_setting_1 : decode cX7_setting 1 = .ok (.iload_n 1, 1) := by decide +kernel
theorem dX7_setting_2 : decode cX7_setting 2 = .ok (.invokestatic 135, 3) := by decide +kernel
theorem dX7_setting_5 : decode cX7_setting 5 = .ok (.ifCond .eq 7, 3) := by decide +kernel
theorem dX7_setting_8 : decode cX7_setting 8 = .ok (.iconst 0, 1) := by decide +kernel
theorem dX7_setting_9 : decode cX7_setting 9 = .ok (.goto 4, 3) := by decide +kernel
theorem dX7_setting_12 : decode cX7_setting 12 = .ok (.iconst 1, 1) := by decide +kernel
theorem dX7_setting_13 : decode cX7_setting 13 = .ok (.putfield 46, 3) := by decide +kernel
theorem dX7_setting_16 : decode cX7_setting 16 = .ok (.aload_n 0, 1) := by decide +kernel
theorem dX7_setting_17 : decode cX7_setting 17 = .ok (.getfield 46, 3) := by decide +kernel
theorem dX7_setting_20 : decode cX7_setting 20 = .ok (.ifCond .le 7, 3) := by decide +kernel
theorem dX7_setting_23 : decode cX7_setting 23 = .ok (.iconst 0, 1) := by decide +kernel
theorem dX7_setting_24 : decode cX7_setting 24 = .ok (.goto 13, 3) := by decide +kernel
theorem dX7_setting_27 : decode cX7_setting 27 = .ok (.aload_n 0, 1) := by decide +kernel
theorem dX7_setting_28 : decode cX7_setting 28 = .ok (.getfield 7, 3) := by decide +kernel
theorem dX7_setting_31 : decode cX7_setting 31 = .ok (.sipush 384, 3) := by decide +kernel
theorem dX7_setting_34 : decode cX7_setting 34 = .ok (.iload_n 1, 1) := by decide +kernel
theorem dX7_setting_35 : decode cX7_setting 35 = .ok (.iadd, 1) := by decide +kernel
theorem dX7_setting_36 : decode cX7_setting 36 = .ok (.iaload, 1) := by decide +kernel
theorem dX7_setting_37 : decode cX7_setting 37 = .ok (.ireturn, 1) := by decide +kernel
theorem dX7_keepSteering_0 : decode cX7_keepSteering 0 = .ok (.iconst 0, 1) := by decide +kernel
theorem dX7_keepSteering_1 : decode cX7_keepSteering 1 = .ok (.istore_n 1, 1) := by decide +kernel
theorem dX7_keepSteering_2 : decode cX7_keepSteering 2 = .ok (.iload_n 1, 1) := by decide +kernel
theorem dX7_keepSteering_3 : decode cX7_keepSteering 3 = .ok (.bipush 96, 2) := by decide +kernel
theorem dX7_keepSteering_5 : decode cX7_keepSteering 5 = .ok (.if_icmp .ge 25, 3) := by decide +kernel
theorem dX7_keepSteering_8 : decode cX7_keepSteering 8 = .ok (.aload_n 0, 1) := by decide +kernel
theorem dX7_keepSteering_9 : decode cX7_keepSteering 9 = .ok (.getfield 43, 3) := by decide +kernel
theorem dX7_keepSteering_12 : decode cX7_keepSteering 12 = .ok (.iload_n 1, 1) := by decide +kernel
theorem dX7_keepSteering_13 : decode cX7_keepSteering 13 = .ok (.aload_n 0, 1) := by decide +kernel
theorem dX7_keepSteering_14 : decode cX7_keepSteering 14 = .ok (.getfield 7, 3) := by decide +kernel
theorem dX7_keepSteering_17 : decode cX7_keepSteering 17 = .ok (.sipush 288, 3) := by decide +kernel
theorem dX7_keepSteering_20 : decode cX7_keepSteering 20 = .ok (.iload_n 1, 1) := by decide +kernel
theorem dX7_keepSteering_21 : decode cX7_keepSteering 21 = .ok (.iadd, 1) := by decide +kernel
theorem dX7_keepSteering_22 : decode cX7_keepSteering 22 = .ok (.iaload, 1) := by decide +kernel
theorem dX7_keepSteering_23 : decode cX7_keepSteering 23 = .ok (.iastore, 1) := by decide +kernel
theorem dX7_keepSteering_24 : decode cX7_keepSteering 24 = .ok (.iinc 1 1, 3) := by decide +kernel
theorem dX7_keepSteering_27 : decode cX7_keepSteering 27 = .ok (.goto (-25), 3) := by decide +kernel
theorem dX7_keepSteering_30 : decode cX7_keepSteering 30 = .ok (.return_, 1) := by decide +kernel
theorem dX7_layBack_0 : decode cX7_layBack 0 = .ok (.iconst 0, 1) := by decide +kernel
theorem dX7_layBack_1 : decode cX7_layBack 1 = .ok (.istore_n 1, 1) := by decide +kernel
theorem dX7_layBack_2 : decode cX7_layBack 2 = .ok (.iload_n 1, 1) := by decide +kernel
theorem dX7_layBack_3 : decode cX7_layBack 3 = .ok (.bipush 96, 2) := by decide +kernel
theorem dX7_layBack_5 : decode cX7_layBack 5 = .ok (.if_icmp .ge 25, 3) := by decide +kernel
theorem dX7_layBack_8 : decode cX7_layBack 8 = .ok (.aload_n 0, 1) := by decide +kernel
theorem dX7_layBack_9 : decode cX7_layBack 9 = .ok (.getfield 7, 3) := by decide +kernel
theorem dX7_layBack_12 : decode cX7_layBack 12 = .ok (.sipush 288, 3) := by decide +kernel
theorem dX7_layBack_15 : decode cX7_layBack 15 = .ok (.iload_n 1, 1) := by decide +kernel
theorem dX7_layBack_16 : decode cX7_layBack 16 = .ok (.iadd, 1) := by decide +kernel
theorem dX7_layBack_17 : decode cX7_layBack 17 = .ok (.aload_n 0, 1) := by decide +kernel
theorem dX7_layBack_18 : decode cX7_layBack 18 = .ok (.getfield 43, 3) := by decide +kernel
theorem dX7_layBack_21 : decode cX7_layBack 21 = .ok (.iload_n 1, 1) := by decide +kernel
theorem dX7_layBack_22 : decode cX7_layBack 22 = .ok (.iaload, 1) := by decide +kernel
theorem dX7_layBack_23 : decode cX7_layBack 23 = .ok (.iastore, 1) := by decide +kernel
theorem dX7_layBack_24 : decode cX7_layBack 24 = .ok (.iinc 1 1, 3) := by decide +kernel
theorem dX7_layBack_27 : decode cX7_layBack 27 = .ok (.goto (-25), 3) := by decide +kernel
theorem dX7_layBack_30 : decode cX7_layBack 30 = .ok (.return_, 1) := by decide +kernel
set_option maxRecDepth 20000 in
theorem ggX7_steerNow_X7_keepSteering : GoodIn wsX7_steerNow wsX7_keepSteering := goodIn_r _ [6, 7, 1, 69, 70, 71, 72, 73, 74, 75, 76, 77, 78, 79, 80, 81, 82, 83, 84, 85, 86, 87] (by decide +kernel) (by decide +kernel)
set_option maxRecDepth 20000 in
theorem gX7_steerNow_X7_keepSteering : GoodIn wsX7_steerNow (wsV RX7 218 RX7 yX7_keepSteering wsX7_keepSteering) := goodIn_app (goodIn_of _ (by decide +kernel)) ggX7_steerNow_X7_keepSteering
set_option maxRecDepth 20000 in
theorem ggX7_steerNow_X7_rightsNow : GoodIn wsX7_steerNow wsX7_rightsNow := goodIn_r _ [11, 12, 13, 14, 5, 15, 16, 17, 18, 19, 20, 21, 22, 23, 24, 25, 26, 27, 28, 29, 30, 31, 1, 32, 33, 34, 35, 36, 37, 38, 39, 40, 41, 42, 43, 44, 45, 46, 47, 48, 49, 50, 51, 52, 53, 54, 55, 56, 57, 58, 59, 60, 61, 62, 63, 64, 69, 70, 71, 72, 73, 74, 75, 76, 77, 78, 79, 80, 81, 82, 83, 84, 85, 86, 87] (by decide +kernel) (by decide +kernel)
set_option maxRecDepth 20000 in
theorem gX7_steerNow_X7_rightsNow : GoodIn wsX7_steerNow (wsV RX7 129 RX7 yX7_rightsNow wsX7_rightsNow) := goodIn_app (goodIn_of _ (by decide +kernel)) ggX7_steerNow_X7_rightsNow
set_option maxRecDepth 20000 in
theorem ggX7_steerNow_X7_layBack : GoodIn wsX7_steerNow wsX7_layBack := goodIn_r _ [68, 1, 7, 69, 70, 71, 72, 73, 74, 75, 76, 77, 78, 79, 80, 81, 82, 83, 84, 85, 86, 87] (by decide +kernel) (by decide +kernel)
set_option maxRecDepth 20000 in
theorem gX7_steerNow_X7_layBack : GoodIn wsX7_steerNow (wsV RX7 221 RX7 yX7_layBack wsX7_layBack) := goodIn_app (goodIn_of _ (by decide +kernel)) ggX7_steerNow_X7_layBack
theorem dX7_steerNow_0 : decode cX7_steerNow 0 = .ok (.aload_n 0, 1) := by decide +kernel
theorem dX7_steerNow_1 : decode cX7_steerNow 1 = .ok (.invokevirtual 218, 3) := by decide +kernel
theorem dX7_steerNow_4 : decode cX7_steerNow 4 = .ok (.iconst 0, 1) := by decide +kernel
theorem dX7_steerNow_5 : decode cX7_steerNow 5 = .ok (.istore 4, 2) := by decide +kernel
theorem dX7_steerNow_7 : decode cX7_steerNow 7 = .ok (.iconst (-1), 1) := by decide +kernel
theorem dX7_steerNow_8 : decode cX7_steerNow 8 = .ok (.istore 5, 2) := by decide +kernel
theorem dX7_steerNow_10 : decode cX7_steerNow 10 = .ok (.iconst 0, 1) := by decide +kernel
theorem dX7_steerNow_11 : decode cX7_steerNow 11 = .ok (.istore 6, 2) := by decide +kernel
theorem dX7_steerNow_13 : decode cX7_steerNow 13 = .ok (.iload 6, 2) := by decide +kernel
theorem dX7_steerNow_15 : decode cX7_steerNow 15 = .ok (.bipush 7, 2) := by decide +kernel
theorem dX7_steerNow_17 : decode cX7_steerNow 17 = .ok (.if_icmp .ge 99, 3) := by decide +kernel
theorem dX7_steerNow_20 : decode cX7_steerNow 20 = .ok (.iload 6, 2) := by decide +kernel
theorem dX7_steerNow_22 : decode cX7_steerNow 22 = .ok (.iconst 2, 1) := by decide +kernel
theorem dX7_steerNow_23 : decode cX7_steerNow 23 = .ok (.irem, 1) := by decide +kernel
theorem dX7_steerNow_24 : decode cX7_steerNow 24 = .ok (.iconst 1, 1) := by decide +kernel
theorem dX7_steerNow_25 : decode cX7_steerNow 25 = .ok (.if_icmp .ne 13, 3) := by decide +kernel
theorem dX7_steerNow_28 : decode cX7_steerNow 28 = .ok (.iload 6, 2) := by decide +kernel
theorem dX7_steerNow_30 : decode cX7_steerNow 30 = .ok (.iconst 1, 1) := by decide +kernel
theorem dX7_steerNow_31 : decode cX7_steerNow 31 = .ok (.iadd, 1) := by decide +kernel
theorem dX7_steerNow_32 : decode cX7_steerNow 32 = .ok (.ineg, 1) := by decide +kernel
theorem dX7_steerNow_33 : decode cX7_steerNow 33 = .ok (.iconst 2, 1) := by decide +kernel
theorem dX7_steerNow_34 : decode cX7_steerNow 34 = .ok (.idiv, 1) := by decide +kernel
theorem dX7_steerNow_35 : decode cX7_steerNow 35 = .ok (.goto 7, 3) := by decide +kernel
theorem dX7_steerNow_38 : decode cX7_steerNow 38 = .ok (.iload 6, 2) := by decide +kernel
theorem dX7_steerNow_40 : decode cX7_steerNow 40 = .ok (.iconst 2, 1) := by decide +kernel
theorem dX7_steerNow_41 : decode cX7_steerNow 41 = .ok (.idiv, 1) := by decide +kernel
theorem dX7_steerNow_42 : decode cX7_steerNow 42 = .ok (.istore 7, 2) := by decide +kernel
theorem dX7_steerNow_44 : decode cX7_steerNow 44 = .ok (.iload_n 1, 1) := by decide +kernel
theorem dX7_steerNow_45 : decode cX7_steerNow 45 = .ok (.istore 8, 2) := by decide +kernel
theorem dX7_steerNow_47 : decode cX7_steerNow 47 = .ok (.iload 8, 2) := by decide +kernel
theorem dX7_steerNow_49 : decode cX7_steerNow 49 = .ok (.iload_n 2, 1) := by decide +kernel
theorem dX7_steerNow_50 : decode cX7_steerNow 50 = .ok (.if_icmp .gt 22, 3) := by decide +kernel
theorem dX7_steerNow_53 : decode cX7_steerNow 53 = .ok (.aload_n 0, 1) := by decide +kernel
theorem dX7_steerNow_54 : decode cX7_steerNow 54 = .ok (.getfield 7, 3) := by decide +kernel
theorem dX7_steerNow_57 : decode cX7_steerNow 57 = .ok (.sipush 288, 3) := by decide +kernel
theorem dX7_steerNow_60 : decode cX7_steerNow 60 = .ok (.iload 8, 2) := by decide +kernel
theorem dX7_steerNow_62 : decode cX7_steerNow 62 = .ok (.iadd, 1) := by decide +kernel
theorem dX7_steerNow_63 : decode cX7_steerNow 63 = .ok (.iload 7, 2) := by decide +kernel
theorem dX7_steerNow_65 : decode cX7_steerNow 65 = .ok (.iastore, 1) := by decide +kernel
theorem dX7_steerNow_66 : decode cX7_steerNow 66 = .ok (.iinc 8 1, 3) := by decide +kernel
theorem dX7_steerNow_69 : decode cX7_steerNow 69 = .ok (.goto (-22), 3) := by decide +kernel
theorem dX7_steerNow_72 : decode cX7_steerNow 72 = .ok (.aload_n 0, 1) := by decide +kernel
theorem dX7_steerNow_73 : decode cX7_steerNow 73 = .ok (.invokevirtual 129, 3) := by decide +kernel
theorem dX7_steerNow_76 : decode cX7_steerNow 76 = .ok (.istore 8, 2) := by decide +kernel
theorem dX7_steerNow_78 : decode cX7_steerNow 78 = .ok (.iload 8, 2) := by decide +kernel
theorem dX7_steerNow_80 : decode cX7_steerNow 80 = .ok (.iload 5, 2) := by decide +kernel
theorem dX7_steerNow_82 : decode cX7_steerNow 82 = .ok (.if_icmp .le 8, 3) := by decide +kernel
theorem dX7_steerNow_85 : decode cX7_steerNow 85 = .ok (.iload 7, 2) := by decide +kernel
theorem dX7_steerNow_87 : decode cX7_steerNow 87 = .ok (.goto 5, 3) := by decide +kernel
theorem dX7_steerNow_90 : decode cX7_steerNow 90 = .ok (.iload 4, 2) := by decide +kernel
theorem dX7_steerNow_92 : decode cX7_steerNow 92 = .ok (.istore 4, 2) := by decide +kernel
theorem dX7_steerNow_94 : decode cX7_steerNow 94 = .ok (.iload 8, 2) := by decide +kernel
theorem dX7_steerNow_96 : decode cX7_steerNow 96 = .ok (.iload 5, 2) := by decide +kernel
theorem dX7_steerNow_98 : decode cX7_steerNow 98 = .ok (.if_icmp .le 8, 3) := by decide +kernel
theorem dX7_steerNow_101 : decode cX7_steerNow 101 = .ok (.iload 8, 2) := by decide +kernel
theorem dX7_steerNow_103 : decode cX7_steerNow 103 = .ok (.goto 5, 3) := by decide +kernel
theorem dX7_steerNow_106 : decode cX7_steerNow 106 = .ok (.iload 5, 2) := by decide +kernel
theorem dX7_steerNow_108 : decode cX7_steerNow 108 = .ok (.istore 5, 2) := by decide +kernel
theorem dX7_steerNow_110 : decode cX7_steerNow 110 = .ok (.iinc 6 1, 3) := by decide +kernel
theorem dX7_steerNow_113 : decode cX7_steerNow 113 = .ok (.goto (-100), 3) := by decide +kernel
theorem dX7_steerNow_116 : decode cX7_steerNow 116 = .ok (.aload_n 0, 1) := by decide +kernel
theorem dX7_steerNow_117 : decode cX7_steerNow 117 = .ok (.invokevirtual 221, 3) := by decide +kernel
theorem dX7_steerNow_120 : decode cX7_steerNow 120 = .ok (.iload_n 3, 1) := by decide +kernel
theorem dX7_steerNow_121 : decode cX7_steerNow 121 = .ok (.ifCond .ne 8, 3) := by decide +kernel
theorem dX7_steerNow_124 : decode cX7_steerNow 124 = .ok (.iload 4, 2) := by decide +kernel
theorem dX7_steerNow_126 : decode cX7_steerNow 126 = .ok (.goto 5, 3) := by decide +kernel
theorem dX7_steerNow_129 : decode cX7_steerNow 129 = .ok (.iload 5, 2) := by decide +kernel
theorem dX7_steerNow_131 : decode cX7_steerNow 131 = .ok (.ireturn, 1) := by decide +kernel
set_option maxRecDepth 20000 in
theorem ggX7_bestSteer_X7_refusedRange : GoodIn wsX7_bestSteer wsX7_refusedRange := goodIn_r _ [5, 6, 7, 4, 8, 9, 10, 11] (by decide +kernel) (by decide +kernel)
set_option maxRecDepth 20000 in
theorem gX7_bestSteer_X7_refusedRange : GoodIn wsX7_bestSteer (va_wsS RX7 116 yX7_refusedRange wsX7_refusedRange) := goodIn_app (goodIn_of _ (by decide +kernel)) ggX7_bestSteer_X7_refusedRange
set_option maxRecDepth 20000 in
theorem ggX7_bestSteer_X7_within : GoodIn wsX7_bestSteer wsX7_within := goodIn_r _ [11] (by decide +kernel) (by decide +kernel)
set_option maxRecDepth 20000 in
theorem gX7_bestSteer_X7_within : GoodIn wsX7_bestSteer (va_wsS RX7 53 yX7_within wsX7_within) := goodIn_app (goodIn_of _ (by decide +kernel)) ggX7_bestSteer_X7_within
set_option maxRecDepth 20000 in
theorem ggX7_bestSteer_X7_steerNow : GoodIn wsX7_bestSteer wsX7_steerNow := goodIn_r _ [15, 16, 17, 18, 19, 4, 20, 21, 22, 23, 24, 25, 26, 27, 28, 29, 30, 31, 32, 33, 34, 35, 36, 37, 38, 39, 40, 41, 42, 43, 44, 45, 46, 47, 48, 49, 50, 51, 52, 9, 10, 11, 53, 54, 55, 56, 57, 58, 59, 60, 61, 62, 63, 64, 65, 66, 67, 68, 69, 70, 71, 72, 73, 74, 75, 76, 77, 78, 79, 80, 81, 82, 83, 84, 85, 86, 87, 88, 89, 90, 91, 92, 93, 94, 95, 96, 97, 98] (by decide +kernel) (by decide +kernel)
set_option maxRecDepth 20000 in
theorem gX7_bestSteer_X7_steerNow : GoodIn wsX7_bestSteer (wsV RX7 224 RX7 yX7_steerNow wsX7_steerNow) := goodIn_app (goodIn_of _ (by decide +kernel)) ggX7_bestSteer_X7_steerNow
theorem dX7_bestSteer_0 : decode cX7_bestSteer 0 = .ok (.aload_n 0, 1) := by decide +kernel
theorem dX7_bestSteer_1 : decode cX7_bestSteer 1 = .ok (.iconst 1, 1) := by decide +kernel
theorem dX7_bestSteer_2 : decode cX7_bestSteer 2 = .ok (.iload_n 1, 1) := by decide +kernel
theorem dX7_bestSteer_3 : decode cX7_bestSteer 3 = .ok (.iload_n 2, 1) := by decide +kernel
theorem dX7_bestSteer_4 : decode cX7_bestSteer 4 = .ok (.invokestatic 116, 3) := by decide +kernel
theorem dX7_bestSteer_7 : decode cX7_bestSteer 7 = .ok (.putfield 46, 3) := by decide +kernel
theorem dX7_bestSteer_10 : decode cX7_bestSteer 10 = .ok (.aload_n 0, 1) := by decide +kernel
theorem dX7_bestSteer_11 : decode cX7_bestSteer 11 = .ok (.getfield 46, 3) := by decide +kernel
theorem dX7_bestSteer_14 : decode cX7_bestSteer 14 = .ok (.ifCond .ne 21, 3) := by decide +kernel
theorem dX7_bestSteer_17 : decode cX7_bestSteer 17 = .ok (.aload_n 0, 1) := by decide +kernel
theorem dX7_bestSteer_18 : decode cX7_bestSteer 18 = .ok (.iload_n 3, 1) := by decide +kernel
theorem dX7_bestSteer_19 : decode cX7_bestSteer 19 = .ok (.iconst 0, 1) := by decide +kernel
theorem dX7_bestSteer_20 : decode cX7_bestSteer 20 = .ok (.iconst 1, 1) := by decide +kernel
theorem dX7_bestSteer_21 : decode cX7_bestSteer 21 = .ok (.invokestatic 53, 3) := by decide +kernel
theorem dX7_bestSteer_24 : decode cX7_bestSteer 24 = .ok (.ifCond .eq 7, 3) := by decide +kernel
theorem dX7_bestSteer_27 : decode cX7_bestSteer 27 = .ok (.iconst 0, 1) := by decide +kernel
theorem dX7_bestSteer_28 : decode cX7_bestSteer 28 = .ok (.goto 4, 3) := by decide +kernel
theorem dX7_bestSteer_31 : decode cX7_bestSteer 31 = .ok (.iconst 2, 1) := by decide +kernel
theorem dX7_bestSteer_32 : decode cX7_bestSteer 32 = .ok (.putfield 46, 3) := by decide +kernel
theorem dX7_bestSteer_35 : decode cX7_bestSteer 35 = .ok (.aload_n 0, 1) := by decide +kernel
theorem dX7_bestSteer_36 : decode cX7_bestSteer 36 = .ok (.getfield 46, 3) := by decide +kernel
theorem dX7_bestSteer_39 : decode cX7_bestSteer 39 = .ok (.ifCond .le 7, 3) := by decide +kernel
theorem dX7_bestSteer_42 : decode cX7_bestSteer 42 = .ok (.iconst 0, 1) := by decide +kernel
theorem dX7_bestSteer_43 : decode cX7_bestSteer 43 = .ok (.goto 10, 3) := by decide +kernel
theorem dX7_bestSteer_46 : decode cX7_bestSteer 46 = .ok (.aload_n 0, 1) := by decide +kernel
theorem dX7_bestSteer_47 : decode cX7_bestSteer 47 = .ok (.iload_n 1, 1) := by decide +kernel
theorem dX7_bestSteer_48 : decode cX7_bestSteer 48 = .ok (.iload_n 2, 1) := by decide +kernel
theorem dX7_bestSteer_49 : decode cX7_bestSteer 49 = .ok (.iload_n 3, 1) := by decide +kernel
theorem dX7_bestSteer_50 : decode cX7_bestSteer 50 = .ok (.invokevirtual 224, 3) := by decide +kernel
theorem dX7_bestSteer_53 : decode cX7_bestSteer 53 = .ok (.ireturn, 1) := by decide +kernel
set_option maxRecDepth 20000 in
theorem ggX7_bridgeNow_X7_rightsNow : GoodIn wsX7_bridgeNow wsX7_rightsNow := goodIn_r _ [6, 7, 8, 9, 5, 10, 11, 12, 13, 14, 15, 16, 17, 18, 19, 20, 21, 22, 23, 24, 25, 26, 1, 27, 28, 29, 30, 31, 32, 33, 34, 35, 36, 37, 38, 39, 40, 41, 42, 43, 44, 45, 46, 47, 48, 49, 50, 51, 52, 53, 54, 55, 56, 57, 58, 59, 60, 61, 62, 63, 64, 65, 66, 67, 68, 69, 70, 71, 72, 73, 74, 75, 76, 77, 78] (by decide +kernel) (by decide +kernel)
set_option maxRecDepth 20000 in
theorem gX7_bridgeNow_X7_rightsNow : GoodIn wsX7_bridgeNow (wsV RX7 129 RX7 yX7_rightsNow wsX7_rightsNow) := goodIn_app (goodIn_of _ (by decide +kernel)) ggX7_bridgeNow_X7_rightsNow
theorem dX7_bridgeNow_0 : decode cX7_bridgeNow 0 = .ok (.aload_n 0, 1) := by decide +kernel
theorem dX7_bridgeNow_1 : decode cX7_bridgeNow 1 = .ok (.getfield 7, 3) := by decide +kernel
theorem dX7_bridgeNow_4 : decode cX7_bridgeNow 4 = .ok (.sipush 384, 3) := by decide +kernel
theorem dX7_bridgeNow_7 : decode cX7_bridgeNow 7 = .ok (.iaload, 1) := by decide +kernel
theorem dX7_bridgeNow_8 : decode cX7_bridgeNow 8 = .ok (.istore_n 1, 1) := by decide +kernel
theorem dX7_bridgeNow_9 : decode cX7_bridgeNow 9 = .ok (.iconst 0, 1) := by decide +kernel
theorem dX7_bridgeNow_10 : decode cX7_bridgeNow 10 = .ok (.istore_n 2, 1) := by decide +kernel
theorem dX7_bridgeNow_11 : decode cX7_bridgeNow 11 = .ok (.iconst (-1), 1) := by decide +kernel
theorem dX7_bridgeNow_12 : decode cX7_bridgeNow 12 = .ok (.istore_n 3, 1) := by decide +kernel
theorem dX7_bridgeNow_13 : decode cX7_bridgeNow 13 = .ok (.iconst 0, 1) := by decide +kernel
theorem dX7_bridgeNow_14 : decode cX7_bridgeNow 14 = .ok (.istore 4, 2) := by decide +kernel
theorem dX7_bridgeNow_16 : decode cX7_bridgeNow 16 = .ok (.iload 4, 2) := by decide +kernel
theorem dX7_bridgeNow_18 : decode cX7_bridgeNow 18 = .ok (.iconst 4, 1) := by decide +kernel
theorem dX7_bridgeNow_19 : decode cX7_bridgeNow 19 = .ok (.if_icmp .ge 51, 3) := by decide +kernel
theorem dX7_bridgeNow_22 : decode cX7_bridgeNow 22 = .ok (.aload_n 0, 1) := by decide +kernel
theorem dX7_bridgeNow_23 : decode cX7_bridgeNow 23 = .ok (.getfield 7, 3) := by decide +kernel
theorem dX7_bridgeNow_26 : decode cX7_bridgeNow 26 = .ok (.sipush 384, 3) := by decide +kernel
theorem dX7_bridgeNow_29 : decode cX7_bridgeNow 29 = .ok (.iload 4, 2) := by decide +kernel
theorem dX7_bridgeNow_31 : decode cX7_bridgeNow 31 = .ok (.iastore, 1) := by decide +kernel
theorem dX7_bridgeNow_32 : decode cX7_bridgeNow 32 = .ok (.aload_n 0, 1) := by decide +kernel
theorem dX7_bridgeNow_33 : decode cX7_bridgeNow 33 = .ok (.invokevirtual 129, 3) := by decide +kernel
theorem dX7_bridgeNow_36 : decode cX7_bridgeNow 36 = .ok (.istore 5, 2) := by decide +kernel
theorem dX7_bridgeNow_38 : decode cX7_bridgeNow 38 = .ok (.iload 5, 2) := by decide +kernel
theorem dX7_bridgeNow_40 : decode cX7_bridgeNow 40 = .ok (.iload_n 3, 1) := by decide +kernel
theorem dX7_bridgeNow_41 : decode cX7_bridgeNow 41 = .ok (.if_icmp .le 8, 3) := by decide +kernel
theorem dX7_bridgeNow_44 : decode cX7_bridgeNow 44 = .ok (.iload 4, 2) := by decide +kernel
theorem dX7_bridgeNow_46 : decode cX7_bridgeNow 46 = .ok (.goto 4, 3) := by decide +kernel
theorem dX7_bridgeNow_49 : decode cX7_bridgeNow 49 = .ok (.iload_n 2, 1) := by decide +kernel
theorem dX7_bridgeNow_50 : decode cX7_bridgeNow 50 = .ok (.istore_n 2, 1) := by decide +kernel
theorem dX7_bridgeNow_51 : decode cX7_bridgeNow 51 = .ok (.iload 5, 2) := by decide +kernel
theorem dX7_bridgeNow_53 : decode cX7_bridgeNow 53 = .ok (.iload_n 3, 1) := by decide +kernel
theorem dX7_bridgeNow_54 : decode cX7_bridgeNow 54 = .ok (.if_icmp .le 8, 3) := by decide +kernel
theorem dX7_bridgeNow_57 : decode cX7_bridgeNow 57 = .ok (.iload 5, 2) := by decide +kernel
theorem dX7_bridgeNow_59 : decode cX7_bridgeNow 59 = .ok (.goto 4, 3) := by decide +kernel
theorem dX7_bridgeNow_62 : decode cX7_bridgeNow 62 = .ok (.iload_n 3, 1) := by decide +kernel
theorem dX7_bridgeNow_63 : decode cX7_bridgeNow 63 = .ok (.istore_n 3, 1) := by decide +kernel
theorem dX7_bridgeNow_64 : decode cX7_bridgeNow 64 = .ok (.iinc 4 1, 3) := by decide +kernel
theorem dX7_bridgeNow_67 : decode cX7_bridgeNow 67 = .ok (.goto (-51), 3) := by decide +kernel
theorem dX7_bridgeNow_70 : decode cX7_bridgeNow 70 = .ok (.aload_n 0, 1) := by decide +kernel
theorem dX7_bridgeNow_71 : decode cX7_bridgeNow 71 = .ok (.getfield 7, 3) := by decide +kernel
theorem dX7_bridgeNow_74 : decode cX7_bridgeNow 74 = .ok (.sipush 384, 3) := by decide +kernel
theorem dX7_bridgeNow_77 : decode cX7_bridgeNow 77 = .ok (.iload_n 1, 1) := by decide +kernel
theorem dX7_bridgeNow_78 : decode cX7_bridgeNow 78 = .ok (.iastore, 1) := by decide +kernel
theorem dX7_bridgeNow_79 : decode cX7_bridgeNow 79 = .ok (.iload_n 2, 1) := by decide +kernel
theorem dX7_bridgeNow_80 : decode cX7_bridgeNow 80 = .ok (.ireturn, 1) := by decide +kernel
set_option maxRecDepth 20000 in
theorem ggX7_bestBridge_X7_bridgeNow : GoodIn wsX7_bestBridge wsX7_bridgeNow := goodIn_r _ [6, 7, 8, 9, 10, 5, 11, 12, 13, 14, 15, 16, 17, 18, 19, 20, 21, 22, 23, 24, 25, 26, 27, 28, 29, 30, 31, 32, 33, 34, 35, 36, 37, 38, 39, 40, 41, 42, 43, 44, 45, 46, 47, 48, 49, 50, 51, 52, 53, 54, 55, 56, 57, 58, 59, 60, 61, 62, 63, 64, 65, 66, 67, 68, 69, 70, 71, 72, 73, 74, 75, 76, 77, 78, 79, 80, 81, 82, 83] (by decide +kernel) (by decide +kernel)
set_option maxRecDepth 20000 in
theorem gX7_bestBridge_X7_bridgeNow : GoodIn wsX7_bestBridge (wsV RX7 227 RX7 yX7_bridgeNow wsX7_bridgeNow) := goodIn_app (goodIn_of _ (by decide +kernel)) ggX7_bestBridge_X7_bridgeNow
theorem dX7_bestBridge_0 : decode cX7_bestBridge 0 = .ok (.aload_n 0, 1) := by decide +kernel
theorem dX7_bestBridge_1 : decode cX7_bestBridge 1 = .ok (.iconst 0, 1) := by decide +kernel
theorem dX7_bestBridge_2 : decode cX7_bestBridge 2 = .ok (.putfield 46, 3) := by decide +kernel
theorem dX7_bestBridge_5 : decode cX7_bestBridge 5 = .ok (.aload_n 0, 1) := by decide +kernel
theorem dX7_bestBridge_6 : decode cX7_bestBridge 6 = .ok (.invokevirtual 227, 3) := by decide +kernel
theorem dX7_bestBridge_9 : decode cX7_bestBridge 9 = .ok (.ireturn, 1) := by decide +kernel
theorem dX7_held_0 : decode cX7_held 0 = .ok (.iload_n 0, 1) := by decide +kernel
theorem dX7_held_1 : decode cX7_held 1 = .ok (.iconst 3, 1) := by decide +kernel
theorem dX7_held_2 : decode cX7_held 2 = .ok (.if_icmp .le 7, 3) := by decide +kernel
theorem dX7_held_5 : decode cX7_held 5 = .ok (.iconst 3, 1) := by decide +kernel
theorem dX7_held_6 : decode cX7_held 6 = .ok (.goto 15, 3) := by decide +kernel
theorem dX7_held_9 : decode cX7_held 9 = .ok (.iload_n 0, 1) := by decide +kernel
theorem dX7_held_10 : decode cX7_held 10 = .ok (.bipush (-3), 2) := by decide +kernel
theorem dX7_held_12 : decode cX7_held 12 = .ok (.if_icmp .ge 8, 3) := by decide +kernel
theorem dX7_held_15 : decode cX7_held 15 = .ok (.bipush (-3), 2) := by decide +kernel
theorem dX7_held_17 : decode cX7_held 17 = .ok (.goto 4, 3) := by decide +kernel
theorem dX7_held_20 : decode cX7_held 20 = .ok (.iload_n 0, 1) := by decide +kernel
theorem dX7_held_21 : decode cX7_held 21 = .ok (.ireturn, 1) := by decide +kernel
set_option maxRecDepth 20000 in
theorem ggX7_breakNow_X7_keepSteering : GoodIn wsX7_breakNow wsX7_keepSteering := goodIn_r _ [7, 2, 1, 72, 73, 74, 75, 76, 77, 78, 79, 80, 81, 82, 83, 84, 85, 86, 87, 88, 89, 90] (by decide +kernel) (by decide +kernel)
set_option maxRecDepth 20000 in
theorem gX7_breakNow_X7_keepSteering : GoodIn wsX7_breakNow (wsV RX7 218 RX7 yX7_keepSteering wsX7_keepSteering) := goodIn_app (goodIn_of _ (by decide +kernel)) ggX7_breakNow_X7_keepSteering
set_option maxRecDepth 20000 in
theorem ggX7_breakNow_X7_held : GoodIn wsX7_breakNow wsX7_held := goodIn_r _ [10] (by decide +kernel) (by decide +kernel)
set_option maxRecDepth 20000 in
theorem gX7_breakNow_X7_held : GoodIn wsX7_breakNow (va_wsS RX7 230 yX7_held wsX7_held) := goodIn_app (goodIn_of _ (by decide +kernel)) ggX7_breakNow_X7_held
set_option maxRecDepth 20000 in
theorem ggX7_breakNow_X7_rightsNow : GoodIn wsX7_breakNow wsX7_rightsNow := goodIn_r _ [14, 15, 16, 17, 6, 18, 19, 20, 21, 22, 23, 24, 25, 26, 27, 28, 29, 30, 31, 32, 33, 34, 1, 35, 36, 37, 38, 39, 40, 41, 42, 43, 44, 45, 46, 47, 48, 49, 50, 51, 52, 53, 54, 55, 56, 57, 58, 59, 60, 61, 62, 63, 64, 65, 66, 67, 72, 73, 74, 75, 76, 77, 78, 79, 80, 81, 82, 83, 84, 85, 86, 87, 88, 89, 90] (by decide +kernel) (by decide +kernel)
set_option maxRecDepth 20000 in
theorem gX7_breakNow_X7_rightsNow : GoodIn wsX7_breakNow (wsV RX7 129 RX7 yX7_rightsNow wsX7_rightsNow) := goodIn_app (goodIn_of _ (by decide +kernel)) ggX7_breakNow_X7_rightsNow
set_option maxRecDepth 20000 in
theorem ggX7_breakNow_X7_layBack : GoodIn wsX7_breakNow wsX7_layBack := goodIn_r _ [71, 1, 2, 72, 73, 74, 75, 76, 77, 78, 79, 80, 81, 82, 83, 84, 85, 86, 87, 88, 89, 90] (by decide +kernel) (by decide +kernel)
set_option maxRecDepth 20000 in
theorem gX7_breakNow_X7_layBack : GoodIn wsX7_breakNow (wsV RX7 221 RX7 yX7_layBack wsX7_layBack) := goodIn_app (goodIn_of _ (by decide +kernel)) ggX7_breakNow_X7_layBack
theorem dX7_breakNow_0 : decode cX7_breakNow 0 = .ok (.aload_n 0, 1) := by decide +kernel
theorem dX7_breakNow_1 : decode cX7_breakNow 1 = .ok (.invokevirtual 218, 3) := by decide +kernel
theorem dX7_breakNow_4 : decode cX7_breakNow 4 = .ok (.iconst 0, 1) := by decide +kernel
theorem dX7_breakNow_5 : decode cX7_breakNow 5 = .ok (.istore_n 3, 1) := by decide +kernel
theorem dX7_breakNow_6 : decode cX7_breakNow 6 = .ok (.iconst (-1), 1) := by decide +kernel
theorem dX7_breakNow_7 : decode cX7_breakNow 7 = .ok (.istore 4, 2) := by decide +kernel
theorem dX7_breakNow_9 : decode cX7_breakNow 9 = .ok (.iconst 0, 1) := by decide +kernel
theorem dX7_breakNow_10 : decode cX7_breakNow 10 = .ok (.istore 5, 2) := by decide +kernel
theorem dX7_breakNow_12 : decode cX7_breakNow 12 = .ok (.iload 5, 2) := by decide +kernel
theorem dX7_breakNow_14 : decode cX7_breakNow 14 = .ok (.bipush 96, 2) := by decide +kernel
theorem dX7_breakNow_16 : decode cX7_breakNow 16 = .ok (.if_icmp .ge 101, 3) := by decide +kernel
theorem dX7_breakNow_19 : decode cX7_breakNow 19 = .ok (.iconst 0, 1) := by decide +kernel
theorem dX7_breakNow_20 : decode cX7_breakNow 20 = .ok (.istore 6, 2) := by decide +kernel
theorem dX7_breakNow_22 : decode cX7_breakNow 22 = .ok (.iload 6, 2) := by decide +kernel
theorem dX7_breakNow_24 : decode cX7_breakNow 24 = .ok (.bipush 96, 2) := by decide +kernel
theorem dX7_breakNow_26 : decode cX7_breakNow 26 = .ok (.if_icmp .ge 49, 3) := by decide +kernel
theorem dX7_breakNow_29 : decode cX7_breakNow 29 = .ok (.aload_n 0, 1) := by decide +kernel
theorem dX7_breakNow_30 : decode cX7_breakNow 30 = .ok (.getfield 7, 3) := by decide +kernel
theorem dX7_breakNow_33 : decode cX7_breakNow 33 = .ok (.sipush 288, 3) := by decide +kernel
theorem dX7_breakNow_36 : decode cX7_breakNow 36 = .ok (.iload 6, 2) := by decide +kernel
theorem dX7_breakNow_38 : decode cX7_breakNow 38 = .ok (.iadd, 1) := by decide +kernel
theorem dX7_breakNow_39 : decode cX7_breakNow 39 = .ok (.iload 6, 2) := by decide +kernel
theorem dX7_breakNow_41 : decode cX7_breakNow 41 = .ok (.iload 5, 2) := by decide +kernel
theorem dX7_breakNow_43 : decode cX7_breakNow 43 = .ok (.if_icmp .ge 13, 3) := by decide +kernel
theorem dX7_breakNow_46 : decode cX7_breakNow 46 = .ok (.aload_n 0, 1) := by decide +kernel
theorem dX7_breakNow_47 : decode cX7_breakNow 47 = .ok (.getfield 43, 3) := by decide +kernel
theorem dX7_breakNow_50 : decode cX7_breakNow 50 = .ok (.iload 6, 2) := by decide +kernel
theorem dX7_breakNow_52 : decode cX7_breakNow 52 = .ok (.iaload, 1) := by decide +kernel
theorem dX7_breakNow_53 : decode cX7_breakNow 53 = .ok (.goto 15, 3) := by decide +kernel
theorem dX7_breakNow_56 : decode cX7_breakNow 56 = .ok (.aload_n 0, 1) := by decide +kernel
theorem dX7_breakNow_57 : decode cX7_breakNow 57 = .ok (.getfield 43, 3) := by decide +kernel
theorem dX7_breakNow_60 : decode cX7_breakNow 60 = .ok (.iload 6, 2) := by decide +kernel
theorem dX7_breakNow_62 : decode cX7_breakNow 62 = .ok (.iaload, 1) := by decide +kernel
theorem dX7_breakNow_63 : decode cX7_breakNow 63 = .ok (.iload_n 1, 1) := by decide +kernel
theorem dX7_breakNow_64 : decode cX7_breakNow 64 = .ok (.iadd, 1) := by decide +kernel
theorem dX7_breakNow_65 : decode cX7_breakNow 65 = .ok (.invokestatic 230, 3) := by decide +kernel
theorem dX7_breakNow_68 : decode cX7_breakNow 68 = .ok (.iastore, 1) := by decide +kernel
theorem dX7_breakNow_69 : decode cX7_breakNow 69 = .ok (.iinc 6 1, 3) := by decide +kernel
theorem dX7_breakNow_72 : decode cX7_breakNow 72 = .ok (.goto (-50), 3) := by decide +kernel
theorem dX7_breakNow_75 : decode cX7_breakNow 75 = .ok (.aload_n 0, 1) := by decide +kernel
theorem dX7_breakNow_76 : decode cX7_breakNow 76 = .ok (.invokevirtual 129, 3) := by decide +kernel
theorem dX7_breakNow_79 : decode cX7_breakNow 79 = .ok (.istore 6, 2) := by decide +kernel
theorem dX7_breakNow_81 : decode cX7_breakNow 81 = .ok (.iload 6, 2) := by decide +kernel
theorem dX7_breakNow_83 : decode cX7_breakNow 83 = .ok (.iload 4, 2) := by decide +kernel
theorem dX7_breakNow_85 : decode cX7_breakNow 85 = .ok (.if_icmp .le 8, 3) := by decide +kernel
theorem dX7_breakNow_88 : decode cX7_breakNow 88 = .ok (.iload 5, 2) := by decide +kernel
theorem dX7_breakNow_90 : decode cX7_breakNow 90 = .ok (.goto 4, 3) := by decide +kernel
theorem dX7_breakNow_93 : decode cX7_breakNow 93 = .ok (.iload_n 3, 1) := by decide +kernel
theorem dX7_breakNow_94 : decode cX7_breakNow 94 = .ok (.istore_n 3, 1) := by decide +kernel
theorem dX7_breakNow_95 : decode cX7_breakNow 95 = .ok (.iload 6, 2) := by decide +kernel
theorem dX7_breakNow_97 : decode cX7_breakNow 97 = .ok (.iload 4, 2) := by decide +kernel
theorem dX7_breakNow_99 : decode cX7_breakNow 99 = .ok (.if_icmp .le 8, 3) := by decide +kernel
theorem dX7_breakNow_102 : decode cX7_breakNow 102 = .ok (.iload 6, 2) := by decide +kernel
theorem dX7_breakNow_104 : decode cX7_breakNow 104 = .ok (.goto 5, 3) := by decide +kernel
theorem dX7_breakNow_107 : decode cX7_breakNow 107 = .ok (.iload 4, 2) := by decide +kernel
theorem dX7_breakNow_109 : decode cX7_breakNow 109 = .ok (.istore 4, 2) := by decide +kernel
theorem dX7_breakNow_111 : decode cX7_breakNow 111 = .ok (.iinc 5 1, 3) := by decide +kernel
theorem dX7_breakNow_114 : decode cX7_breakNow 114 = .ok (.goto (-102), 3) := by decide +kernel
theorem dX7_breakNow_117 : decode cX7_breakNow 117 = .ok (.aload_n 0, 1) := by decide +kernel
theorem dX7_breakNow_118 : decode cX7_breakNow 118 = .ok (.invokevirtual 221, 3) := by decide +kernel
theorem dX7_breakNow_121 : decode cX7_breakNow 121 = .ok (.iload_n 2, 1) := by decide +kernel
theorem dX7_breakNow_122 : decode cX7_breakNow 122 = .ok (.ifCond .ne 7, 3) := by decide +kernel
theorem dX7_breakNow_125 : decode cX7_breakNow 125 = .ok (.iload_n 3, 1) := by decide +kernel
theorem dX7_breakNow_126 : decode cX7_breakNow 126 = .ok (.goto 5, 3) := by decide +kernel
theorem dX7_breakNow_129 : decode cX7_breakNow 129 = .ok (.iload 4, 2) := by decide +kernel
theorem dX7_breakNow_131 : decode cX7_breakNow 131 = .ok (.ireturn, 1) := by decide +kernel
set_option maxRecDepth 20000 in
theorem ggX7_bestBreak_X7_isSide : GoodIn wsX7_bestBreak wsX7_isSide := goodIn_r _ [5, 6, 7, 4, 8] (by decide +kernel) (by decide +kernel)
set_option maxRecDepth 20000 in
theorem gX7_bestBreak_X7_isSide : GoodIn wsX7_bestBreak (va_wsS RX7 120 yX7_isSide wsX7_isSide) := goodIn_app (goodIn_of _ (by decide +kernel)) ggX7_bestBreak_X7_isSide
set_option maxRecDepth 20000 in
theorem ggX7_bestBreak_X7_within : GoodIn wsX7_bestBreak wsX7_within := goodIn_r _ [8] (by decide +kernel) (by decide +kernel)
set_option maxRecDepth 20000 in
theorem gX7_bestBreak_X7_within : GoodIn wsX7_bestBreak (va_wsS RX7 53 yX7_within wsX7_within) := goodIn_app (goodIn_of _ (by decide +kernel)) ggX7_bestBreak_X7_within
set_option maxRecDepth 20000 in
theorem ggX7_bestBreak_X7_breakNow : GoodIn wsX7_bestBreak wsX7_breakNow := goodIn_r _ [12, 13, 14, 15, 16, 17, 4, 18, 19, 20, 21, 22, 23, 24, 25, 26, 27, 28, 29, 30, 31, 32, 33, 34, 35, 36, 37, 38, 39, 40, 41, 42, 43, 44, 45, 46, 47, 48, 49, 50, 51, 52, 6, 7, 8, 53, 54, 55, 56, 57, 58, 59, 60, 61, 62, 63, 64, 65, 66, 67, 68, 69, 70, 71, 72, 73, 74, 75, 76, 77, 78, 79, 80, 81, 82, 83, 84, 85, 86, 87, 88, 89, 90, 91, 92, 93, 94, 95, 96, 97, 98] (by decide +kernel) (by decide +kernel)
set_option maxRecDepth 20000 in
theorem gX7_bestBreak_X7_breakNow : GoodIn wsX7_bestBreak (wsV RX7 233 RX7 yX7_breakNow wsX7_breakNow) := goodIn_app (goodIn_of _ (by decide +kernel)) ggX7_bestBreak_X7_breakNow
theorem dX7_bestBreak_0 : decode cX7_bestBreak 0 = .ok (.aload_n 0, 1) := by decide +kernel
theorem dX7_bestBreak_1 : decode cX7_bestBreak 1 = .ok (.iload_n 1, 1) := by decide +kernel
theorem dX7_bestBreak_2 : decode cX7_bestBreak 2 = .ok (.invokestatic 120, 3) := by decide +kernel
theorem dX7_bestBreak_5 : decode cX7_bestBreak 5 = .ok (.ifCond .eq 16, 3) := by decide +kernel
theorem dX7_bestBreak_8 : decode cX7_bestBreak 8 = .ok (.iload_n 2, 1) := by decide +kernel
theorem dX7_bestBreak_9 : decode cX7_bestBreak 9 = .ok (.iconst 0, 1) := by decide +kernel
theorem dX7_bestBreak_10 : decode cX7_bestBreak 10 = .ok (.iconst 1, 1) := by decide +kernel
theorem dX7_bestBreak_11 : decode cX7_bestBreak 11 = .ok (.invokestatic 53, 3) := by decide +kernel
theorem dX7_bestBreak_14 : decode cX7_bestBreak 14 = .ok (.ifCond .eq 7, 3) := by decide +kernel
theorem dX7_bestBreak_17 : decode cX7_bestBreak 17 = .ok (.iconst 0, 1) := by decide +kernel
theorem dX7_bestBreak_18 : decode cX7_bestBreak 18 = .ok (.goto 4, 3) := by decide +kernel
theorem dX7_bestBreak_21 : decode cX7_bestBreak 21 = .ok (.iconst 1, 1) := by decide +kernel
theorem dX7_bestBreak_22 : decode cX7_bestBreak 22 = .ok (.putfield 46, 3) := by decide +kernel
theorem dX7_bestBreak_25 : decode cX7_bestBreak 25 = .ok (.aload_n 0, 1) := by decide +kernel
theorem dX7_bestBreak_26 : decode cX7_bestBreak 26 = .ok (.getfield 46, 3) := by decide +kernel
theorem dX7_bestBreak_29 : decode cX7_bestBreak 29 = .ok (.ifCond .le 7, 3) := by decide +kernel
theorem dX7_bestBreak_32 : decode cX7_bestBreak 32 = .ok (.iconst 0, 1) := by decide +kernel
theorem dX7_bestBreak_33 : decode cX7_bestBreak 33 = .ok (.goto 9, 3) := by decide +kernel
theorem dX7_bestBreak_36 : decode cX7_bestBreak 36 = .ok (.aload_n 0, 1) := by decide +kernel
theorem dX7_bestBreak_37 : decode cX7_bestBreak 37 = .ok (.iload_n 1, 1) := by decide +kernel
theorem dX7_bestBreak_38 : decode cX7_bestBreak 38 = .ok (.iload_n 2, 1) := by decide +kernel
theorem dX7_bestBreak_39 : decode cX7_bestBreak 39 = .ok (.invokevirtual 233, 3) := by decide +kernel
theorem dX7_bestBreak_42 : decode cX7_bestBreak 42 = .ok (.ireturn, 1) := by decide +kernel
set_option maxRecDepth 20000 in
theorem ggX7_holesFor_X7_within : GoodIn wsX7_holesFor wsX7_within := goodIn_r _ [6] (by decide +kernel) (by decide +kernel)
set_option maxRecDepth 20000 in
theorem gX7_holesFor_X7_within : GoodIn wsX7_holesFor (va_wsS RX7 53 yX7_within wsX7_within) := goodIn_app (goodIn_of _ (by decide +kernel)) ggX7_holesFor_X7_within
theorem dX7_holesFor_0 : decode cX7_holesFor 0 = .ok (.aload_n 0, 1) := by decide +kernel
theorem dX7_holesFor_1 : decode cX7_holesFor 1 = .ok (.iload_n 1, 1) := by decide +kernel
theorem dX7_holesFor_2 : decode cX7_holesFor 2 = .ok (.iconst 1, 1) := by decide +kernel
theorem dX7_holesFor_3 : decode cX7_holesFor 3 = .ok (.bipush 96, 2) := by decide +kernel
theorem dX7_holesFor_5 : decode cX7_holesFor 5 = .ok (.invokestatic 53, 3) := by decide +kernel
theorem dX7_holesFor_8 : decode cX7_holesFor 8 = .ok (.ifCond .eq 7, 3) := by decide +kernel
theorem dX7_holesFor_11 : decode cX7_holesFor 11 = .ok (.iconst 0, 1) := by decide +kernel
theorem dX7_holesFor_12 : decode cX7_holesFor 12 = .ok (.goto 4, 3) := by decide +kernel
theorem dX7_holesFor_15 : decode cX7_holesFor 15 = .ok (.iconst 1, 1) := by decide +kernel
theorem dX7_holesFor_16 : decode cX7_holesFor 16 = .ok (.putfield 46, 3) := by decide +kernel
theorem dX7_holesFor_19 : decode cX7_holesFor 19 = .ok (.aload_n 0, 1) := by decide +kernel
theorem dX7_holesFor_20 : decode cX7_holesFor 20 = .ok (.getfield 46, 3) := by decide +kernel
theorem dX7_holesFor_23 : decode cX7_holesFor 23 = .ok (.ifCond .le 5, 3) := by decide +kernel
theorem dX7_holesFor_26 : decode cX7_holesFor 26 = .ok (.iconst 0, 1) := by decide +kernel
theorem dX7_holesFor_27 : decode cX7_holesFor 27 = .ok (.ireturn, 1) := by decide +kernel
theorem dX7_holesFor_28 : decode cX7_holesFor 28 = .ok (.aload_n 0, 1) := by decide +kernel
theorem dX7_holesFor_29 : decode cX7_holesFor 29 = .ok (.getfield 7, 3) := by decide +kernel
theorem dX7_holesFor_32 : decode cX7_holesFor 32 = .ok (.sipush 384, 3) := by decide +kernel
theorem dX7_holesFor_35 : decode cX7_holesFor 35 = .ok (.iaload, 1) := by decide +kernel
theorem dX7_holesFor_36 : decode cX7_holesFor 36 = .ok (.iconst 1, 1) := by decide +kernel
theorem dX7_holesFor_37 : decode cX7_holesFor 37 = .ok (.iadd, 1) := by decide +kernel
theorem dX7_holesFor_38 : decode cX7_holesFor 38 = .ok (.istore_n 2, 1) := by decide +kernel
theorem dX7_holesFor_39 : decode cX7_holesFor 39 = .ok (.iload_n 1, 1) := by decide +kernel
theorem dX7_holesFor_40 : decode cX7_holesFor 40 = .ok (.iconst 1, 1) := by decide +kernel
theorem dX7_holesFor_41 : decode cX7_holesFor 41 = .ok (.isub, 1) := by decide +kernel
theorem dX7_holesFor_42 : decode cX7_holesFor 42 = .ok (.iload_n 2, 1) := by decide +kernel
theorem dX7_holesFor_43 : decode cX7_holesFor 43 = .ok (.idiv, 1) := by decide +kernel
theorem dX7_holesFor_44 : decode cX7_holesFor 44 = .ok (.iconst 1, 1) := by decide +kernel
theorem dX7_holesFor_45 : decode cX7_holesFor 45 = .ok (.iadd, 1) := by decide +kernel
theorem dX7_holesFor_46 : decode cX7_holesFor 46 = .ok (.iload_n 1, 1) := by decide +kernel
theorem dX7_holesFor_47 : decode cX7_holesFor 47 = .ok (.iconst 1, 1) := by decide +kernel
theorem dX7_holesFor_48 : decode cX7_holesFor 48 = .ok (.isub, 1) := by decide +kernel
theorem dX7_holesFor_49 : decode cX7_holesFor 49 = .ok (.iload_n 2, 1) := by decide +kernel
theorem dX7_holesFor_50 : decode cX7_holesFor 50 = .ok (.irem, 1) := by decide +kernel
theorem dX7_holesFor_51 : decode cX7_holesFor 51 = .ok (.ifCond .ne 7, 3) := by decide +kernel
theorem dX7_holesFor_54 : decode cX7_holesFor 54 = .ok (.iconst 0, 1) := by decide +kernel
theorem dX7_holesFor_55 : decode cX7_holesFor 55 = .ok (.goto 4, 3) := by decide +kernel
theorem dX7_holesFor_58 : decode cX7_holesFor 58 = .ok (.iconst 1, 1) := by decide +kernel
theorem dX7_holesFor_59 : decode cX7_holesFor 59 = .ok (.iadd, 1) := by decide +kernel
theorem dX7_holesFor_60 : decode cX7_holesFor 60 = .ok (.ireturn, 1) := by decide +kernel
set_option maxRecDepth 20000 in
theorem ggX7_share_X7_tuneNotes : GoodIn wsX7_share wsX7_tuneNotes := goodIn_r _ [5, 6, 7, 8, 4, 9, 26, 27, 28, 29, 30, 31, 32, 33, 34, 35, 36, 37, 38, 39, 40, 41, 42, 43, 44] (by decide +kernel) (by decide +kernel)
set_option maxRecDepth 20000 in
theorem gX7_share_X7_tuneNotes : GoodIn wsX7_share (wsV RX7 197 RX7 yX7_tuneNotes wsX7_tuneNotes) := goodIn_app (goodIn_of _ (by decide +kernel)) ggX7_share_X7_tuneNotes
set_option maxRecDepth 20000 in
theorem ggX7_share_X7_rights : GoodIn wsX7_share wsX7_rights := goodIn_r _ [13, 14, 15, 16, 17, 4, 18, 19, 20, 21, 22, 23, 24, 25, 6, 26, 27, 28, 29, 30, 31, 32, 33, 34, 35, 36, 37, 38, 39, 40, 41, 42, 43, 44] (by decide +kernel) (by decide +kernel)
set_option maxRecDepth 20000 in
theorem gX7_share_X7_rights : GoodIn wsX7_share (wsV RX7 96 RX7 yX7_rights wsX7_rights) := goodIn_app (goodIn_of _ (by decide +kernel)) ggX7_share_X7_rights
theorem dX7_share_0 : decode cX7_share 0 = .ok (.aload_n 0, 1) := by decide +kernel
theorem dX7_share_1 : decode cX7_share 1 = .ok (.invokevirtual 197, 3) := by decide +kernel
theorem dX7_share_4 : decode cX7_share 4 = .ok (.istore_n 1, 1) := by decide +kernel
theorem dX7_share_5 : decode cX7_share 5 = .ok (.iload_n 1, 1) := by decide +kernel
theorem dX7_share_6 : decode cX7_share 6 = .ok (.ifCond .ne 7, 3) := by decide +kernel
theorem dX7_share_9 : decode cX7_share 9 = .ok (.dconst 0, 1) := by decide +kernel
theorem dX7_share_10 : decode cX7_share 10 = .ok (.goto 11, 3) := by decide +kernel
theorem dX7_share_13 : decode cX7_share 13 = .ok (.aload_n 0, 1) := by decide +kernel
theorem dX7_share_14 : decode cX7_share 14 = .ok (.invokevirtual 96, 3) := by decide +kernel
theorem dX7_share_17 : decode cX7_share 17 = .ok (.i2d, 1) := by decide +kernel
theorem dX7_share_18 : decode cX7_share 18 = .ok (.iload_n 1, 1) := by decide +kernel
theorem dX7_share_19 : decode cX7_share 19 = .ok (.i2d, 1) := by decide +kernel
theorem dX7_share_20 : decode cX7_share 20 = .ok (.ddiv, 1) := by decide +kernel
theorem dX7_share_21 : decode cX7_share 21 = .ok (.dreturn, 1) := by decide +kernel
set_option maxRecDepth 20000 in
theorem ggX7_tuneShare_X7_lay : GoodIn wsX7_tuneShare wsX7_lay := goodIn_r _ [6, 7, 8, 9, 10, 11, 12, 13, 14, 15, 5, 16, 17, 18, 19, 20, 21, 22, 23, 24, 25, 26, 27, 28, 29, 30, 31, 32, 33, 34, 35, 36, 37, 38, 39, 40, 41, 42, 43, 44, 68, 69, 70, 71, 72, 73, 74, 75, 76, 77, 78, 79, 80, 81, 82, 83, 84, 85, 86] (by decide +kernel) (by decide +kernel)
set_option maxRecDepth 20000 in
theorem gX7_tuneShare_X7_lay : GoodIn wsX7_tuneShare (wsV RX7 93 RX7 yX7_lay wsX7_lay) := goodIn_app (goodIn_of _ (by decide +kernel)) ggX7_tuneShare_X7_lay
set_option maxRecDepth 20000 in
theorem ggX7_tuneShare_X7_share : GoodIn wsX7_tuneShare wsX7_share := goodIn_r _ [48, 49, 50, 51, 5, 52, 23, 53, 54, 55, 56, 57, 58, 59, 7, 60, 61, 62, 63, 9, 10, 11, 64, 65, 66, 67, 68, 69, 70, 71, 72, 73, 74, 75, 76, 77, 78, 79, 80, 81, 82, 83, 84, 85, 86] (by decide +kernel) (by decide +kernel)
set_option maxRecDepth 20000 in
theorem gX7_tuneShare_X7_share : GoodIn wsX7_tuneShare (wsV RX7 236 RX7 yX7_share wsX7_share) := goodIn_app (goodIn_of _ (by decide +kernel)) ggX7_tuneShare_X7_share
theorem dX7_tuneShare_0 : decode cX7_tuneShare 0 = .ok (.aload_n 0, 1) := by decide +kernel
theorem dX7_tuneShare_1 : decode cX7_tuneShare 1 = .ok (.iconst 0, 1) := by decide +kernel
theorem dX7_tuneShare_2 : decode cX7_tuneShare 2 = .ok (.putfield 46, 3) := by decide +kernel
theorem dX7_tuneShare_5 : decode cX7_tuneShare 5 = .ok (.aload_n 0, 1) := by decide +kernel
theorem dX7_tuneShare_6 : decode cX7_tuneShare 6 = .ok (.invokevirtual 93, 3) := by decide +kernel
theorem dX7_tuneShare_9 : decode cX7_tuneShare 9 = .ok (.aload_n 0, 1) := by decide +kernel
theorem dX7_tuneShare_10 : decode cX7_tuneShare 10 = .ok (.invokevirtual 236, 3) := by decide +kernel
theorem dX7_tuneShare_13 : decode cX7_tuneShare 13 = .ok (.dreturn, 1) := by decide +kernel
theorem dX7_mix_0 : decode cX7_mix 0 = .ok (.aload_n 0, 1) := by decide +kernel
theorem dX7_mix_1 : decode cX7_mix 1 = .ok (.ldc2_w 240, 3) := by decide +kernel
theorem dX7_mix_4 : decode cX7_mix 4 = .ok (.aload_n 0, 1) := by decide +kernel
theorem dX7_mix_5 : decode cX7_mix 5 = .ok (.getfield 242, 3) := by decide +kernel
theorem dX7_mix_8 : decode cX7_mix 8 = .ok (.lmul, 1) := by decide +kernel
theorem dX7_mix_9 : decode cX7_mix 9 = .ok (.lload_n 1, 1) := by decide +kernel
theorem dX7_mix_10 : decode cX7_mix 10 = .ok (.ladd, 1) := by decide +kernel
theorem dX7_mix_11 : decode cX7_mix 11 = .ok (.putfield 242, 3) := by decide +kernel
theorem dX7_mix_14 : decode cX7_mix 14 = .ok (.return_, 1) := by decide +kernel
set_option maxRecDepth 20000 in
theorem ggX7_mixWouldBe_X7_steerNow : GoodIn wsX7_mixWouldBe wsX7_steerNow := goodIn_r _ [5, 6, 7, 8, 9, 4, 10, 11, 12, 13, 14, 15, 16, 17, 18, 19, 20, 21, 22, 23, 24, 25, 26, 27, 28, 29, 30, 31, 32, 33, 34, 35, 36, 37, 38, 39, 40, 41, 42, 43, 44, 45, 46, 47, 48, 49, 50, 51, 52, 53, 54, 55, 56, 57, 58, 59, 60, 61, 62, 63, 64, 65, 66, 67, 68, 69, 70, 71, 72, 113, 114, 115, 116, 117, 118, 119, 120, 121, 122, 123, 124, 125, 126, 127, 128, 129, 130, 131] (by decide +kernel) (by decide +kernel)
set_option maxRecDepth 20000 in
theorem gX7_mixWouldBe_X7_steerNow : GoodIn wsX7_mixWouldBe (wsV RX7 224 RX7 yX7_steerNow wsX7_steerNow) := goodIn_app (goodIn_of _ (by decide +kernel)) ggX7_mixWouldBe_X7_steerNow
set_option maxRecDepth 20000 in
theorem ggX7_mixWouldBe_X7_mix : GoodIn wsX7_mixWouldBe wsX7_mix := goodIn_r _ [76, 77, 78, 113, 114, 115, 116, 117, 118, 119, 120, 121, 122, 123, 124, 125, 126, 127, 128, 129, 130, 131] (by decide +kernel) (by decide +kernel)
set_option maxRecDepth 20000 in
theorem gX7_mixWouldBe_X7_mix : GoodIn wsX7_mixWouldBe (wsV RX7 246 RX7 yX7_mix wsX7_mix) := goodIn_app (goodIn_of _ (by decide +kernel)) ggX7_mixWouldBe_X7_mix
set_option maxRecDepth 20000 in
theorem ggX7_mixWouldBe_X7_bridgeNow : GoodIn wsX7_mixWouldBe wsX7_bridgeNow := goodIn_r _ [82, 6, 12, 13, 14, 4, 15, 16, 17, 18, 19, 20, 21, 22, 23, 24, 25, 26, 27, 28, 29, 30, 31, 32, 33, 34, 35, 36, 37, 38, 39, 40, 41, 42, 43, 44, 45, 46, 47, 48, 49, 50, 51, 52, 53, 54, 55, 56, 57, 58, 59, 60, 61, 62, 63, 64, 65, 66, 67, 68, 113, 114, 115, 116, 117, 118, 119, 120, 121, 122, 123, 124, 125, 126, 127, 128, 129, 130, 131] (by decide +kernel) (by decide +kernel)
set_option maxRecDepth 20000 in
theorem gX7_mixWouldBe_X7_bridgeNow : GoodIn wsX7_mixWouldBe (wsV RX7 227 RX7 yX7_bridgeNow wsX7_bridgeNow) := goodIn_app (goodIn_of _ (by decide +kernel)) ggX7_mixWouldBe_X7_bridgeNow
set_option maxRecDepth 20000 in
theorem ggX7_mixWouldBe_X7_breakNow : GoodIn wsX7_mixWouldBe wsX7_breakNow := goodIn_r _ [86, 6, 11, 7, 8, 9, 4, 10, 87, 88, 89, 12, 13, 14, 15, 16, 17, 18, 19, 20, 21, 22, 23, 24, 25, 26, 27, 28, 29, 30, 31, 32, 33, 34, 35, 36, 37, 38, 39, 40, 41, 42, 43, 44, 45, 46, 47, 48, 49, 50, 51, 52, 53, 54, 55, 56, 57, 58, 59, 60, 61, 62, 63, 64, 65, 66, 67, 68, 69, 70, 71, 72, 113, 114, 115, 116, 117, 118, 119, 120, 121, 122, 123, 124, 125, 126, 127, 128, 129, 130, 131] (by decide +kernel) (by decide +kernel)
set_option maxRecDepth 20000 in
theorem gX7_mixWouldBe_X7_breakNow : GoodIn wsX7_mixWouldBe (wsV RX7 233 RX7 yX7_breakNow wsX7_breakNow) := goodIn_app (goodIn_of _ (by decide +kernel)) ggX7_mixWouldBe_X7_breakNow
set_option maxRecDepth 20000 in
theorem ggX7_mixWouldBe_X7_lay : GoodIn wsX7_mixWouldBe wsX7_lay := goodIn_r _ [19, 20, 21, 22, 23, 24, 25, 26, 27, 28, 4, 29, 30, 31, 32, 33, 34, 35, 6, 36, 37, 38, 39, 40, 41, 42, 43, 44, 45, 46, 47, 48, 49, 50, 51, 52, 53, 54, 55, 56, 113, 114, 115, 116, 117, 118, 119, 120, 121, 122, 123, 124, 125, 126, 127, 128, 129, 130, 131] (by decide +kernel) (by decide +kernel)
set_option maxRecDepth 20000 in
theorem gX7_mixWouldBe_X7_lay : GoodIn wsX7_mixWouldBe (wsV RX7 93 RX7 yX7_lay wsX7_lay) := goodIn_app (goodIn_of _ (by decide +kernel)) ggX7_mixWouldBe_X7_lay
set_option maxRecDepth 20000 in
theorem ggX7_mixWouldBe_X7_share : GoodIn wsX7_mixWouldBe wsX7_share := goodIn_r _ [93, 94, 95, 96, 4, 97, 6, 98, 99, 100, 57, 58, 59, 60, 20, 61, 62, 63, 64, 22, 23, 24, 65, 66, 67, 68, 113, 114, 115, 116, 117, 118, 119, 120, 121, 122, 123, 124, 125, 126, 127, 128, 129, 130, 131] (by decide +kernel) (by decide +kernel)
set_option maxRecDepth 20000 in
theorem gX7_mixWouldBe_X7_share : GoodIn wsX7_mixWouldBe (wsV RX7 236 RX7 yX7_share wsX7_share) := goodIn_app (goodIn_of _ (by decide +kernel)) ggX7_mixWouldBe_X7_share
set_option maxRecDepth 20000 in
theorem ggX7_mixWouldBe_Jxe99ae_doubleToLongBits_ccdee : GoodIn wsX7_mixWouldBe wsJxe99ae_doubleToLongBits_ccdee := goodIn_r _ [104, 105, 106, 107, 108, 109, 110, 111, 103, 112] (by decide +kernel) (by decide +kernel)
set_option maxRecDepth 20000 in
theorem gX7_mixWouldBe_Jxe99ae_doubleToLongBits_ccdee : GoodIn wsX7_mixWouldBe (va_wsS RX7 250 yJxe99ae_doubleToLongBits_ccdee wsJxe99ae_doubleToLongBits_ccdee) := goodIn_app (goodIn_of _ (by decide +kernel)) ggX7_mixWouldBe_Jxe99ae_doubleToLongBits_ccdee
theorem dX7_mixWouldBe_0 : decode cX7_mixWouldBe 0 = .ok (.iconst 0, 1) := by decide +kernel
theorem dX7_mixWouldBe_1 : decode cX7_mixWouldBe 1 = .ok (.istore_n 1, 1) := by decide +kernel
theorem dX7_mixWouldBe_2 : decode cX7_mixWouldBe 2 = .ok (.iload_n 1, 1) := by decide +kernel
theorem dX7_mixWouldBe_3 : decode cX7_mixWouldBe 3 = .ok (.bipush 6, 2) := by decide +kernel
theorem dX7_mixWouldBe_5 : decode cX7_mixWouldBe 5 = .ok (.if_icmp .ge 53, 3) := by decide +kernel
theorem dX7_mixWouldBe_8 : decode cX7_mixWouldBe 8 = .ok (.iload_n 1, 1) := by decide +kernel
theorem dX7_mixWouldBe_9 : decode cX7_mixWouldBe 9 = .ok (.iconst 3, 1) := by decide +kernel
theorem dX7_mixWouldBe_10 : decode cX7_mixWouldBe 10 = .ok (.if_icmp .le 8, 3) := by decide +kernel
theorem dX7_mixWouldBe_13 : decode cX7_mixWouldBe 13 = .ok (.bipush 48, 2) := by decide +kernel
theorem dX7_mixWouldBe_15 : decode cX7_mixWouldBe 15 = .ok (.goto 4, 3) := by decide +kernel
theorem dX7_mixWouldBe_18 : decode cX7_mixWouldBe 18 = .ok (.iconst 0, 1) := by decide +kernel
theorem dX7_mixWouldBe_19 : decode cX7_mixWouldBe 19 = .ok (.istore_n 2, 1) := by decide +kernel
theorem dX7_mixWouldBe_20 : decode cX7_mixWouldBe 20 = .ok (.iload_n 1, 1) := by decide +kernel
theorem dX7_mixWouldBe_21 : decode cX7_mixWouldBe 21 = .ok (.iconst 1, 1) := by decide +kernel
theorem dX7_mixWouldBe_22 : decode cX7_mixWouldBe 22 = .ok (.if_icmp .le 13, 3) := by decide +kernel
theorem dX7_mixWouldBe_25 : decode cX7_mixWouldBe 25 = .ok (.iload_n 1, 1) := by decide +kernel
theorem dX7_mixWouldBe_26 : decode cX7_mixWouldBe 26 = .ok (.iconst 4, 1) := by decide +kernel
theorem dX7_mixWouldBe_27 : decode cX7_mixWouldBe 27 = .ok (.if_icmp .ge 8, 3) := by decide +kernel
theorem dX7_mixWouldBe_30 : decode cX7_mixWouldBe 30 = .ok (.bipush 47, 2) := by decide +kernel
theorem dX7_mixWouldBe_32 : decode cX7_mixWouldBe 32 = .ok (.goto 5, 3) := by decide +kernel
theorem dX7_mixWouldBe_35 : decode cX7_mixWouldBe 35 = .ok (.bipush 95, 2) := by decide +kernel
theorem dX7_mixWouldBe_37 : decode cX7_mixWouldBe 37 = .ok (.istore_n 3, 1) := by decide +kernel
theorem dX7_mixWouldBe_38 : decode cX7_mixWouldBe 38 = .ok (.aload_n 0, 1) := by decide +kernel
theorem dX7_mixWouldBe_39 : decode cX7_mixWouldBe 39 = .ok (.aload_n 0, 1) := by decide +kernel
theorem dX7_mixWouldBe_40 : decode cX7_mixWouldBe 40 = .ok (.iload_n 2, 1) := by decide +kernel
theorem dX7_mixWouldBe_41 : decode cX7_mixWouldBe 41 = .ok (.iload_n 3, 1) := by decide +kernel
theorem dX7_mixWouldBe_42 : decode cX7_mixWouldBe 42 = .ok (.iload_n 1, 1) := by decide +kernel
theorem dX7_mixWouldBe_43 : decode cX7_mixWouldBe 43 = .ok (.iconst 2, 1) := by decide +kernel
theorem dX7_mixWouldBe_44 : decode cX7_mixWouldBe 44 = .ok (.irem, 1) := by decide +kernel
theorem dX7_mixWouldBe_45 : decode cX7_mixWouldBe 45 = .ok (.invokevirtual 224, 3) := by decide +kernel
theorem dX7_mixWouldBe_48 : decode cX7_mixWouldBe 48 = .ok (.i2l, 1) := by decide +kernel
theorem dX7_mixWouldBe_49 : decode cX7_mixWouldBe 49 = .ok (.invokevirtual 246, 3) := by decide +kernel
theorem dX7_mixWouldBe_52 : decode cX7_mixWouldBe 52 = .ok (.iinc 1 1, 3) := by decide +kernel
theorem dX7_mixWouldBe_55 : decode cX7_mixWouldBe 55 = .ok (.goto (-53), 3) := by decide +kernel
theorem dX7_mixWouldBe_58 : decode cX7_mixWouldBe 58 = .ok (.aload_n 0, 1) := by decide +kernel
theorem dX7_mixWouldBe_59 : decode cX7_mixWouldBe 59 = .ok (.aload_n 0, 1) := by decide +kernel
theorem dX7_mixWouldBe_60 : decode cX7_mixWouldBe 60 = .ok (.invokevirtual 227, 3) := by decide +kernel
theorem dX7_mixWouldBe_63 : decode cX7_mixWouldBe 63 = .ok (.i2l, 1) := by decide +kernel
theorem dX7_mixWouldBe_64 : decode cX7_mixWouldBe 64 = .ok (.invokevirtual 246, 3) := by decide +kernel
theorem dX7_mixWouldBe_67 : decode cX7_mixWouldBe 67 = .ok (.iconst 0, 1) := by decide +kernel
theorem dX7_mixWouldBe_68 : decode cX7_mixWouldBe 68 = .ok (.istore_n 1, 1) := by decide +kernel
theorem dX7_mixWouldBe_69 : decode cX7_mixWouldBe 69 = .ok (.iload_n 1, 1) := by decide +kernel
theorem dX7_mixWouldBe_70 : decode cX7_mixWouldBe 70 = .ok (.iconst 4, 1) := by decide +kernel
theorem dX7_mixWouldBe_71 : decode cX7_mixWouldBe 71 = .ok (.if_icmp .ge 31, 3) := by decide +kernel
theorem dX7_mixWouldBe_74 : decode cX7_mixWouldBe 74 = .ok (.aload_n 0, 1) := by decide +kernel
theorem dX7_mixWouldBe_75 : decode cX7_mixWouldBe 75 = .ok (.aload_n 0, 1) := by decide +kernel
theorem dX7_mixWouldBe_76 : decode cX7_mixWouldBe 76 = .ok (.iload_n 1, 1) := by decide +kernel
theorem dX7_mixWouldBe_77 : decode cX7_mixWouldBe 77 = .ok (.iconst 2, 1) := by decide +kernel
theorem dX7_mixWouldBe_78 : decode cX7_mixWouldBe 78 = .ok (.if_icmp .ge 7, 3) := by decide +kernel
theorem dX7_mixWouldBe_81 : decode cX7_mixWouldBe 81 = .ok (.iconst 1, 1) := by decide +kernel
theorem dX7_mixWouldBe_82 : decode cX7_mixWouldBe 82 = .ok (.goto 4, 3) := by decide +kernel
theorem dX7_mixWouldBe_85 : decode cX7_mixWouldBe 85 = .ok (.iconst (-1), 1) := by decide +kernel
theorem dX7_mixWouldBe_86 : decode cX7_mixWouldBe 86 = .ok (.iload_n 1, 1) := by decide +kernel
theorem dX7_mixWouldBe_87 : decode cX7_mixWouldBe 87 = .ok (.iconst 2, 1) := by decide +kernel
theorem dX7_mixWouldBe_88 : decode cX7_mixWouldBe 88 = .ok (.irem, 1) := by decide +kernel
theorem dX7_mixWouldBe_89 : decode cX7_mixWouldBe 89 = .ok (.invokevirtual 233, 3) := by decide +kernel
theorem dX7_mixWouldBe_92 : decode cX7_mixWouldBe 92 = .ok (.i2l, 1) := by decide +kernel
theorem dX7_mixWouldBe_93 : decode cX7_mixWouldBe 93 = .ok (.invokevirtual 246, 3) := by decide +kernel
theorem dX7_mixWouldBe_96 : decode cX7_mixWouldBe 96 = .ok (.iinc 1 1, 3) := by decide +kernel
theorem dX7_mixWouldBe_99 : decode cX7_mixWouldBe 99 = .ok (.goto (-30), 3) := by decide +kernel
theorem dX7_mixWouldBe_102 : decode cX7_mixWouldBe 102 = .ok (.aload_n 0, 1) := by decide +kernel
theorem dX7_mixWouldBe_103 : decode cX7_mixWouldBe 103 = .ok (.invokevirtual 93, 3) := by decide +kernel
theorem dX7_mixWouldBe_106 : decode cX7_mixWouldBe 106 = .ok (.aload_n 0, 1) := by decide +kernel
theorem dX7_mixWouldBe_107 : decode cX7_mixWouldBe 107 = .ok (.aload_n 0, 1) := by decide +kernel
theorem dX7_mixWouldBe_108 : decode cX7_mixWouldBe 108 = .ok (.invokevirtual 236, 3) := by decide +kernel
theorem dX7_mixWouldBe_111 : decode cX7_mixWouldBe 111 = .ok (.invokestatic 250, 3) := by decide +kernel
theorem dX7_mixWouldBe_114 : decode cX7_mixWouldBe 114 = .ok (.invokevirtual 246, 3) := by decide +kernel
theorem dX7_mixWouldBe_117 : decode cX7_mixWouldBe 117 = .ok (.return_, 1) := by decide +kernel
set_option maxRecDepth 20000 in
theorem ggX7_digest_X7_lay : GoodIn wsX7_digest wsX7_lay := goodIn_r _ [12, 5, 13, 14, 15, 16, 17, 18, 19, 20, 11, 21, 22, 23, 24, 25, 26, 27, 4, 28, 29, 30, 31, 32, 33, 34, 35, 36, 37, 38, 39, 40, 41, 42, 43, 44, 45, 46, 47, 48, 186, 187, 188, 189, 190, 191, 192, 193, 194, 195, 196, 197, 198, 199, 200, 201, 202, 203, 204] (by decide +kernel) (by decide +kernel)
set_option maxRecDepth 20000 in
theorem gX7_digest_X7_lay : GoodIn wsX7_digest (wsV RX7 93 RX7 yX7_lay wsX7_lay) := goodIn_app (goodIn_of _ (by decide +kernel)) ggX7_digest_X7_lay
set_option maxRecDepth 20000 in
theorem ggX7_digest_X7_counted : GoodIn wsX7_digest wsX7_counted := goodIn_r _ [52, 5, 53, 54, 55, 56, 11, 57, 4, 58, 59, 60, 61, 62, 63, 64, 24, 25, 26, 27, 65, 66, 67, 68, 69, 70, 71, 72, 73, 74, 75, 76, 14, 15, 16, 77, 78, 79, 80, 81, 82, 83, 84, 13, 22, 85, 86, 87, 88, 23, 89, 90, 91, 92, 93, 94, 95, 96, 35, 36, 37, 97, 98, 99, 100, 101, 102, 103, 104, 186, 187, 188, 189, 190, 191, 192, 193, 194, 195, 196, 197, 198, 199, 200, 201, 202, 203, 204] (by decide +kernel) (by decide +kernel)
set_option maxRecDepth 20000 in
theorem gX7_digest_X7_counted : GoodIn wsX7_digest (wsV RX7 215 RX7 yX7_counted wsX7_counted) := goodIn_app (goodIn_of _ (by decide +kernel)) ggX7_digest_X7_counted
set_option maxRecDepth 20000 in
theorem ggX7_digest_X7_mix : GoodIn wsX7_digest wsX7_mix := goodIn_r _ [108, 109, 3, 186, 187, 188, 189, 190, 191, 192, 193, 194, 195, 196, 197, 198, 199, 200, 201, 202, 203, 204] (by decide +kernel) (by decide +kernel)
set_option maxRecDepth 20000 in
theorem gX7_digest_X7_mix : GoodIn wsX7_digest (wsV RX7 246 RX7 yX7_mix wsX7_mix) := goodIn_app (goodIn_of _ (by decide +kernel)) ggX7_digest_X7_mix
set_option maxRecDepth 20000 in
theorem ggX7_digest_X7_stepNow : GoodIn wsX7_digest wsX7_stepNow := goodIn_r _ [113, 4, 23, 93, 114, 115, 116, 11, 117, 5, 15, 14, 118, 119, 120, 121, 16, 17, 13, 85, 86, 87, 88, 46, 47, 48, 89, 90, 91, 92, 94, 95, 96, 35, 36, 37, 24, 25, 26, 27, 186, 187, 188, 189, 190, 191, 192, 193, 194, 195, 196, 197, 198, 199, 200, 201, 202, 203, 204] (by decide +kernel) (by decide +kernel)
set_option maxRecDepth 20000 in
theorem gX7_digest_X7_stepNow : GoodIn wsX7_digest (wsV RX7 181 RX7 yX7_stepNow wsX7_stepNow) := goodIn_app (goodIn_of _ (by decide +kernel)) ggX7_digest_X7_stepNow
set_option maxRecDepth 20000 in
theorem ggX7_digest_X7_playedNow : GoodIn wsX7_digest wsX7_playedNow := goodIn_r _ [125, 14, 15, 16, 118, 119, 120, 11, 121, 17, 13, 85, 86, 87, 88, 23, 46, 47, 48, 101, 102, 103, 104, 22, 73, 74, 75, 76, 77, 78, 79, 80, 4, 186, 187, 188, 189, 190, 191, 192, 193, 194, 195, 196, 197, 198, 199, 200, 201, 202, 203, 204] (by decide +kernel) (by decide +kernel)
set_option maxRecDepth 20000 in
theorem gX7_digest_X7_playedNow : GoodIn wsX7_digest (wsV RX7 187 RX7 yX7_playedNow wsX7_playedNow) := goodIn_app (goodIn_of _ (by decide +kernel)) ggX7_digest_X7_playedNow
set_option maxRecDepth 20000 in
theorem ggX7_digest_X7_tuneNotes : GoodIn wsX7_digest wsX7_tuneNotes := goodIn_r _ [68, 4, 58, 59, 11, 60, 186, 187, 188, 189, 190, 191, 192, 193, 194, 195, 196, 197, 198, 199, 200, 201, 202, 203, 204] (by decide +kernel) (by decide +kernel)
set_option maxRecDepth 20000 in
theorem gX7_digest_X7_tuneNotes : GoodIn wsX7_digest (wsV RX7 197 RX7 yX7_tuneNotes wsX7_tuneNotes) := goodIn_app (goodIn_of _ (by decide +kernel)) ggX7_digest_X7_tuneNotes
set_option maxRecDepth 20000 in
theorem ggX7_digest_X7_tuneNow : GoodIn wsX7_digest wsX7_tuneNow := goodIn_r _ [129, 130, 131, 132, 11, 133, 4, 77, 78, 79, 80, 134, 135, 136, 137, 13, 17, 46, 47, 48, 186, 187, 188, 189, 190, 191, 192, 193, 194, 195, 196, 197, 198, 199, 200, 201, 202, 203, 204] (by decide +kernel) (by decide +kernel)
set_option maxRecDepth 20000 in
theorem gX7_digest_X7_tuneNow : GoodIn wsX7_digest (wsV RX7 200 RX7 yX7_tuneNow wsX7_tuneNow) := goodIn_app (goodIn_of _ (by decide +kernel)) ggX7_digest_X7_tuneNow
set_option maxRecDepth 20000 in
theorem ggX7_digest_X7_mixWouldBe : GoodIn wsX7_digest wsX7_mixWouldBe := goodIn_r _ [141, 142, 143, 144, 11, 145, 4, 146, 147, 148, 149, 150, 151, 152, 153, 154, 8, 9, 10, 12, 5, 13, 14, 15, 16, 17, 18, 19, 20, 21, 22, 23, 24, 25, 26, 27, 28, 29, 30, 31, 32, 33, 34, 35, 36, 37, 38, 39, 40, 41, 42, 43, 44, 45, 46, 47, 48, 69, 70, 71, 72, 73, 74, 75, 76, 77, 78, 79, 80, 155, 156, 157, 158, 105, 106, 107, 108, 109, 3, 159, 160, 161, 162, 163, 164, 165, 166, 167, 168, 169, 170, 171, 172, 173, 65, 66, 67, 68, 58, 59, 60, 174, 175, 176, 177, 178, 179, 180, 181, 182, 183, 184, 185, 186, 187, 188, 189, 190, 191, 192, 193, 194, 195, 196, 197, 198, 199, 200, 201, 202, 203, 204] (by decide +kernel) (by decide +kernel)
set_option maxRecDepth 20000 in
theorem gX7_digest_X7_mixWouldBe : GoodIn wsX7_digest (wsV RX7 258 RX7 yX7_mixWouldBe wsX7_mixWouldBe) := goodIn_app (goodIn_of _ (by decide +kernel)) ggX7_digest_X7_mixWouldBe
theorem dX7_digest_0 : decode cX7_digest 0 = .ok (.aload_n 0, 1) := by decide +kernel
theorem dX7_digest_1 : decode cX7_digest 1 = .ok (.iconst 0, 1) := by decide +kernel
theorem dX7_digest_2 : decode cX7_digest 2 = .ok (.putfield 46, 3) := by decide +kernel
theorem dX7_digest_5 : decode cX7_digest 5 = .ok (.aload_n 0, 1) := by decide +kernel
theorem dX7_digest_6 : decode cX7_digest 6 = .ok (.invokevirtual 93, 3) := by decide +kernel
theorem dX7_digest_9 : decode cX7_digest 9 = .ok (.aload_n 0, 1) := by decide +kernel
theorem dX7_digest_10 : decode cX7_digest 10 = .ok (.ldc2_w 256, 3) := by decide +kernel
theorem dX7_digest_13 : decode cX7_digest 13 = .ok (.putfield 242, 3) := by decide +kernel
theorem dX7_digest_16 : decode cX7_digest 16 = .ok (.iconst 0, 1) := by decide +kernel
theorem dX7_digest_17 : decode cX7_digest 17 = .ok (.istore_n 1, 1) := by decide +kernel
theorem dX7_digest_18 : decode cX7_digest 18 = .ok (.iload_n 1, 1) := by decide +kernel
theorem dX7_digest_19 : decode cX7_digest 19 = .ok (.bipush 15, 2) := by decide +kernel
theorem dX7_digest_21 : decode cX7_digest 21 = .ok (.if_icmp .ge 19, 3) := by decide +kernel
theorem dX7_digest_24 : decode cX7_digest 24 = .ok (.aload_n 0, 1) := by decide +kernel
theorem dX7_digest_25 : decode cX7_digest 25 = .ok (.aload_n 0, 1) := by decide +kernel
theorem dX7_digest_26 : decode cX7_digest 26 = .ok (.iload_n 1, 1) := by decide +kernel
theorem dX7_digest_27 : decode cX7_digest 27 = .ok (.invokevirtual 215, 3) := by decide +kernel
theorem dX7_digest_30 : decode cX7_digest 30 = .ok (.i2l, 1) := by decide +kernel
theorem dX7_digest_31 : decode cX7_digest 31 = .ok (.invokevirtual 246, 3) := by decide +kernel
theorem dX7_digest_34 : decode cX7_digest 34 = .ok (.iinc 1 1, 3) := by decide +kernel
theorem dX7_digest_37 : decode cX7_digest 37 = .ok (.goto (-19), 3) := by decide +kernel
theorem dX7_digest_40 : decode cX7_digest 40 = .ok (.aload_n 0, 1) := by decide +kernel
theorem dX7_digest_41 : decode cX7_digest 41 = .ok (.aload_n 0, 1) := by decide +kernel
theorem dX7_digest_42 : decode cX7_digest 42 = .ok (.getfield 7, 3) := by decide +kernel
theorem dX7_digest_45 : decode cX7_digest 45 = .ok (.sipush 384, 3) := by decide +kernel
theorem dX7_digest_48 : decode cX7_digest 48 = .ok (.iaload, 1) := by decide +kernel
theorem dX7_digest_49 : decode cX7_digest 49 = .ok (.i2l, 1) := by decide +kernel
theorem dX7_digest_50 : decode cX7_digest 50 = .ok (.invokevirtual 246, 3) := by decide +kernel
theorem dX7_digest_53 : decode cX7_digest 53 = .ok (.aload_n 0, 1) := by decide +kernel
theorem dX7_digest_54 : decode cX7_digest 54 = .ok (.aload_n 0, 1) := by decide +kernel
theorem dX7_digest_55 : decode cX7_digest 55 = .ok (.getfield 7, 3) := by decide +kernel
theorem dX7_digest_58 : decode cX7_digest 58 = .ok (.sipush 385, 3) := by decide +kernel
theorem dX7_digest_61 : decode cX7_digest 61 = .ok (.iaload, 1) := by decide +kernel
theorem dX7_digest_62 : decode cX7_digest 62 = .ok (.i2l, 1) := by decide +kernel
theorem dX7_digest_63 : decode cX7_digest 63 = .ok (.invokevirtual 246, 3) := by decide +kernel
theorem dX7_digest_66 : decode cX7_digest 66 = .ok (.iconst 0, 1) := by decide +kernel
theorem dX7_digest_67 : decode cX7_digest 67 = .ok (.istore_n 1, 1) := by decide +kernel
theorem dX7_digest_68 : decode cX7_digest 68 = .ok (.iload_n 1, 1) := by decide +kernel
theorem dX7_digest_69 : decode cX7_digest 69 = .ok (.sipush 672, 3) := by decide +kernel
theorem dX7_digest_72 : decode cX7_digest 72 = .ok (.if_icmp .ge 26, 3) := by decide +kernel
theorem dX7_digest_75 : decode cX7_digest 75 = .ok (.aload_n 0, 1) := by decide +kernel
theorem dX7_digest_76 : decode cX7_digest 76 = .ok (.aload_n 0, 1) := by decide +kernel
theorem dX7_digest_77 : decode cX7_digest 77 = .ok (.iload_n 1, 1) := by decide +kernel
theorem dX7_digest_78 : decode cX7_digest 78 = .ok (.bipush 7, 2) := by decide +kernel
theorem dX7_digest_80 : decode cX7_digest 80 = .ok (.idiv, 1) := by decide +kernel
theorem dX7_digest_81 : decode cX7_digest 81 = .ok (.iload_n 1, 1) := by decide +kernel
theorem dX7_digest_82 : decode cX7_digest 82 = .ok (.bipush 7, 2) := by decide +kernel
theorem dX7_digest_84 : decode cX7_digest 84 = .ok (.irem, 1) := by decide +kernel
theorem dX7_digest_85 : decode cX7_digest 85 = .ok (.invokevirtual 181, 3) := by decide +kernel
theorem dX7_digest_88 : decode cX7_digest 88 = .ok (.i2l, 1) := by decide +kernel
theorem dX7_digest_89 : decode cX7_digest 89 = .ok (.invokevirtual 246, 3) := by decide +kernel
theorem dX7_digest_92 : decode cX7_digest 92 = .ok (.iinc 1 1, 3) := by decide +kernel
theorem dX7_digest_95 : decode cX7_digest 95 = .ok (.goto (-27), 3) := by decide +kernel
theorem dX7_digest_98 : decode cX7_digest 98 = .ok (.iconst 0, 1) := by decide +kernel
theorem dX7_digest_99 : decode cX7_digest 99 = .ok (.istore_n 1, 1) := by decide +kernel
theorem dX7_digest_100 : decode cX7_digest 100 = .ok (.iload_n 1, 1) := by decide +kernel
theorem dX7_digest_101 : decode cX7_digest 101 = .ok (.bipush 6, 2) := by decide +kernel
theorem dX7_digest_103 : decode cX7_digest 103 = .ok (.aload_n 0, 1) := by decide +kernel
theorem dX7_digest_104 : decode cX7_digest 104 = .ok (.getfield 79, 3) := by decide +kernel
theorem dX7_digest_107 : decode cX7_digest 107 = .ok (.imul, 1) := by decide +kernel
theorem dX7_digest_108 : decode cX7_digest 108 = .ok (.if_icmp .ge 26, 3) := by decide +kernel
theorem dX7_digest_111 : decode cX7_digest 111 = .ok (.aload_n 0, 1) := by decide +kernel
theorem dX7_digest_112 : decode cX7_digest 112 = .ok (.aload_n 0, 1) := by decide +kernel
theorem dX7_digest_113 : decode cX7_digest 113 = .ok (.iload_n 1, 1) := by decide +kernel
theorem dX7_digest_114 : decode cX7_digest 114 = .ok (.bipush 6, 2) := by decide +kernel
theorem dX7_digest_116 : decode cX7_digest 116 = .ok (.idiv, 1) := by decide +kernel
theorem dX7_digest_117 : decode cX7_digest 117 = .ok (.iload_n 1, 1) := by decide +kernel
theorem dX7_digest_118 : decode cX7_digest 118 = .ok (.bipush 6, 2) := by decide +kernel
theorem dX7_digest_120 : decode cX7_digest 120 = .ok (.irem, 1) := by decide +kernel
theorem dX7_digest_121 : decode cX7_digest 121 = .ok (.invokevirtual 187, 3) := by decide +kernel
theorem dX7_digest_124 : decode cX7_digest 124 = .ok (.i2l, 1) := by decide +kernel
theorem dX7_digest_125 : decode cX7_digest 125 = .ok (.invokevirtual 246, 3) := by decide +kernel
theorem dX7_digest_128 : decode cX7_digest 128 = .ok (.iinc 1 1, 3) := by decide +kernel
theorem dX7_digest_131 : decode cX7_digest 131 = .ok (.goto (-31), 3) := by decide +kernel
theorem dX7_digest_134 : decode cX7_digest 134 = .ok (.aload_n 0, 1) := by decide +kernel
theorem dX7_digest_135 : decode cX7_digest 135 = .ok (.invokevirtual 197, 3) := by decide +kernel
theorem dX7_digest_138 : decode cX7_digest 138 = .ok (.istore_n 1, 1) := by decide +kernel
theorem dX7_digest_139 : decode cX7_digest 139 = .ok (.iconst 0, 1) := by decide +kernel
theorem dX7_digest_140 : decode cX7_digest 140 = .ok (.istore_n 2, 1) := by decide +kernel
theorem dX7_digest_141 : decode cX7_digest 141 = .ok (.iload_n 2, 1) := by decide +kernel
theorem dX7_digest_142 : decode cX7_digest 142 = .ok (.iconst 4, 1) := by decide +kernel
theorem dX7_digest_143 : decode cX7_digest 143 = .ok (.iload_n 1, 1) := by decide +kernel
theorem dX7_digest_144 : decode cX7_digest 144 = .ok (.imul, 1) := by decide +kernel
theorem dX7_digest_145 : decode cX7_digest 145 = .ok (.if_icmp .ge 24, 3) := by decide +kernel
theorem dX7_digest_148 : decode cX7_digest 148 = .ok (.aload_n 0, 1) := by decide +kernel
theorem dX7_digest_149 : decode cX7_digest 149 = .ok (.aload_n 0, 1) := by decide +kernel
theorem dX7_digest_150 : decode cX7_digest 150 = .ok (.iload_n 2, 1) := by decide +kernel
theorem dX7_digest_151 : decode cX7_digest 151 = .ok (.iconst 4, 1) := by decide +kernel
theorem dX7_digest_152 : decode cX7_digest 152 = .ok (.idiv, 1) := by decide +kernel
theorem dX7_digest_153 : decode cX7_digest 153 = .ok (.iload_n 2, 1) := by decide +kernel
theorem dX7_digest_154 : decode cX7_digest 154 = .ok (.iconst 4, 1) := by decide +kernel
theorem dX7_digest_155 : decode cX7_digest 155 = .ok (.irem, 1) := by decide +kernel
theorem dX7_digest_156 : decode cX7_digest 156 = .ok (.invokevirtual 200, 3) := by decide +kernel
theorem dX7_digest_159 : decode cX7_digest 159 = .ok (.i2l, 1) := by decide +kernel
theorem dX7_digest_160 : decode cX7_digest 160 = .ok (.invokevirtual 246, 3) := by decide +kernel
theorem dX7_digest_163 : decode cX7_digest 163 = .ok (.iinc 2 1, 3) := by decide +kernel
theorem dX7_digest_166 : decode cX7_digest 166 = .ok (.goto (-25), 3) := by decide +kernel
theorem dX7_digest_169 : decode cX7_digest 169 = .ok (.aload_n 0, 1) := by decide +kernel
theorem dX7_digest_170 : decode cX7_digest 170 = .ok (.invokevirtual 258, 3) := by decide +kernel
theorem dX7_digest_173 : decode cX7_digest 173 = .ok (.aload_n 0, 1) := by decide +kernel
theorem dX7_digest_174 : decode cX7_digest 174 = .ok (.aload_n 0, 1) := by decide +kernel
theorem dX7_digest_175 : decode cX7_digest 175 = .ok (.getfield 139, 3) := by decide +kernel
theorem dX7_digest_178 : decode cX7_digest 178 = .ok (.i2l, 1) := by decide +kernel
theorem dX7_digest_179 : decode cX7_digest 179 = .ok (.invokevirtual 246, 3) := by decide +kernel
theorem dX7_digest_182 : decode cX7_digest 182 = .ok (.iconst 0, 1) := by decide +kernel
theorem dX7_digest_183 : decode cX7_digest 183 = .ok (.istore_n 2, 1) := by decide +kernel
theorem dX7_digest_184 : decode cX7_digest 184 = .ok (.iload_n 2, 1) := by decide +kernel
theorem dX7_digest_185 : decode cX7_digest 185 = .ok (.aload_n 0, 1) := by decide +kernel
theorem dX7_digest_186 : decode cX7_digest 186 = .ok (.getfield 139, 3) := by decide +kernel
theorem dX7_digest_189 : decode cX7_digest 189 = .ok (.if_icmp .ge 20, 3) := by decide +kernel
theorem dX7_digest_192 : decode cX7_digest 192 = .ok (.aload_n 0, 1) := by decide +kernel
theorem dX7_digest_193 : decode cX7_digest 193 = .ok (.aload_n 0, 1) := by decide +kernel
theorem dX7_digest_194 : decode cX7_digest 194 = .ok (.getfield 16, 3) := by decide +kernel
theorem dX7_digest_197 : decode cX7_digest 197 = .ok (.iload_n 2, 1) := by decide +kernel
theorem dX7_digest_198 : decode cX7_digest 198 = .ok (.iaload, 1) := by decide +kernel
theorem dX7_digest_199 : decode cX7_digest 199 = .ok (.i2l, 1) := by decide +kernel
theorem dX7_digest_200 : decode cX7_digest 200 = .ok (.invokevirtual 246, 3) := by decide +kernel
theorem dX7_digest_203 : decode cX7_digest 203 = .ok (.iinc 2 1, 3) := by decide +kernel
theorem dX7_digest_206 : decode cX7_digest 206 = .ok (.goto (-22), 3) := by decide +kernel
theorem dX7_digest_209 : decode cX7_digest 209 = .ok (.aload_n 0, 1) := by decide +kernel
theorem dX7_digest_210 : decode cX7_digest 210 = .ok (.getfield 242, 3) := by decide +kernel
theorem dX7_digest_213 : decode cX7_digest 213 = .ok (.lreturn, 1) := by decide +kernel
theorem dJxe99ae_isNaN_b9ae7_0 : decode cJxe99ae_isNaN_b9ae7 0 = .ok (.dload_n 0, 1) := by decide +kernel
theorem dJxe99ae_isNaN_b9ae7_1 : decode cJxe99ae_isNaN_b9ae7 1 = .ok (.dload_n 0, 1) := by decide +kernel
theorem dJxe99ae_isNaN_b9ae7_2 : decode cJxe99ae_isNaN_b9ae7 2 = .ok (.dcmp .l, 1) := by decide +kernel
theorem dJxe99ae_isNaN_b9ae7_3 : decode cJxe99ae_isNaN_b9ae7 3 = .ok (.ifCond .eq 7, 3) := by decide +kernel
theorem dJxe99ae_isNaN_b9ae7_6 : decode cJxe99ae_isNaN_b9ae7 6 = .ok (.iconst 1, 1) := by decide +kernel
theorem dJxe99ae_isNaN_b9ae7_7 : decode cJxe99ae_isNaN_b9ae7 7 = .ok (.goto 4, 3) := by decide +kernel
theorem dJxe99ae_isNaN_b9ae7_10 : decode cJxe99ae_isNaN_b9ae7 10 = .ok (.iconst 0, 1) := by decide +kernel
theorem dJxe99ae_isNaN_b9ae7_11 : decode cJxe99ae_isNaN_b9ae7 11 = .ok (.ireturn, 1) := by decide +kernel
set_option maxRecDepth 20000 in
theorem ggJxe99ae_doubleToLongBits_ccdee_Jxe99ae_isNaN_b9ae7 : GoodIn wsJxe99ae_doubleToLongBits_ccdee wsJxe99ae_isNaN_b9ae7 := goodIn_r _ [9] (by decide +kernel) (by decide +kernel)
set_option maxRecDepth 20000 in
theorem gJxe99ae_doubleToLongBits_ccdee_Jxe99ae_isNaN_b9ae7 : GoodIn wsJxe99ae_doubleToLongBits_ccdee (va_wsS RJxe99ae 122 yJxe99ae_isNaN_b9ae7 wsJxe99ae_isNaN_b9ae7) := goodIn_app (goodIn_of _ (by decide +kernel)) ggJxe99ae_doubleToLongBits_ccdee_Jxe99ae_isNaN_b9ae7
theorem dJxe99ae_doubleToLongBits_ccdee_0 : decode cJxe99ae_doubleToLongBits_ccdee 0 = .ok (.dload_n 0, 1) := by decide +kernel
theorem dJxe99ae_doubleToLongBits_ccdee_1 : decode cJxe99ae_doubleToLongBits_ccdee 1 = .ok (.invokestatic 122, 3) := by decide +kernel
theorem dJxe99ae_doubleToLongBits_ccdee_4 : decode cJxe99ae_doubleToLongBits_ccdee 4 = .ok (.ifCond .ne 8, 3) := by decide +kernel
theorem dJxe99ae_doubleToLongBits_ccdee_7 : decode cJxe99ae_doubleToLongBits_ccdee 7 = .ok (.dload_n 0, 1) := by decide +kernel
theorem dJxe99ae_doubleToLongBits_ccdee_8 : decode cJxe99ae_doubleToLongBits_ccdee 8 = .ok (.invokestatic 134, 3) := by decide +kernel
theorem dJxe99ae_doubleToLongBits_ccdee_11 : decode cJxe99ae_doubleToLongBits_ccdee 11 = .ok (.lreturn, 1) := by decide +kernel
theorem dJxe99ae_doubleToLongBits_ccdee_12 : decode cJxe99ae_doubleToLongBits_ccdee 12 = .ok (.ldc2_w 137, 3) := by decide +kernel
theorem dJxe99ae_doubleToLongBits_ccdee_15 : decode cJxe99ae_doubleToLongBits_ccdee 15 = .ok (.lreturn, 1) := by decide +kernel

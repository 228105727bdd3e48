set_option maxRecDepth 20000 in
theorem ggX6_init_X3_init : GoodIn wsX6_init wsX3_init := goodIn_r _ [25, 26, 2, 3, 27, 28, 29, 30, 31, 32, 33, 34, 35, 36, 37, 38, 39, 40, 41, 42, 79, 80, 81, 82, 83, 84, 85, 111, 112] (by decide +kernel) (by decide +kernel)
set_option maxRecDepth 20000 in
theorem gX6_init_X3_init_n11 : GoodIn wsX6_init (wsX3_init) := ggX6_init_X3_init
set_option maxRecDepth 20000 in
theorem ggX6_init_X1_init : GoodIn wsX6_init wsX1_init := goodIn_r _ [44, 45, 2, 3, 27, 46, 47, 33, 34, 48, 49, 50, 38, 39, 40, 41, 42, 91, 92, 93, 94, 111, 112] (by decide +kernel) (by decide +kernel)
set_option maxRecDepth 20000 in
theorem gX6_init_X1_init_n18 : GoodIn wsX6_init (wsX1_init) := ggX6_init_X1_init
set_option maxRecDepth 20000 in
theorem ggX6_init_X4_init : GoodIn wsX6_init wsX4_init := goodIn_r _ [53, 54, 2, 3, 55, 56, 57, 5, 6, 24, 25, 26, 27, 28, 29, 30, 31, 32, 33, 34, 35, 36, 37, 38, 39, 40, 41, 42, 95, 96, 79, 80, 81, 82, 83, 84, 85, 111, 112] (by decide +kernel) (by decide +kernel)
set_option maxRecDepth 20000 in
theorem gX6_init_X4_init : GoodIn wsX6_init (wsX4_init) := ggX6_init_X4_init
set_option maxRecDepth 20000 in
theorem ggX6_init_X2_init : GoodIn wsX6_init wsX2_init := goodIn_r _ [59, 60, 2, 3, 27, 61, 62, 63, 64, 65, 66, 67, 68, 69, 70, 97, 98, 99, 100, 101, 102, 103, 104, 105, 106] (by decide +kernel) (by decide +kernel)
set_option maxRecDepth 20000 in
theorem gX6_init_X2_init_n32 : GoodIn wsX6_init (wsX2_init) := ggX6_init_X2_init
set_option maxRecDepth 20000 in
theorem ggX6_init_X5_init : GoodIn wsX6_init wsX5_init := goodIn_r _ [72, 73, 2, 3, 27, 74, 75, 33, 34, 76, 77, 78, 38, 39, 40, 41, 42, 107, 108, 109, 110, 111, 112] (by decide +kernel) (by decide +kernel)
set_option maxRecDepth 20000 in
theorem gX6_init_X5_init_n39 : GoodIn wsX6_init (wsX5_init) := ggX6_init_X5_init
theorem dX6_init_0 : decode cX6_init 0 = .ok (.aload_n 0, 1) := by decide +kernel
theorem dX6_init_1 : decode cX6_init 1 = .ok (.invokespecial 3, 3) := by decide +kernel
theorem dX6_init_4 : decode cX6_init 4 = .ok (.aload_n 0, 1) := by decide +kernel
theorem dX6_init_5 : decode cX6_init 5 = .ok (.new 9, 3) := by decide +kernel
theorem dX6_init_8 : decode cX6_init 8 = .ok (.dup, 1) := by decide +kernel
theorem dX6_init_9 : decode cX6_init 9 = .ok (.invokespecial 11, 3) := by decide +kernel
theorem dX6_init_12 : decode cX6_init 12 = .ok (.putfield 12, 3) := by decide +kernel
theorem dX6_init_15 : decode cX6_init 15 = .ok (.aload_n 0, 1) := by decide +kernel
theorem dX6_init_16 : decode cX6_init 16 = .ok (.new 16, 3) := by decide +kernel
theorem dX6_init_19 : decode cX6_init 19 = .ok (.dup, 1) := by decide +kernel
theorem dX6_init_20 : decode cX6_init 20 = .ok (.invokespecial 18, 3) := by decide +kernel
theorem dX6_init_23 : decode cX6_init 23 = .ok (.putfield 19, 3) := by decide +kernel
theorem dX6_init_26 : decode cX6_init 26 = .ok (.aload_n 0, 1) := by decide +kernel
theorem dX6_init_27 : decode cX6_init 27 = .ok (.new 23, 3) := by decide +kernel
theorem dX6_init_30 : decode cX6_init 30 = .ok (.dup, 1) := by decide +kernel
theorem dX6_init_31 : decode cX6_init 31 = .ok (.invokespecial 25, 3) := by decide +kernel
theorem dX6_init_34 : decode cX6_init 34 = .ok (.putfield 26, 3) := by decide +kernel
theorem dX6_init_37 : decode cX6_init 37 = .ok (.aload_n 0, 1) := by decide +kernel
theorem dX6_init_38 : decode cX6_init 38 = .ok (.new 30, 3) := by decide +kernel
theorem dX6_init_41 : decode cX6_init 41 = .ok (.dup, 1) := by decide +kernel
theorem dX6_init_42 : decode cX6_init 42 = .ok (.invokespecial 32, 3) := by decide +kernel
theorem dX6_init_45 : decode cX6_init 45 = .ok (.putfield 33, 3) := by decide +kernel
theorem dX6_init_48 : decode cX6_init 48 = .ok (.aload_n 0, 1) := by decide +kernel
theorem dX6_init_49 : decode cX6_init 49 = .ok (.new 37, 3) := by decide +kernel
theorem dX6_init_52 : decode cX6_init 52 = .ok (.dup, 1) := by decide +kernel
theorem dX6_init_53 : decode cX6_init 53 = .ok (.invokespecial 39, 3) := by decide +kernel
theorem dX6_init_56 : decode cX6_init 56 = .ok (.putfield 40, 3) := by decide +kernel
theorem dX6_init_59 : decode cX6_init 59 = .ok (.return_, 1) := by decide +kernel
set_option maxRecDepth 20000 in
theorem ggX6_punch_X6_isStep : GoodIn wsX6_punch wsX6_isStep := goodIn_r _ [11] (by decide +kernel) (by decide +kernel)
set_option maxRecDepth 20000 in
theorem gX6_punch_X6_isStep : GoodIn wsX6_punch (va_wsS RX6 44 yX6_isStep wsX6_isStep) := goodIn_app (goodIn_of _ (by decide +kernel)) ggX6_punch_X6_isStep
set_option maxRecDepth 20000 in
theorem ggX6_punch_X6_needLength : GoodIn wsX6_punch wsX6_needLength := goodIn_ca (goodIn_r _ [14, 15, 16] (by decide +kernel) (by decide +kernel)) (goodIn_sub (fun _ h => List.mem_cons_of_mem _ (List.mem_append_right _ h)) (by decide +kernel))
set_option maxRecDepth 20000 in
theorem gX6_punch_X6_needLength : GoodIn wsX6_punch (va_wsS RX6 55 yX6_needLength wsX6_needLength) := goodIn_app (goodIn_of _ (by decide +kernel)) ggX6_punch_X6_needLength
set_option maxRecDepth 20000 in
theorem ggX6_punch_X6_fits : GoodIn wsX6_punch wsX6_fits := goodIn_r _ [19] (by decide +kernel) (by decide +kernel)
set_option maxRecDepth 20000 in
theorem gX6_punch_X6_fits : GoodIn wsX6_punch (va_wsS RX6 59 yX6_fits wsX6_fits) := goodIn_app (goodIn_of _ (by decide +kernel)) ggX6_punch_X6_fits
set_option maxRecDepth 20000 in
theorem ggX6_punch_X4_keep : GoodIn wsX6_punch wsX4_keep := goodIn_r _ [24, 25, 26, 27, 28, 29, 23, 30, 31, 32, 33, 34, 35, 36, 37, 38, 39, 40, 41, 42, 43, 44, 45, 46, 47, 48, 49, 50, 51, 52, 53, 54, 108, 109, 110, 111, 112, 113, 114, 115, 116, 117, 118] (by decide +kernel) (by decide +kernel)
set_option maxRecDepth 20000 in
theorem gX6_punch_X4_keep : GoodIn wsX6_punch (wsV RX6 68 RX4 yX4_keep wsX4_keep) := goodIn_app (goodIn_of _ (by decide +kernel)) ggX6_punch_X4_keep
set_option maxRecDepth 20000 in
theorem ggX6_punch_X3_cutChain : GoodIn wsX6_punch wsX3_cutChain := goodIn_r _ [58, 45, 59, 60, 61, 34, 62, 36, 41, 9, 10, 11, 110, 111, 112, 113, 114, 115, 116] (by decide +kernel) (by decide +kernel)
set_option maxRecDepth 20000 in
theorem gX6_punch_X3_cutChain : GoodIn wsX6_punch (wsV RX6 72 RX3 yX3_cutChain wsX3_cutChain) := goodIn_app (goodIn_of _ (by decide +kernel)) ggX6_punch_X3_cutChain
set_option maxRecDepth 20000 in
theorem ggX6_punch_X1_listenTo : GoodIn wsX6_punch wsX1_listenTo := goodIn_r _ [67, 68, 69, 70, 71, 72, 73, 74, 34, 75, 42, 9, 10, 11, 76, 77, 78, 79, 36, 41, 80, 81, 82, 83, 84, 85, 86, 87, 88, 89, 50, 90, 52, 54, 91, 92, 93, 66, 94, 95, 96, 97, 98, 99, 100, 101, 102, 119, 120, 121, 122, 110, 111, 112, 113, 114, 115, 116, 117, 118] (by decide +kernel) (by decide +kernel)
set_option maxRecDepth 20000 in
theorem gX6_punch_X1_listenTo : GoodIn wsX6_punch (wsV RX6 76 RX1 yX1_listenTo wsX1_listenTo) := goodIn_app (goodIn_of _ (by decide +kernel)) ggX6_punch_X1_listenTo
theorem dX6_punch_0 : decode cX6_punch 0 = .ok (.iload_n 1, 1) := by decide +kernel
theorem dX6_punch_1 : decode cX6_punch 1 = .ok (.iconst (-1), 1) := by decide +kernel
theorem dX6_punch_2 : decode cX6_punch 2 = .ok (.if_icmp .lt 16, 3) := by decide +kernel
theorem dX6_punch_5 : decode cX6_punch 5 = .ok (.iload_n 1, 1) := by decide +kernel
theorem dX6_punch_6 : decode cX6_punch 6 = .ok (.bipush 20, 2) := by decide +kernel
theorem dX6_punch_8 : decode cX6_punch 8 = .ok (.if_icmp .ge 10, 3) := by decide +kernel
theorem dX6_punch_11 : decode cX6_punch 11 = .ok (.iload_n 2, 1) := by decide +kernel
theorem dX6_punch_12 : decode cX6_punch 12 = .ok (.invokestatic 44, 3) := by decide +kernel
theorem dX6_punch_15 : decode cX6_punch 15 = .ok (.ifCond .ne 13, 3) := by decide +kernel
theorem dX6_punch_18 : decode cX6_punch 18 = .ok (.new 48, 3) := by decide +kernel
theorem dX6_punch_21 : decode cX6_punch 21 = .ok (.dup, 1) := by decide +kernel
theorem dX6_punch_22 : decode cX6_punch 22 = .ok (.ldc 50, 2) := by decide +kernel
theorem dX6_punch_24 : decode cX6_punch 24 = .ok (.invokespecial 52, 3) := by decide +kernel
theorem dX6_punch_27 : decode cX6_punch 27 = .ok (.athrow, 1) := by decide +kernel
theorem dX6_punch_28 : decode cX6_punch 28 = .ok (.iload_n 3, 1) := by decide +kernel
theorem dX6_punch_29 : decode cX6_punch 29 = .ok (.invokestatic 55, 3) := by decide +kernel
theorem dX6_punch_32 : decode cX6_punch 32 = .ok (.iload_n 2, 1) := by decide +kernel
theorem dX6_punch_33 : decode cX6_punch 33 = .ok (.iload_n 3, 1) := by decide +kernel
theorem dX6_punch_34 : decode cX6_punch 34 = .ok (.invokestatic 59, 3) := by decide +kernel
theorem dX6_punch_37 : decode cX6_punch 37 = .ok (.ifCond .ne 13, 3) := by decide +kernel
theorem dX6_punch_40 : decode cX6_punch 40 = .ok (.new 63, 3) := by decide +kernel
theorem dX6_punch_43 : decode cX6_punch 43 = .ok (.dup, 1) := by decide +kernel
theorem dX6_punch_44 : decode cX6_punch 44 = .ok (.ldc 65, 2) := by decide +kernel
theorem dX6_punch_46 : decode cX6_punch 46 = .ok (.invokespecial 67, 3) := by decide +kernel
theorem dX6_punch_49 : decode cX6_punch 49 = .ok (.athrow, 1) := by decide +kernel
theorem dX6_punch_50 : decode cX6_punch 50 = .ok (.aload_n 0, 1) := by decide +kernel
theorem dX6_punch_51 : decode cX6_punch 51 = .ok (.getfield 26, 3) := by decide +kernel
theorem dX6_punch_54 : decode cX6_punch 54 = .ok (.aload_n 0, 1) := by decide +kernel
theorem dX6_punch_55 : decode cX6_punch 55 = .ok (.getfield 12, 3) := by decide +kernel
theorem dX6_punch_58 : decode cX6_punch 58 = .ok (.invokevirtual 68, 3) := by decide +kernel
theorem dX6_punch_61 : decode cX6_punch 61 = .ok (.aload_n 0, 1) := by decide +kernel
theorem dX6_punch_62 : decode cX6_punch 62 = .ok (.getfield 12, 3) := by decide +kernel
theorem dX6_punch_65 : decode cX6_punch 65 = .ok (.iload_n 1, 1) := by decide +kernel
theorem dX6_punch_66 : decode cX6_punch 66 = .ok (.iconst 1, 1) := by decide +kernel
theorem dX6_punch_67 : decode cX6_punch 67 = .ok (.iadd, 1) := by decide +kernel
theorem dX6_punch_68 : decode cX6_punch 68 = .ok (.iload_n 2, 1) := by decide +kernel
theorem dX6_punch_69 : decode cX6_punch 69 = .ok (.iload_n 3, 1) := by decide +kernel
theorem dX6_punch_70 : decode cX6_punch 70 = .ok (.invokevirtual 72, 3) := by decide +kernel
theorem dX6_punch_73 : decode cX6_punch 73 = .ok (.istore 4, 2) := by decide +kernel
theorem dX6_punch_75 : decode cX6_punch 75 = .ok (.aload_n 0, 1) := by decide +kernel
theorem dX6_punch_76 : decode cX6_punch 76 = .ok (.getfield 19, 3) := by decide +kernel
theorem dX6_punch_79 : decode cX6_punch 79 = .ok (.aload_n 0, 1) := by decide +kernel
theorem dX6_punch_80 : decode cX6_punch 80 = .ok (.getfield 12, 3) := by decide +kernel
theorem dX6_punch_83 : decode cX6_punch 83 = .ok (.invokevirtual 76, 3) := by decide +kernel
theorem dX6_punch_86 : decode cX6_punch 86 = .ok (.iload 4, 2) := by decide +kernel
theorem dX6_punch_88 : decode cX6_punch 88 = .ok (.ireturn, 1) := by decide +kernel
set_option maxRecDepth 20000 in
theorem ggX6_patch_X6_needTrack : GoodIn wsX6_patch wsX6_needTrack := goodIn_ca (goodIn_r _ [7, 8, 9] (by decide +kernel) (by decide +kernel)) (goodIn_sub (fun _ h => List.mem_cons_of_mem _ (List.mem_append_left _ (List.mem_append_right _ h))) (by decide +kernel))
set_option maxRecDepth 20000 in
theorem gX6_patch_X6_needTrack : GoodIn wsX6_patch (va_wsS RX6 79 yX6_needTrack wsX6_needTrack) := goodIn_app (goodIn_of _ (by decide +kernel)) ggX6_patch_X6_needTrack
set_option maxRecDepth 20000 in
theorem ggX6_patch_X6_needSteps : GoodIn wsX6_patch wsX6_needSteps := goodIn_ca (goodIn_ca (goodIn_r _ [12, 8, 9, 13, 14, 15, 16, 6, 17] (by decide +kernel) (by decide +kernel)) (goodIn_sub (fun _ h => List.mem_cons_of_mem _ (List.mem_append_left _ (List.mem_append_right _ h))) (by decide +kernel))) (goodIn_sub (fun _ h => List.mem_cons_of_mem _ (List.mem_append_right _ h)) (by decide +kernel))
set_option maxRecDepth 20000 in
theorem gX6_patch_X6_needSteps : GoodIn wsX6_patch (va_wsS RX6 82 yX6_needSteps wsX6_needSteps) := goodIn_app (goodIn_of _ (by decide +kernel)) ggX6_patch_X6_needSteps
set_option maxRecDepth 20000 in
theorem ggX6_patch_X4_keep : GoodIn wsX6_patch wsX4_keep := goodIn_r _ [22, 23, 24, 25, 26, 27, 21, 28, 29, 30, 31, 32, 33, 34, 35, 36, 37, 38, 39, 40, 41, 42, 43, 44, 45, 46, 47, 48, 49, 50, 51, 52, 102, 103, 104, 105, 106, 107, 108, 109, 110, 111, 112] (by decide +kernel) (by decide +kernel)
set_option maxRecDepth 20000 in
theorem gX6_patch_X4_keep : GoodIn wsX6_patch (wsV RX6 68 RX4 yX4_keep wsX4_keep) := goodIn_app (goodIn_of _ (by decide +kernel)) ggX6_patch_X4_keep
set_option maxRecDepth 20000 in
theorem ggX6_patch_X3_cover : GoodIn wsX6_patch wsX3_cover := goodIn_r _ [56, 39, 57, 58, 59, 32, 60, 34, 16, 6, 17, 104, 105, 106, 107, 108, 109, 110] (by decide +kernel) (by decide +kernel)
set_option maxRecDepth 20000 in
theorem gX6_patch_X3_cover : GoodIn wsX6_patch (wsV RX6 86 RX3 yX3_cover wsX3_cover) := goodIn_app (goodIn_of _ (by decide +kernel)) ggX6_patch_X3_cover
set_option maxRecDepth 20000 in
theorem ggX6_patch_X1_listenTo : GoodIn wsX6_patch wsX1_listenTo := goodIn_r _ [65, 66, 67, 68, 69, 70, 71, 72, 32, 73, 40, 16, 6, 17, 57, 58, 59, 60, 34, 39, 74, 75, 76, 77, 78, 79, 80, 81, 82, 83, 48, 84, 50, 52, 85, 86, 87, 64, 88, 89, 90, 91, 92, 93, 94, 95, 96, 113, 114, 115, 116, 104, 105, 106, 107, 108, 109, 110, 111, 112] (by decide +kernel) (by decide +kernel)
set_option maxRecDepth 20000 in
theorem gX6_patch_X1_listenTo : GoodIn wsX6_patch (wsV RX6 76 RX1 yX1_listenTo wsX1_listenTo) := goodIn_app (goodIn_of _ (by decide +kernel)) ggX6_patch_X1_listenTo
theorem dX6_patch_0 : decode cX6_patch 0 = .ok (.iload_n 1, 1) := by decide +kernel
theorem dX6_patch_1 : decode cX6_patch 1 = .ok (.invokestatic 79, 3) := by decide +kernel
theorem dX6_patch_4 : decode cX6_patch 4 = .ok (.iload_n 2, 1) := by decide +kernel
theorem dX6_patch_5 : decode cX6_patch 5 = .ok (.iload_n 3, 1) := by decide +kernel
theorem dX6_patch_6 : decode cX6_patch 6 = .ok (.invokestatic 82, 3) := by decide +kernel
theorem dX6_patch_9 : decode cX6_patch 9 = .ok (.aload_n 0, 1) := by decide +kernel
theorem dX6_patch_10 : decode cX6_patch 10 = .ok (.getfield 26, 3) := by decide +kernel
theorem dX6_patch_13 : decode cX6_patch 13 = .ok (.aload_n 0, 1) := by decide +kernel
theorem dX6_patch_14 : decode cX6_patch 14 = .ok (.getfield 12, 3) := by decide +kernel
theorem dX6_patch_17 : decode cX6_patch 17 = .ok (.invokevirtual 68, 3) := by decide +kernel
theorem dX6_patch_20 : decode cX6_patch 20 = .ok (.aload_n 0, 1) := by decide +kernel
theorem dX6_patch_21 : decode cX6_patch 21 = .ok (.getfield 12, 3) := by decide +kernel
theorem dX6_patch_24 : decode cX6_patch 24 = .ok (.iload_n 1, 1) := by decide +kernel
theorem dX6_patch_25 : decode cX6_patch 25 = .ok (.iload_n 2, 1) := by decide +kernel
theorem dX6_patch_26 : decode cX6_patch 26 = .ok (.iload_n 3, 1) := by decide +kernel
theorem dX6_patch_27 : decode cX6_patch 27 = .ok (.invokevirtual 86, 3) := by decide +kernel
theorem dX6_patch_30 : decode cX6_patch 30 = .ok (.istore 4, 2) := by decide +kernel
theorem dX6_patch_32 : decode cX6_patch 32 = .ok (.aload_n 0, 1) := by decide +kernel
theorem dX6_patch_33 : decode cX6_patch 33 = .ok (.getfield 19, 3) := by decide +kernel
theorem dX6_patch_36 : decode cX6_patch 36 = .ok (.aload_n 0, 1) := by decide +kernel
theorem dX6_patch_37 : decode cX6_patch 37 = .ok (.getfield 12, 3) := by decide +kernel
theorem dX6_patch_40 : decode cX6_patch 40 = .ok (.invokevirtual 76, 3) := by decide +kernel
theorem dX6_patch_43 : decode cX6_patch 43 = .ok (.iload 4, 2) := by decide +kernel
theorem dX6_patch_45 : decode cX6_patch 45 = .ok (.ireturn, 1) := by decide +kernel
set_option maxRecDepth 20000 in
theorem ggX6_peel_X6_needTrack : GoodIn wsX6_peel wsX6_needTrack := goodIn_ca (goodIn_r _ [7, 8, 9] (by decide +kernel) (by decide +kernel)) (goodIn_sub (fun _ h => List.mem_cons_of_mem _ (List.mem_append_left _ (List.mem_append_right _ h))) (by decide +kernel))
set_option maxRecDepth 20000 in
theorem gX6_peel_X6_needTrack : GoodIn wsX6_peel (va_wsS RX6 79 yX6_needTrack wsX6_needTrack) := goodIn_app (goodIn_of _ (by decide +kernel)) ggX6_peel_X6_needTrack
set_option maxRecDepth 20000 in
theorem ggX6_peel_X6_needSteps : GoodIn wsX6_peel wsX6_needSteps := goodIn_ca (goodIn_ca (goodIn_r _ [12, 8, 9, 13, 14, 15, 16, 6, 17] (by decide +kernel) (by decide +kernel)) (goodIn_sub (fun _ h => List.mem_cons_of_mem _ (List.mem_append_left _ (List.mem_append_right _ h))) (by decide +kernel))) (goodIn_sub (fun _ h => List.mem_cons_of_mem _ (List.mem_append_right _ h)) (by decide +kernel))
set_option maxRecDepth 20000 in
theorem gX6_peel_X6_needSteps : GoodIn wsX6_peel (va_wsS RX6 82 yX6_needSteps wsX6_needSteps) := goodIn_app (goodIn_of _ (by decide +kernel)) ggX6_peel_X6_needSteps
set_option maxRecDepth 20000 in
theorem ggX6_peel_X4_keep : GoodIn wsX6_peel wsX4_keep := goodIn_r _ [22, 23, 24, 25, 26, 27, 21, 28, 29, 30, 31, 32, 33, 34, 35, 36, 37, 38, 39, 40, 41, 42, 43, 44, 45, 46, 47, 48, 49, 50, 51, 52, 102, 103, 104, 105, 106, 107, 108, 109, 110, 111, 112] (by decide +kernel) (by decide +kernel)
set_option maxRecDepth 20000 in
theorem gX6_peel_X4_keep : GoodIn wsX6_peel (wsV RX6 68 RX4 yX4_keep wsX4_keep) := goodIn_app (goodIn_of _ (by decide +kernel)) ggX6_peel_X4_keep
set_option maxRecDepth 20000 in
theorem ggX6_peel_X3_uncover : GoodIn wsX6_peel wsX3_uncover := goodIn_r _ [56, 39, 104, 105, 106, 107, 108, 109, 110] (by decide +kernel) (by decide +kernel)
set_option maxRecDepth 20000 in
theorem gX6_peel_X3_uncover : GoodIn wsX6_peel (wsV RX6 89 RX3 yX3_uncover wsX3_uncover) := goodIn_app (goodIn_of _ (by decide +kernel)) ggX6_peel_X3_uncover
set_option maxRecDepth 20000 in
theorem ggX6_peel_X1_listenTo : GoodIn wsX6_peel wsX1_listenTo := goodIn_r _ [61, 62, 63, 64, 65, 66, 67, 68, 32, 69, 40, 16, 6, 17, 70, 71, 72, 73, 34, 39, 74, 75, 76, 77, 78, 79, 80, 81, 82, 83, 48, 84, 50, 52, 85, 86, 87, 60, 88, 89, 90, 91, 92, 93, 94, 95, 96, 113, 114, 115, 116, 104, 105, 106, 107, 108, 109, 110, 111, 112] (by decide +kernel) (by decide +kernel)
set_option maxRecDepth 20000 in
theorem gX6_peel_X1_listenTo : GoodIn wsX6_peel (wsV RX6 76 RX1 yX1_listenTo wsX1_listenTo) := goodIn_app (goodIn_of _ (by decide +kernel)) ggX6_peel_X1_listenTo
theorem dX6_peel_0 : decode cX6_peel 0 = .ok (.iload_n 1, 1) := by decide +kernel
theorem dX6_peel_1 : decode cX6_peel 1 = .ok (.invokestatic 79, 3) := by decide +kernel
theorem dX6_peel_4 : decode cX6_peel 4 = .ok (.iload_n 2, 1) := by decide +kernel
theorem dX6_peel_5 : decode cX6_peel 5 = .ok (.iload_n 3, 1) := by decide +kernel
theorem dX6_peel_6 : decode cX6_peel 6 = .ok (.invokestatic 82, 3) := by decide +kernel
theorem dX6_peel_9 : decode cX6_peel 9 = .ok (.aload_n 0, 1) := by decide +kernel
theorem dX6_peel_10 : decode cX6_peel 10 = .ok (.getfield 26, 3) := by decide +kernel
theorem dX6_peel_13 : decode cX6_peel 13 = .ok (.aload_n 0, 1) := by decide +kernel
theorem dX6_peel_14 : decode cX6_peel 14 = .ok (.getfield 12, 3) := by decide +kernel
theorem dX6_peel_17 : decode cX6_peel 17 = .ok (.invokevirtual 68, 3) := by decide +kernel
theorem dX6_peel_20 : decode cX6_peel 20 = .ok (.aload_n 0, 1) := by decide +kernel
theorem dX6_peel_21 : decode cX6_peel 21 = .ok (.getfield 12, 3) := by decide +kernel
theorem dX6_peel_24 : decode cX6_peel 24 = .ok (.iload_n 1, 1) := by decide +kernel
theorem dX6_peel_25 : decode cX6_peel 25 = .ok (.iload_n 2, 1) := by decide +kernel
theorem dX6_peel_26 : decode cX6_peel 26 = .ok (.iload_n 3, 1) := by decide +kernel
theorem dX6_peel_27 : decode cX6_peel 27 = .ok (.invokevirtual 89, 3) := by decide +kernel
theorem dX6_peel_30 : decode cX6_peel 30 = .ok (.istore 4, 2) := by decide +kernel
theorem dX6_peel_32 : decode cX6_peel 32 = .ok (.aload_n 0, 1) := by decide +kernel
theorem dX6_peel_33 : decode cX6_peel 33 = .ok (.getfield 19, 3) := by decide +kernel
theorem dX6_peel_36 : decode cX6_peel 36 = .ok (.aload_n 0, 1) := by decide +kernel
theorem dX6_peel_37 : decode cX6_peel 37 = .ok (.getfield 12, 3) := by decide +kernel
theorem dX6_peel_40 : decode cX6_peel 40 = .ok (.invokevirtual 76, 3) := by decide +kernel
theorem dX6_peel_43 : decode cX6_peel 43 = .ok (.iload 4, 2) := by decide +kernel
theorem dX6_peel_45 : decode cX6_peel 45 = .ok (.ireturn, 1) := by decide +kernel
set_option maxRecDepth 20000 in
theorem ggX6_shift_X6_needAside : GoodIn wsX6_shift wsX6_needAside := goodIn_ca (goodIn_r _ [9, 10, 11] (by decide +kernel) (by decide +kernel)) (goodIn_sub (fun _ h => List.mem_cons_of_mem _ (List.mem_append_right _ h)) (by decide +kernel))
set_option maxRecDepth 20000 in
theorem gX6_shift_X6_needAside : GoodIn wsX6_shift (va_wsS RX6 92 yX6_needAside wsX6_needAside) := goodIn_app (goodIn_of _ (by decide +kernel)) ggX6_shift_X6_needAside
set_option maxRecDepth 20000 in
theorem ggX6_shift_X3_canMove : GoodIn wsX6_shift wsX3_canMove := goodIn_r _ [16, 17, 18, 19, 20, 21, 15, 22, 120, 121, 122, 123, 124, 125, 126] (by decide +kernel) (by decide +kernel)
set_option maxRecDepth 20000 in
theorem gX6_shift_X3_canMove : GoodIn wsX6_shift (wsV RX6 95 RX3 yX3_canMove wsX3_canMove) := goodIn_app (goodIn_of _ (by decide +kernel)) ggX6_shift_X3_canMove
set_option maxRecDepth 20000 in
theorem ggX6_shift_X4_keep : GoodIn wsX6_shift wsX4_keep := goodIn_r _ [27, 28, 29, 30, 31, 32, 26, 33, 34, 35, 36, 15, 37, 17, 38, 39, 40, 41, 18, 42, 43, 44, 45, 46, 47, 48, 49, 50, 51, 52, 53, 54, 127, 128, 120, 121, 122, 123, 124, 125, 126, 129, 130] (by decide +kernel) (by decide +kernel)
set_option maxRecDepth 20000 in
theorem gX6_shift_X4_keep : GoodIn wsX6_shift (wsV RX6 68 RX4 yX4_keep wsX4_keep) := goodIn_app (goodIn_of _ (by decide +kernel)) ggX6_shift_X4_keep
set_option maxRecDepth 20000 in
theorem ggX6_shift_X3_move : GoodIn wsX6_shift wsX3_move := goodIn_r _ [58, 17, 18, 20, 21, 15, 22, 120, 121, 122, 123, 124, 125, 126] (by decide +kernel) (by decide +kernel)
set_option maxRecDepth 20000 in
theorem gX6_shift_X3_move : GoodIn wsX6_shift (wsV RX6 100 RX3 yX3_move wsX3_move) := goodIn_app (goodIn_of _ (by decide +kernel)) ggX6_shift_X3_move
set_option maxRecDepth 20000 in
theorem ggX6_shift_X1_listenTo : GoodIn wsX6_shift wsX1_listenTo := goodIn_r _ [63, 64, 65, 66, 67, 68, 69, 70, 15, 71, 42, 72, 8, 73, 74, 75, 76, 77, 17, 18, 78, 79, 80, 81, 20, 21, 22, 82, 83, 84, 50, 85, 52, 54, 86, 87, 88, 62, 89, 90, 91, 92, 93, 94, 95, 96, 97, 131, 132, 133, 134, 120, 121, 122, 123, 124, 125, 126, 129, 130] (by decide +kernel) (by decide +kernel)
set_option maxRecDepth 20000 in
theorem gX6_shift_X1_listenTo : GoodIn wsX6_shift (wsV RX6 76 RX1 yX1_listenTo wsX1_listenTo) := goodIn_app (goodIn_of _ (by decide +kernel)) ggX6_shift_X1_listenTo
set_option maxRecDepth 20000 in
theorem ggX6_shift_X6_rightNotes : GoodIn wsX6_shift wsX6_rightNotes := goodIn_r _ [101, 5, 102, 3, 103, 104, 105, 106, 50, 107, 52, 53, 54, 108, 109, 110, 111, 112, 113, 114, 115, 116, 117, 118, 119, 131, 132, 133, 134, 120, 121, 122, 123, 124, 125, 126, 129, 130] (by decide +kernel) (by decide +kernel)
set_option maxRecDepth 20000 in
theorem gX6_shift_X6_rightNotes : GoodIn wsX6_shift (wsV RX6 103 RX6 yX6_rightNotes wsX6_rightNotes) := goodIn_app (goodIn_of _ (by decide +kernel)) ggX6_shift_X6_rightNotes
theorem dX6_shift_0 : decode cX6_shift 0 = .ok (.iload_n 1, 1) := by decide +kernel
theorem dX6_shift_1 : decode cX6_shift 1 = .ok (.invokestatic 92, 3) := by decide +kernel
theorem dX6_shift_4 : decode cX6_shift 4 = .ok (.aload_n 0, 1) := by decide +kernel
theorem dX6_shift_5 : decode cX6_shift 5 = .ok (.getfield 12, 3) := by decide +kernel
theorem dX6_shift_8 : decode cX6_shift 8 = .ok (.iload_n 1, 1) := by decide +kernel
theorem dX6_shift_9 : decode cX6_shift 9 = .ok (.invokevirtual 95, 3) := by decide +kernel
theorem dX6_shift_12 : decode cX6_shift 12 = .ok (.ifCond .ne 13, 3) := by decide +kernel
theorem dX6_shift_15 : decode cX6_shift 15 = .ok (.new 63, 3) := by decide +kernel
theorem dX6_shift_18 : decode cX6_shift 18 = .ok (.dup, 1) := by decide +kernel
theorem dX6_shift_19 : decode cX6_shift 19 = .ok (.ldc 98, 2) := by decide +kernel
theorem dX6_shift_21 : decode cX6_shift 21 = .ok (.invokespecial 67, 3) := by decide +kernel
theorem dX6_shift_24 : decode cX6_shift 24 = .ok (.athrow, 1) := by decide +kernel
theorem dX6_shift_25 : decode cX6_shift 25 = .ok (.aload_n 0, 1) := by decide +kernel
theorem dX6_shift_26 : decode cX6_shift 26 = .ok (.getfield 26, 3) := by decide +kernel
theorem dX6_shift_29 : decode cX6_shift 29 = .ok (.aload_n 0, 1) := by decide +kernel
theorem dX6_shift_30 : decode cX6_shift 30 = .ok (.getfield 12, 3) := by decide +kernel
theorem dX6_shift_33 : decode cX6_shift 33 = .ok (.invokevirtual 68, 3) := by decide +kernel
theorem dX6_shift_36 : decode cX6_shift 36 = .ok (.aload_n 0, 1) := by decide +kernel
theorem dX6_shift_37 : decode cX6_shift 37 = .ok (.getfield 12, 3) := by decide +kernel
theorem dX6_shift_40 : decode cX6_shift 40 = .ok (.iload_n 1, 1) := by decide +kernel
theorem dX6_shift_41 : decode cX6_shift 41 = .ok (.invokevirtual 100, 3) := by decide +kernel
theorem dX6_shift_44 : decode cX6_shift 44 = .ok (.aload_n 0, 1) := by decide +kernel
theorem dX6_shift_45 : decode cX6_shift 45 = .ok (.getfield 19, 3) := by decide +kernel
theorem dX6_shift_48 : decode cX6_shift 48 = .ok (.aload_n 0, 1) := by decide +kernel
theorem dX6_shift_49 : decode cX6_shift 49 = .ok (.getfield 12, 3) := by decide +kernel
theorem dX6_shift_52 : decode cX6_shift 52 = .ok (.invokevirtual 76, 3) := by decide +kernel
theorem dX6_shift_55 : decode cX6_shift 55 = .ok (.aload_n 0, 1) := by decide +kernel
theorem dX6_shift_56 : decode cX6_shift 56 = .ok (.invokevirtual 103, 3) := by decide +kernel
theorem dX6_shift_59 : decode cX6_shift 59 = .ok (.ireturn, 1) := by decide +kernel
set_option maxRecDepth 20000 in
theorem ggX6_tear_X6_needSteps : GoodIn wsX6_tear wsX6_needSteps := goodIn_ca (goodIn_ca (goodIn_r _ [9, 10, 11, 12, 13, 14, 15, 8, 16] (by decide +kernel) (by decide +kernel)) (goodIn_sub (fun _ h => List.mem_cons_of_mem _ (List.mem_append_left _ (List.mem_append_right _ h))) (by decide +kernel))) (goodIn_sub (fun _ h => List.mem_cons_of_mem _ (List.mem_append_right _ h)) (by decide +kernel))
set_option maxRecDepth 20000 in
theorem gX6_tear_X6_needSteps : GoodIn wsX6_tear (va_wsS RX6 82 yX6_needSteps wsX6_needSteps) := goodIn_app (goodIn_of _ (by decide +kernel)) ggX6_tear_X6_needSteps
set_option maxRecDepth 20000 in
theorem ggX6_tear_X6_needAside : GoodIn wsX6_tear wsX6_needAside := goodIn_ca (goodIn_r _ [19, 12, 13] (by decide +kernel) (by decide +kernel)) (goodIn_sub (fun _ h => List.mem_cons_of_mem _ (List.mem_append_right _ h)) (by decide +kernel))
set_option maxRecDepth 20000 in
theorem gX6_tear_X6_needAside : GoodIn wsX6_tear (va_wsS RX6 92 yX6_needAside wsX6_needAside) := goodIn_app (goodIn_of _ (by decide +kernel)) ggX6_tear_X6_needAside
set_option maxRecDepth 20000 in
theorem ggX6_tear_X3_canTear : GoodIn wsX6_tear wsX3_canTear := goodIn_r _ [24, 25, 26, 27, 23, 28, 29, 30, 31, 32, 33, 34, 35, 135, 136, 137, 138, 139, 140, 141] (by decide +kernel) (by decide +kernel)
set_option maxRecDepth 20000 in
theorem gX6_tear_X3_canTear : GoodIn wsX6_tear (wsV RX6 107 RX3 yX3_canTear wsX3_canTear) := goodIn_app (goodIn_of _ (by decide +kernel)) ggX6_tear_X3_canTear
set_option maxRecDepth 20000 in
theorem ggX6_tear_X4_keep : GoodIn wsX6_tear wsX4_keep := goodIn_r _ [40, 41, 42, 43, 44, 45, 39, 46, 47, 48, 49, 23, 50, 51, 52, 53, 54, 55, 56, 25, 57, 58, 59, 60, 61, 62, 63, 64, 65, 66, 67, 68, 142, 143, 135, 136, 137, 138, 139, 140, 141, 144, 145] (by decide +kernel) (by decide +kernel)
set_option maxRecDepth 20000 in
theorem gX6_tear_X4_keep : GoodIn wsX6_tear (wsV RX6 68 RX4 yX4_keep wsX4_keep) := goodIn_app (goodIn_of _ (by decide +kernel)) ggX6_tear_X4_keep
set_option maxRecDepth 20000 in
theorem ggX6_tear_X3_addToEdges : GoodIn wsX6_tear wsX3_addToEdges := goodIn_r _ [72, 25, 135, 136, 137, 138, 139, 140, 141] (by decide +kernel) (by decide +kernel)
set_option maxRecDepth 20000 in
theorem gX6_tear_X3_addToEdges : GoodIn wsX6_tear (wsV RX6 113 RX3 yX3_addToEdges wsX3_addToEdges) := goodIn_app (goodIn_of _ (by decide +kernel)) ggX6_tear_X3_addToEdges
set_option maxRecDepth 20000 in
theorem ggX6_tear_X1_listenTo : GoodIn wsX6_tear wsX1_listenTo := goodIn_r _ [77, 78, 79, 80, 81, 82, 83, 84, 23, 85, 25, 15, 8, 16, 86, 87, 88, 89, 51, 56, 90, 91, 92, 93, 94, 95, 96, 97, 98, 99, 64, 100, 66, 68, 101, 102, 103, 76, 104, 105, 106, 107, 108, 109, 110, 111, 112, 146, 147, 148, 149, 135, 136, 137, 138, 139, 140, 141, 144, 145] (by decide +kernel) (by decide +kernel)
set_option maxRecDepth 20000 in
theorem gX6_tear_X1_listenTo : GoodIn wsX6_tear (wsV RX6 76 RX1 yX1_listenTo wsX1_listenTo) := goodIn_app (goodIn_of _ (by decide +kernel)) ggX6_tear_X1_listenTo
set_option maxRecDepth 20000 in
theorem ggX6_tear_X6_rightNotes : GoodIn wsX6_tear wsX6_rightNotes := goodIn_r _ [116, 5, 117, 3, 118, 119, 120, 121, 64, 122, 66, 67, 68, 123, 124, 125, 126, 127, 128, 129, 130, 131, 132, 133, 134, 146, 147, 148, 149, 135, 136, 137, 138, 139, 140, 141, 144, 145] (by decide +kernel) (by decide +kernel)
set_option maxRecDepth 20000 in
theorem gX6_tear_X6_rightNotes : GoodIn wsX6_tear (wsV RX6 103 RX6 yX6_rightNotes wsX6_rightNotes) := goodIn_app (goodIn_of _ (by decide +kernel)) ggX6_tear_X6_rightNotes
theorem dX6_tear_0 : decode cX6_tear 0 = .ok (.iload_n 1, 1) := by decide +kernel
theorem dX6_tear_1 : decode cX6_tear 1 = .ok (.iload_n 2, 1) := by decide +kernel
theorem dX6_tear_2 : decode cX6_tear 2 = .ok (.invokestatic 82, 3) := by decide +kernel
theorem dX6_tear_5 : decode cX6_tear 5 = .ok (.iload_n 3, 1) := by decide +kernel
theorem dX6_tear_6 : decode cX6_tear 6 = .ok (.invokestatic 92, 3) := by decide +kernel
theorem dX6_tear_9 : decode cX6_tear 9 = .ok (.aload_n 0, 1) := by decide +kernel
theorem dX6_tear_10 : decode cX6_tear 10 = .ok (.getfield 12, 3) := by decide +kernel
theorem dX6_tear_13 : decode cX6_tear 13 = .ok (.iload_n 1, 1) := by decide +kernel
theorem dX6_tear_14 : decode cX6_tear 14 = .ok (.iload_n 2, 1) := by decide +kernel
theorem dX6_tear_15 : decode cX6_tear 15 = .ok (.iload_n 3, 1) := by decide +kernel
theorem dX6_tear_16 : decode cX6_tear 16 = .ok (.invokevirtual 107, 3) := by decide +kernel
theorem dX6_tear_19 : decode cX6_tear 19 = .ok (.ifCond .ne 13, 3) := by decide +kernel
theorem dX6_tear_22 : decode cX6_tear 22 = .ok (.new 63, 3) := by decide +kernel
theorem dX6_tear_25 : decode cX6_tear 25 = .ok (.dup, 1) := by decide +kernel
theorem dX6_tear_26 : decode cX6_tear 26 = .ok (.ldc 111, 2) := by decide +kernel
theorem dX6_tear_28 : decode cX6_tear 28 = .ok (.invokespecial 67, 3) := by decide +kernel
theorem dX6_tear_31 : decode cX6_tear 31 = .ok (.athrow, 1) := by decide +kernel
theorem dX6_tear_32 : decode cX6_tear 32 = .ok (.aload_n 0, 1) := by decide +kernel
theorem dX6_tear_33 : decode cX6_tear 33 = .ok (.getfield 26, 3) := by decide +kernel
theorem dX6_tear_36 : decode cX6_tear 36 = .ok (.aload_n 0, 1) := by decide +kernel
theorem dX6_tear_37 : decode cX6_tear 37 = .ok (.getfield 12, 3) := by decide +kernel
theorem dX6_tear_40 : decode cX6_tear 40 = .ok (.invokevirtual 68, 3) := by decide +kernel
theorem dX6_tear_43 : decode cX6_tear 43 = .ok (.aload_n 0, 1) := by decide +kernel
theorem dX6_tear_44 : decode cX6_tear 44 = .ok (.getfield 12, 3) := by decide +kernel
theorem dX6_tear_47 : decode cX6_tear 47 = .ok (.iload_n 1, 1) := by decide +kernel
theorem dX6_tear_48 : decode cX6_tear 48 = .ok (.iload_n 2, 1) := by decide +kernel
theorem dX6_tear_49 : decode cX6_tear 49 = .ok (.iload_n 3, 1) := by decide +kernel
theorem dX6_tear_50 : decode cX6_tear 50 = .ok (.invokevirtual 113, 3) := by decide +kernel
theorem dX6_tear_53 : decode cX6_tear 53 = .ok (.aload_n 0, 1) := by decide +kernel
theorem dX6_tear_54 : decode cX6_tear 54 = .ok (.getfield 19, 3) := by decide +kernel
theorem dX6_tear_57 : decode cX6_tear 57 = .ok (.aload_n 0, 1) := by decide +kernel
theorem dX6_tear_58 : decode cX6_tear 58 = .ok (.getfield 12, 3) := by decide +kernel
theorem dX6_tear_61 : decode cX6_tear 61 = .ok (.invokevirtual 76, 3) := by decide +kernel
theorem dX6_tear_64 : decode cX6_tear 64 = .ok (.aload_n 0, 1) := by decide +kernel
theorem dX6_tear_65 : decode cX6_tear 65 = .ok (.invokevirtual 103, 3) := by decide +kernel
theorem dX6_tear_68 : decode cX6_tear 68 = .ok (.ireturn, 1) := by decide +kernel
set_option maxRecDepth 20000 in
theorem ggX6_steer_X6_needSteps : GoodIn wsX6_steer wsX6_needSteps := goodIn_ca (goodIn_ca (goodIn_r _ [7, 8, 9, 10, 11, 12, 13, 6, 14] (by decide +kernel) (by decide +kernel)) (goodIn_sub (fun _ h => List.mem_cons_of_mem _ (List.mem_append_left _ (List.mem_append_right _ h))) (by decide +kernel))) (goodIn_sub (fun _ h => List.mem_cons_of_mem _ (List.mem_append_right _ h)) (by decide +kernel))
set_option maxRecDepth 20000 in
theorem gX6_steer_X6_needSteps : GoodIn wsX6_steer (va_wsS RX6 82 yX6_needSteps wsX6_needSteps) := goodIn_app (goodIn_of _ (by decide +kernel)) ggX6_steer_X6_needSteps
set_option maxRecDepth 20000 in
theorem ggX6_steer_X6_needAside : GoodIn wsX6_steer wsX6_needAside := goodIn_ca (goodIn_r _ [17, 10, 11] (by decide +kernel) (by decide +kernel)) (goodIn_sub (fun _ h => List.mem_cons_of_mem _ (List.mem_append_right _ h)) (by decide +kernel))
set_option maxRecDepth 20000 in
theorem gX6_steer_X6_needAside : GoodIn wsX6_steer (va_wsS RX6 92 yX6_needAside wsX6_needAside) := goodIn_app (goodIn_of _ (by decide +kernel)) ggX6_steer_X6_needAside
set_option maxRecDepth 20000 in
theorem ggX6_steer_X4_keep : GoodIn wsX6_steer wsX4_keep := goodIn_r _ [22, 23, 24, 25, 26, 27, 21, 28, 29, 30, 31, 32, 33, 34, 35, 36, 37, 38, 39, 40, 41, 42, 43, 44, 45, 46, 47, 48, 49, 50, 51, 52, 119, 120, 121, 122, 123, 124, 125, 126, 127, 128, 129] (by decide +kernel) (by decide +kernel)
set_option maxRecDepth 20000 in
theorem gX6_steer_X4_keep : GoodIn wsX6_steer (wsV RX6 68 RX4 yX4_keep wsX4_keep) := goodIn_app (goodIn_of _ (by decide +kernel)) ggX6_steer_X4_keep
set_option maxRecDepth 20000 in
theorem ggX6_steer_X3_putSteers : GoodIn wsX6_steer wsX3_putSteers := goodIn_r _ [56, 41, 121, 122, 123, 124, 125, 126, 127] (by decide +kernel) (by decide +kernel)
set_option maxRecDepth 20000 in
theorem gX6_steer_X3_putSteers : GoodIn wsX6_steer (wsV RX6 117 RX3 yX3_putSteers wsX3_putSteers) := goodIn_app (goodIn_of _ (by decide +kernel)) ggX6_steer_X3_putSteers
set_option maxRecDepth 20000 in
theorem ggX6_steer_X1_listenTo : GoodIn wsX6_steer wsX1_listenTo := goodIn_r _ [61, 62, 63, 64, 65, 66, 67, 68, 32, 69, 40, 13, 6, 14, 70, 71, 72, 73, 34, 39, 74, 75, 76, 77, 78, 79, 80, 81, 82, 83, 48, 84, 50, 52, 85, 86, 87, 60, 88, 89, 90, 91, 92, 93, 94, 95, 96, 130, 131, 132, 133, 121, 122, 123, 124, 125, 126, 127, 128, 129] (by decide +kernel) (by decide +kernel)
set_option maxRecDepth 20000 in
theorem gX6_steer_X1_listenTo : GoodIn wsX6_steer (wsV RX6 76 RX1 yX1_listenTo wsX1_listenTo) := goodIn_app (goodIn_of _ (by decide +kernel)) ggX6_steer_X1_listenTo
set_option maxRecDepth 20000 in
theorem ggX6_steer_X6_rightNotes : GoodIn wsX6_steer wsX6_rightNotes := goodIn_r _ [100, 3, 101, 2, 102, 103, 104, 105, 48, 106, 50, 51, 52, 107, 108, 109, 110, 111, 112, 113, 114, 115, 116, 117, 118, 130, 131, 132, 133, 121, 122, 123, 124, 125, 126, 127, 128, 129] (by decide +kernel) (by decide +kernel)
set_option maxRecDepth 20000 in
theorem gX6_steer_X6_rightNotes : GoodIn wsX6_steer (wsV RX6 103 RX6 yX6_rightNotes wsX6_rightNotes) := goodIn_app (goodIn_of _ (by decide +kernel)) ggX6_steer_X6_rightNotes
theorem dX6_steer_0 : decode cX6_steer 0 = .ok (.iload_n 1, 1) := by decide +kernel
theorem dX6_steer_1 : decode cX6_steer 1 = .ok (.iload_n 2, 1) := by decide +kernel
theorem dX6_steer_2 : decode cX6_steer 2 = .ok (.invokestatic 82, 3) := by decide +kernel
theorem dX6_steer_5 : decode cX6_steer 5 = .ok (.iload_n 3, 1) := by decide +kernel
theorem dX6_steer_6 : decode cX6_steer 6 = .ok (.invokestatic 92, 3) := by decide +kernel
theorem dX6_steer_9 : decode cX6_steer 9 = .ok (.aload_n 0, 1) := by decide +kernel
theorem dX6_steer_10 : decode cX6_steer 10 = .ok (.getfield 26, 3) := by decide +kernel
theorem dX6_steer_13 : decode cX6_steer 13 = .ok (.aload_n 0, 1) := by decide +kernel
theorem dX6_steer_14 : decode cX6_steer 14 = .ok (.getfield 12, 3) := by decide +kernel
theorem dX6_steer_17 : decode cX6_steer 17 = .ok (.invokevirtual 68, 3) := by decide +kernel
theorem dX6_steer_20 : decode cX6_steer 20 = .ok (.aload_n 0, 1) := by decide +kernel
theorem dX6_steer_21 : decode cX6_steer 21 = .ok (.getfield 12, 3) := by decide +kernel
theorem dX6_steer_24 : decode cX6_steer 24 = .ok (.iload_n 1, 1) := by decide +kernel
theorem dX6_steer_25 : decode cX6_steer 25 = .ok (.iload_n 2, 1) := by decide +kernel
theorem dX6_steer_26 : decode cX6_steer 26 = .ok (.iload_n 3, 1) := by decide +kernel
theorem dX6_steer_27 : decode cX6_steer 27 = .ok (.invokevirtual 117, 3) := by decide +kernel
theorem dX6_steer_30 : decode cX6_steer 30 = .ok (.aload_n 0, 1) := by decide +kernel
theorem dX6_steer_31 : decode cX6_steer 31 = .ok (.getfield 19, 3) := by decide +kernel
theorem dX6_steer_34 : decode cX6_steer 34 = .ok (.aload_n 0, 1) := by decide +kernel
theorem dX6_steer_35 : decode cX6_steer 35 = .ok (.getfield 12, 3) := by decide +kernel
theorem dX6_steer_38 : decode cX6_steer 38 = .ok (.invokevirtual 76, 3) := by decide +kernel
theorem dX6_steer_41 : decode cX6_steer 41 = .ok (.aload_n 0, 1) := by decide +kernel
theorem dX6_steer_42 : decode cX6_steer 42 = .ok (.invokevirtual 103, 3) := by decide +kernel
theorem dX6_steer_45 : decode cX6_steer 45 = .ok (.ireturn, 1) := by decide +kernel
set_option maxRecDepth 20000 in
theorem ggX6_set_X6_needSetting : GoodIn wsX6_set wsX6_needSetting := goodIn_ca (goodIn_r _ [11, 12, 13] (by decide +kernel) (by decide +kernel)) (goodIn_sub (fun _ h => List.mem_cons_of_mem _ (List.mem_append_right _ h)) (by decide +kernel))
set_option maxRecDepth 20000 in
theorem gX6_set_X6_needSetting : GoodIn wsX6_set (va_wsS RX6 120 yX6_needSetting wsX6_needSetting) := goodIn_app (goodIn_of _ (by decide +kernel)) ggX6_set_X6_needSetting
set_option maxRecDepth 20000 in
theorem ggX6_set_X4_keep : GoodIn wsX6_set wsX4_keep := goodIn_r _ [18, 19, 20, 21, 22, 23, 17, 24, 25, 26, 27, 28, 29, 30, 31, 32, 33, 34, 35, 36, 37, 38, 39, 40, 41, 42, 43, 44, 45, 46, 47, 48, 107, 108, 100, 101, 102, 103, 104, 105, 106, 109, 110] (by decide +kernel) (by decide +kernel)
set_option maxRecDepth 20000 in
theorem gX6_set_X4_keep : GoodIn wsX6_set (wsV RX6 68 RX4 yX4_keep wsX4_keep) := goodIn_app (goodIn_of _ (by decide +kernel)) ggX6_set_X4_keep
set_option maxRecDepth 20000 in
theorem ggX6_set_X6_settingOf : GoodIn wsX6_set wsX6_settingOf := goodIn_r _ [52, 4, 5, 6, 95, 96, 97, 98, 99, 100, 101, 102, 103, 104, 105, 106] (by decide +kernel) (by decide +kernel)
set_option maxRecDepth 20000 in
theorem gX6_set_X6_settingOf : GoodIn wsX6_set (wsV RX6 128 RX6 yX6_settingOf wsX6_settingOf) := goodIn_app (goodIn_of _ (by decide +kernel)) ggX6_set_X6_settingOf
set_option maxRecDepth 20000 in
theorem ggX6_set_X1_listenTo : GoodIn wsX6_set wsX1_listenTo := goodIn_r _ [57, 58, 59, 60, 61, 62, 63, 64, 28, 65, 36, 66, 10, 67, 68, 69, 70, 71, 30, 35, 72, 73, 74, 75, 76, 77, 78, 79, 80, 81, 44, 82, 46, 48, 83, 84, 85, 56, 86, 87, 88, 89, 90, 91, 92, 93, 94, 111, 112, 113, 114, 100, 101, 102, 103, 104, 105, 106, 109, 110] (by decide +kernel) (by decide +kernel)
set_option maxRecDepth 20000 in
theorem gX6_set_X1_listenTo : GoodIn wsX6_set (wsV RX6 76 RX1 yX1_listenTo wsX1_listenTo) := goodIn_app (goodIn_of _ (by decide +kernel)) ggX6_set_X1_listenTo
theorem dX6_set_0 : decode cX6_set 0 = .ok (.iload_n 1, 1) := by decide +kernel
theorem dX6_set_1 : decode cX6_set 1 = .ok (.invokestatic 120, 3) := by decide +kernel
theorem dX6_set_4 : decode cX6_set 4 = .ok (.iload_n 1, 1) := by decide +kernel
theorem dX6_set_5 : decode cX6_set 5 = .ok (.ifCond .ne 7, 3) := by decide +kernel
theorem dX6_set_8 : decode cX6_set 8 = .ok (.iconst 3, 1) := by decide +kernel
theorem dX6_set_9 : decode cX6_set 9 = .ok (.goto 5, 3) := by decide +kernel
theorem dX6_set_12 : decode cX6_set 12 = .ok (.bipush 8, 2) := by decide +kernel
theorem dX6_set_14 : decode cX6_set 14 = .ok (.istore_n 3, 1) := by decide +kernel
theorem dX6_set_15 : decode cX6_set 15 = .ok (.iload_n 2, 1) := by decide +kernel
theorem dX6_set_16 : decode cX6_set 16 = .ok (.ifCond .lt 8, 3) := by decide +kernel
theorem dX6_set_19 : decode cX6_set 19 = .ok (.iload_n 2, 1) := by decide +kernel
theorem dX6_set_20 : decode cX6_set 20 = .ok (.iload_n 3, 1) := by decide +kernel
theorem dX6_set_21 : decode cX6_set 21 = .ok (.if_icmp .le 13, 3) := by decide +kernel
theorem dX6_set_24 : decode cX6_set 24 = .ok (.new 123, 3) := by decide +kernel
theorem dX6_set_27 : decode cX6_set 27 = .ok (.dup, 1) := by decide +kernel
theorem dX6_set_28 : decode cX6_set 28 = .ok (.ldc 125, 2) := by decide +kernel
theorem dX6_set_30 : decode cX6_set 30 = .ok (.invokespecial 127, 3) := by decide +kernel
theorem dX6_set_33 : decode cX6_set 33 = .ok (.athrow, 1) := by decide +kernel
theorem dX6_set_34 : decode cX6_set 34 = .ok (.aload_n 0, 1) := by decide +kernel
theorem dX6_set_35 : decode cX6_set 35 = .ok (.getfield 26, 3) := by decide +kernel
theorem dX6_set_38 : decode cX6_set 38 = .ok (.aload_n 0, 1) := by decide +kernel
theorem dX6_set_39 : decode cX6_set 39 = .ok (.getfield 12, 3) := by decide +kernel
theorem dX6_set_42 : decode cX6_set 42 = .ok (.invokevirtual 68, 3) := by decide +kernel
theorem dX6_set_45 : decode cX6_set 45 = .ok (.aload_n 0, 1) := by decide +kernel
theorem dX6_set_46 : decode cX6_set 46 = .ok (.iload_n 1, 1) := by decide +kernel
theorem dX6_set_47 : decode cX6_set 47 = .ok (.invokevirtual 128, 3) := by decide +kernel
theorem dX6_set_50 : decode cX6_set 50 = .ok (.istore 4, 2) := by decide +kernel
theorem dX6_set_52 : decode cX6_set 52 = .ok (.iload_n 1, 1) := by decide +kernel
theorem dX6_set_53 : decode cX6_set 53 = .ok (.ifCond .ne 14, 3) := by decide +kernel
theorem dX6_set_56 : decode cX6_set 56 = .ok (.aload_n 0, 1) := by decide +kernel
theorem dX6_set_57 : decode cX6_set 57 = .ok (.getfield 12, 3) := by decide +kernel
theorem dX6_set_60 : decode cX6_set 60 = .ok (.iload_n 2, 1) := by decide +kernel
theorem dX6_set_61 : decode cX6_set 61 = .ok (.putfield 132, 3) := by decide +kernel
theorem dX6_set_64 : decode cX6_set 64 = .ok (.goto 11, 3) := by decide +kernel
theorem dX6_set_67 : decode cX6_set 67 = .ok (.aload_n 0, 1) := by decide +kernel
theorem dX6_set_68 : decode cX6_set 68 = .ok (.getfield 12, 3) := by decide +kernel
theorem dX6_set_71 : decode cX6_set 71 = .ok (.iload_n 2, 1) := by decide +kernel
theorem dX6_set_72 : decode cX6_set 72 = .ok (.putfield 136, 3) := by decide +kernel
theorem dX6_set_75 : decode cX6_set 75 = .ok (.aload_n 0, 1) := by decide +kernel
theorem dX6_set_76 : decode cX6_set 76 = .ok (.getfield 19, 3) := by decide +kernel
theorem dX6_set_79 : decode cX6_set 79 = .ok (.aload_n 0, 1) := by decide +kernel
theorem dX6_set_80 : decode cX6_set 80 = .ok (.getfield 12, 3) := by decide +kernel
theorem dX6_set_83 : decode cX6_set 83 = .ok (.invokevirtual 76, 3) := by decide +kernel
theorem dX6_set_86 : decode cX6_set 86 = .ok (.iload 4, 2) := by decide +kernel
theorem dX6_set_88 : decode cX6_set 88 = .ok (.ireturn, 1) := by decide +kernel
set_option maxRecDepth 20000 in
theorem ggX6_learn_X4_keep : GoodIn wsX6_learn wsX4_keep := goodIn_r _ [10, 11, 12, 13, 14, 15, 9, 16, 17, 18, 19, 20, 21, 22, 23, 24, 25, 26, 27, 28, 29, 30, 31, 32, 33, 34, 35, 36, 37, 38, 39, 40, 72, 73, 61, 62, 63, 64, 65, 66, 67, 74, 75] (by decide +kernel) (by decide +kernel)
set_option maxRecDepth 20000 in
theorem gX6_learn_X4_keep : GoodIn wsX6_learn (wsV RX6 68 RX4 yX4_keep wsX4_keep) := goodIn_app (goodIn_of _ (by decide +kernel)) ggX6_learn_X4_keep
set_option maxRecDepth 20000 in
theorem ggX6_learn_X0_copyNotes : GoodIn wsX6_learn wsX0_copyNotes := goodIn_r _ [37, 38, 39, 40, 74, 75] (by decide +kernel) (by decide +kernel)
set_option maxRecDepth 20000 in
theorem gX6_learn_X0_copyNotes : GoodIn wsX6_learn (wsV RX6 146 RX0 yX0_copyNotes wsX0_copyNotes) := goodIn_app (goodIn_of _ (by decide +kernel)) ggX6_learn_X0_copyNotes
set_option maxRecDepth 20000 in
theorem ggX6_learn_X0_noteCount : GoodIn wsX6_learn wsX0_noteCount := goodIn_r _ [45, 38, 39, 46, 47, 48, 49, 50, 51, 52, 53, 54, 55, 74, 75] (by decide +kernel) (by decide +kernel)
set_option maxRecDepth 20000 in
theorem gX6_learn_X0_noteCount : GoodIn wsX6_learn (wsV RX6 152 RX0 yX0_noteCount wsX0_noteCount) := goodIn_app (goodIn_of _ (by decide +kernel)) ggX6_learn_X0_noteCount
theorem dX6_learn_0 : decode cX6_learn 0 = .ok (.aload_n 0, 1) := by decide +kernel
theorem dX6_learn_1 : decode cX6_learn 1 = .ok (.getfield 26, 3) := by decide +kernel
theorem dX6_learn_4 : decode cX6_learn 4 = .ok (.aload_n 0, 1) := by decide +kernel
theorem dX6_learn_5 : decode cX6_learn 5 = .ok (.getfield 12, 3) := by decide +kernel
theorem dX6_learn_8 : decode cX6_learn 8 = .ok (.invokevirtual 68, 3) := by decide +kernel
theorem dX6_learn_11 : decode cX6_learn 11 = .ok (.aload_n 0, 1) := by decide +kernel
theorem dX6_learn_12 : decode cX6_learn 12 = .ok (.getfield 12, 3) := by decide +kernel
theorem dX6_learn_15 : decode cX6_learn 15 = .ok (.getfield 139, 3) := by decide +kernel
theorem dX6_learn_18 : decode cX6_learn 18 = .ok (.aload_n 0, 1) := by decide +kernel
theorem dX6_learn_19 : decode cX6_learn 19 = .ok (.getfield 19, 3) := by decide +kernel
theorem dX6_learn_22 : decode cX6_learn 22 = .ok (.getfield 143, 3) := by decide +kernel
theorem dX6_learn_25 : decode cX6_learn 25 = .ok (.invokevirtual 146, 3) := by decide +kernel
theorem dX6_learn_28 : decode cX6_learn 28 = .ok (.aload_n 0, 1) := by decide +kernel
theorem dX6_learn_29 : decode cX6_learn 29 = .ok (.getfield 12, 3) := by decide +kernel
theorem dX6_learn_32 : decode cX6_learn 32 = .ok (.getfield 139, 3) := by decide +kernel
theorem dX6_learn_35 : decode cX6_learn 35 = .ok (.invokevirtual 152, 3) := by decide +kernel
theorem dX6_learn_38 : decode cX6_learn 38 = .ok (.ireturn, 1) := by decide +kernel
set_option maxRecDepth 20000 in
theorem ggX6_append_X2_isFull : GoodIn wsX6_append wsX2_isFull := goodIn_r _ [10, 11, 12, 22, 23, 24, 25, 26, 27, 28, 29, 30, 31] (by decide +kernel) (by decide +kernel)
set_option maxRecDepth 20000 in
theorem gX6_append_X2_isFull : GoodIn wsX6_append (wsV RX6 157 RX2 yX2_isFull wsX2_isFull) := goodIn_app (goodIn_of _ (by decide +kernel)) ggX6_append_X2_isFull
set_option maxRecDepth 20000 in
theorem ggX6_append_X2_add : GoodIn wsX6_append wsX2_add := goodIn_r _ [16, 11, 12, 22, 23, 24, 25, 26, 27, 28, 29, 30, 31] (by decide +kernel) (by decide +kernel)
set_option maxRecDepth 20000 in
theorem gX6_append_X2_add : GoodIn wsX6_append (wsV RX6 163 RX2 yX2_add wsX2_add) := goodIn_app (goodIn_of _ (by decide +kernel)) ggX6_append_X2_add
theorem dX6_append_0 : decode cX6_append 0 = .ok (.iload_n 1, 1) := by decide +kernel
theorem dX6_append_1 : decode cX6_append 1 = .ok (.bipush 33, 2) := by decide +kernel
theorem dX6_append_3 : decode cX6_append 3 = .ok (.if_icmp .lt 9, 3) := by decide +kernel
theorem dX6_append_6 : decode cX6_append 6 = .ok (.iload_n 1, 1) := by decide +kernel
theorem dX6_append_7 : decode cX6_append 7 = .ok (.bipush 126, 2) := by decide +kernel
theorem dX6_append_9 : decode cX6_append 9 = .ok (.if_icmp .le 13, 3) := by decide +kernel
theorem dX6_append_12 : decode cX6_append 12 = .ok (.new 123, 3) := by decide +kernel
theorem dX6_append_15 : decode cX6_append 15 = .ok (.dup, 1) := by decide +kernel
theorem dX6_append_16 : decode cX6_append 16 = .ok (.ldc 155, 2) := by decide +kernel
theorem dX6_append_18 : decode cX6_append 18 = .ok (.invokespecial 127, 3) := by decide +kernel
theorem dX6_append_21 : decode cX6_append 21 = .ok (.athrow, 1) := by decide +kernel
theorem dX6_append_22 : decode cX6_append 22 = .ok (.aload_n 0, 1) := by decide +kernel
theorem dX6_append_23 : decode cX6_append 23 = .ok (.getfield 33, 3) := by decide +kernel
theorem dX6_append_26 : decode cX6_append 26 = .ok (.invokevirtual 157, 3) := by decide +kernel
theorem dX6_append_29 : decode cX6_append 29 = .ok (.ifCond .eq 13, 3) := by decide +kernel
theorem dX6_append_32 : decode cX6_append 32 = .ok (.new 63, 3) := by decide +kernel
theorem dX6_append_35 : decode cX6_append 35 = .ok (.dup, 1) := by decide +kernel
theorem dX6_append_36 : decode cX6_append 36 = .ok (.ldc 161, 2) := by decide +kernel
theorem dX6_append_38 : decode cX6_append 38 = .ok (.invokespecial 67, 3) := by decide +kernel
theorem dX6_append_41 : decode cX6_append 41 = .ok (.athrow, 1) := by decide +kernel
theorem dX6_append_42 : decode cX6_append 42 = .ok (.aload_n 0, 1) := by decide +kernel
theorem dX6_append_43 : decode cX6_append 43 = .ok (.getfield 33, 3) := by decide +kernel
theorem dX6_append_46 : decode cX6_append 46 = .ok (.iload_n 1, 1) := by decide +kernel
theorem dX6_append_47 : decode cX6_append 47 = .ok (.invokevirtual 163, 3) := by decide +kernel
theorem dX6_append_50 : decode cX6_append 50 = .ok (.ireturn, 1) := by decide +kernel
set_option maxRecDepth 20000 in
theorem ggX6_clearBuffer_X2_empty : GoodIn wsX6_clearBuffer wsX2_empty := goodIn_r _ [6, 7, 13, 14, 15, 16, 17, 18, 19, 20, 21, 22] (by decide +kernel) (by decide +kernel)
set_option maxRecDepth 20000 in
theorem gX6_clearBuffer_X2_empty : GoodIn wsX6_clearBuffer (wsV RX6 166 RX2 yX2_empty wsX2_empty) := goodIn_app (goodIn_of _ (by decide +kernel)) ggX6_clearBuffer_X2_empty
theorem dX6_clearBuffer_0 : decode cX6_clearBuffer 0 = .ok (.aload_n 0, 1) := by decide +kernel
theorem dX6_clearBuffer_1 : decode cX6_clearBuffer 1 = .ok (.getfield 33, 3) := by decide +kernel
theorem dX6_clearBuffer_4 : decode cX6_clearBuffer 4 = .ok (.invokevirtual 166, 3) := by decide +kernel
theorem dX6_clearBuffer_7 : decode cX6_clearBuffer 7 = .ok (.ireturn, 1) := by decide +kernel
set_option maxRecDepth 20000 in
theorem ggX6_firstError_X2_readAll : GoodIn wsX6_firstError wsX2_readAll := goodIn_r _ [6, 7, 8, 9, 10, 11, 12, 13, 14, 5, 15, 16, 17, 18, 19, 20, 21, 22, 23, 24, 25, 26, 27, 28, 29, 30, 31, 32, 33, 34, 35, 36, 37, 38, 39, 40, 41, 42, 48, 49, 50, 51, 52, 53, 54, 55, 56, 57] (by decide +kernel) (by decide +kernel)
set_option maxRecDepth 20000 in
theorem gX6_firstError_X2_readAll : GoodIn wsX6_firstError (wsV RX6 169 RX2 yX2_readAll wsX2_readAll) := goodIn_app (goodIn_of _ (by decide +kernel)) ggX6_firstError_X2_readAll
theorem dX6_firstError_0 : decode cX6_firstError 0 = .ok (.aload_n 0, 1) := by decide +kernel
theorem dX6_firstError_1 : decode cX6_firstError 1 = .ok (.getfield 33, 3) := by decide +kernel
theorem dX6_firstError_4 : decode cX6_firstError 4 = .ok (.invokevirtual 169, 3) := by decide +kernel
theorem dX6_firstError_7 : decode cX6_firstError 7 = .ok (.ireturn, 1) := by decide +kernel
set_option maxRecDepth 20000 in
theorem ggX6_punchAll_X2_readRow : GoodIn wsX6_punchAll wsX2_readRow := goodIn_r _ [13, 14, 15, 16, 17, 18, 19, 12, 20, 21, 22, 23, 24, 25, 26, 27, 28, 29, 30, 31, 32, 33, 34, 35, 36, 37, 38, 39, 40, 41, 42, 43, 44, 45, 46, 47, 48, 49, 50, 51, 52, 53, 159, 160, 161, 162, 163, 164, 165, 166, 167, 168] (by decide +kernel) (by decide +kernel)
set_option maxRecDepth 20000 in
theorem gX6_punchAll_X2_readRow : GoodIn wsX6_punchAll (wsV RX6 172 RX2 yX2_readRow wsX2_readRow) := goodIn_app (goodIn_of _ (by decide +kernel)) ggX6_punchAll_X2_readRow
set_option maxRecDepth 20000 in
theorem ggX6_punchAll_X2_allFit : GoodIn wsX6_punchAll wsX2_allFit := goodIn_r _ [57, 21, 51, 53, 58, 59, 60, 159, 160, 161, 162, 163, 164, 165, 166, 167, 168] (by decide +kernel) (by decide +kernel)
set_option maxRecDepth 20000 in
theorem gX6_punchAll_X2_allFit : GoodIn wsX6_punchAll (wsV RX6 177 RX2 yX2_allFit wsX2_allFit) := goodIn_app (goodIn_of _ (by decide +kernel)) ggX6_punchAll_X2_allFit
set_option maxRecDepth 20000 in
theorem ggX6_punchAll_X4_keep : GoodIn wsX6_punchAll wsX4_keep := goodIn_r _ [65, 66, 67, 68, 69, 70, 64, 71, 72, 73, 74, 75, 76, 77, 78, 79, 80, 81, 82, 83, 84, 85, 86, 87, 88, 89, 90, 91, 92, 93, 94, 95, 169, 170, 171, 172, 173, 174, 175, 176, 177, 178, 179] (by decide +kernel) (by decide +kernel)
set_option maxRecDepth 20000 in
theorem gX6_punchAll_X4_keep : GoodIn wsX6_punchAll (wsV RX6 68 RX4 yX4_keep wsX4_keep) := goodIn_app (goodIn_of _ (by decide +kernel)) ggX6_punchAll_X4_keep
set_option maxRecDepth 20000 in
theorem ggX6_punchAll_X2_cutAll : GoodIn wsX6_punchAll wsX2_cutAll := goodIn_r _ [99, 21, 51, 52, 53, 100, 101, 102, 75, 103, 86, 104, 105, 106, 107, 77, 82, 108, 59, 109, 159, 160, 161, 162, 163, 164, 165, 166, 167, 168, 171, 172, 173, 174, 175, 176, 177] (by decide +kernel) (by decide +kernel)
set_option maxRecDepth 20000 in
theorem gX6_punchAll_X2_cutAll : GoodIn wsX6_punchAll (wsV RX6 182 RX2 yX2_cutAll wsX2_cutAll) := goodIn_app (goodIn_of _ (by decide +kernel)) ggX6_punchAll_X2_cutAll
set_option maxRecDepth 20000 in
theorem ggX6_punchAll_X2_empty : GoodIn wsX6_punchAll wsX2_empty := goodIn_r _ [113, 14, 159, 160, 161, 162, 163, 164, 165, 166, 167, 168] (by decide +kernel) (by decide +kernel)
set_option maxRecDepth 20000 in
theorem gX6_punchAll_X2_empty : GoodIn wsX6_punchAll (wsV RX6 166 RX2 yX2_empty wsX2_empty) := goodIn_app (goodIn_of _ (by decide +kernel)) ggX6_punchAll_X2_empty
set_option maxRecDepth 20000 in
theorem ggX6_punchAll_X1_listenTo : GoodIn wsX6_punchAll wsX1_listenTo := goodIn_r _ [118, 119, 120, 121, 122, 123, 124, 125, 75, 126, 83, 108, 59, 109, 127, 128, 129, 130, 77, 82, 131, 132, 133, 134, 135, 136, 137, 138, 139, 140, 91, 141, 93, 95, 142, 143, 144, 117, 145, 146, 147, 148, 149, 150, 151, 152, 153, 180, 181, 182, 183, 171, 172, 173, 174, 175, 176, 177, 178, 179] (by decide +kernel) (by decide +kernel)
set_option maxRecDepth 20000 in
theorem gX6_punchAll_X1_listenTo : GoodIn wsX6_punchAll (wsV RX6 76 RX1 yX1_listenTo wsX1_listenTo) := goodIn_app (goodIn_of _ (by decide +kernel)) ggX6_punchAll_X1_listenTo
theorem dX6_punchAll_0 : decode cX6_punchAll 0 = .ok (.aload_n 0, 1) := by decide +kernel
theorem dX6_punchAll_1 : decode cX6_punchAll 1 = .ok (.getfield 33, 3) := by decide +kernel
theorem dX6_punchAll_4 : decode cX6_punchAll 4 = .ok (.invokevirtual 172, 3) := by decide +kernel
theorem dX6_punchAll_7 : decode cX6_punchAll 7 = .ok (.ifCond .ne 13, 3) := by decide +kernel
theorem dX6_punchAll_10 : decode cX6_punchAll 10 = .ok (.new 123, 3) := by decide +kernel
theorem dX6_punchAll_13 : decode cX6_punchAll 13 = .ok (.dup, 1) := by decide +kernel
theorem dX6_punchAll_14 : decode cX6_punchAll 14 = .ok (.ldc 175, 2) := by decide +kernel
theorem dX6_punchAll_16 : decode cX6_punchAll 16 = .ok (.invokespecial 127, 3) := by decide +kernel
theorem dX6_punchAll_19 : decode cX6_punchAll 19 = .ok (.athrow, 1) := by decide +kernel
theorem dX6_punchAll_20 : decode cX6_punchAll 20 = .ok (.aload_n 0, 1) := by decide +kernel
theorem dX6_punchAll_21 : decode cX6_punchAll 21 = .ok (.getfield 33, 3) := by decide +kernel
theorem dX6_punchAll_24 : decode cX6_punchAll 24 = .ok (.invokevirtual 177, 3) := by decide +kernel
theorem dX6_punchAll_27 : decode cX6_punchAll 27 = .ok (.ifCond .ne 13, 3) := by decide +kernel
theorem dX6_punchAll_30 : decode cX6_punchAll 30 = .ok (.new 63, 3) := by decide +kernel
theorem dX6_punchAll_33 : decode cX6_punchAll 33 = .ok (.dup, 1) := by decide +kernel
theorem dX6_punchAll_34 : decode cX6_punchAll 34 = .ok (.ldc 180, 2) := by decide +kernel
theorem dX6_punchAll_36 : decode cX6_punchAll 36 = .ok (.invokespecial 67, 3) := by decide +kernel
theorem dX6_punchAll_39 : decode cX6_punchAll 39 = .ok (.athrow, 1) := by decide +kernel
theorem dX6_punchAll_40 : decode cX6_punchAll 40 = .ok (.aload_n 0, 1) := by decide +kernel
theorem dX6_punchAll_41 : decode cX6_punchAll 41 = .ok (.getfield 26, 3) := by decide +kernel
theorem dX6_punchAll_44 : decode cX6_punchAll 44 = .ok (.aload_n 0, 1) := by decide +kernel
theorem dX6_punchAll_45 : decode cX6_punchAll 45 = .ok (.getfield 12, 3) := by decide +kernel
theorem dX6_punchAll_48 : decode cX6_punchAll 48 = .ok (.invokevirtual 68, 3) := by decide +kernel
theorem dX6_punchAll_51 : decode cX6_punchAll 51 = .ok (.aload_n 0, 1) := by decide +kernel
theorem dX6_punchAll_52 : decode cX6_punchAll 52 = .ok (.getfield 33, 3) := by decide +kernel
theorem dX6_punchAll_55 : decode cX6_punchAll 55 = .ok (.aload_n 0, 1) := by decide +kernel
theorem dX6_punchAll_56 : decode cX6_punchAll 56 = .ok (.getfield 12, 3) := by decide +kernel
theorem dX6_punchAll_59 : decode cX6_punchAll 59 = .ok (.invokevirtual 182, 3) := by decide +kernel
theorem dX6_punchAll_62 : decode cX6_punchAll 62 = .ok (.istore_n 1, 1) := by decide +kernel
theorem dX6_punchAll_63 : decode cX6_punchAll 63 = .ok (.aload_n 0, 1) := by decide +kernel
theorem dX6_punchAll_64 : decode cX6_punchAll 64 = .ok (.getfield 33, 3) := by decide +kernel
theorem dX6_punchAll_67 : decode cX6_punchAll 67 = .ok (.invokevirtual 166, 3) := by decide +kernel
theorem dX6_punchAll_70 : decode cX6_punchAll 70 = .ok (.pop, 1) := by decide +kernel
theorem dX6_punchAll_71 : decode cX6_punchAll 71 = .ok (.aload_n 0, 1) := by decide +kernel
theorem dX6_punchAll_72 : decode cX6_punchAll 72 = .ok (.getfield 19, 3) := by decide +kernel
theorem dX6_punchAll_75 : decode cX6_punchAll 75 = .ok (.aload_n 0, 1) := by decide +kernel
theorem dX6_punchAll_76 : decode cX6_punchAll 76 = .ok (.getfield 12, 3) := by decide +kernel
theorem dX6_punchAll_79 : decode cX6_punchAll 79 = .ok (.invokevirtual 76, 3) := by decide +kernel
theorem dX6_punchAll_82 : decode cX6_punchAll 82 = .ok (.iload_n 1, 1) := by decide +kernel
theorem dX6_punchAll_83 : decode cX6_punchAll 83 = .ok (.ireturn, 1) := by decide +kernel
set_option maxRecDepth 20000 in
theorem ggX6_undo_X4_size : GoodIn wsX6_undo wsX4_size := goodIn_r _ [10, 11, 89, 90] (by decide +kernel) (by decide +kernel)
set_option maxRecDepth 20000 in
theorem gX6_undo_X4_size : GoodIn wsX6_undo (wsV RX6 186 RX4 yX4_size wsX4_size) := goodIn_app (goodIn_of _ (by decide +kernel)) ggX6_undo_X4_size
set_option maxRecDepth 20000 in
theorem ggX6_undo_X4_giveBack : GoodIn wsX6_undo wsX4_giveBack := goodIn_r _ [15, 11, 16, 17, 18, 19, 20, 21, 22, 23, 24, 25, 26, 27, 28, 29, 30, 31, 32, 33, 34, 35, 36, 37, 38, 39, 40, 89, 90, 91, 92, 93, 94, 95, 96, 97, 98, 99] (by decide +kernel) (by decide +kernel)
set_option maxRecDepth 20000 in
theorem gX6_undo_X4_giveBack : GoodIn wsX6_undo (wsV RX6 191 RX4 yX4_giveBack wsX4_giveBack) := goodIn_app (goodIn_of _ (by decide +kernel)) ggX6_undo_X4_giveBack
set_option maxRecDepth 20000 in
theorem ggX6_undo_X1_listenTo : GoodIn wsX6_undo wsX1_listenTo := goodIn_r _ [45, 46, 47, 48, 49, 50, 51, 52, 20, 53, 28, 54, 55, 56, 57, 58, 59, 60, 22, 27, 61, 62, 63, 64, 65, 66, 67, 68, 69, 70, 36, 71, 38, 40, 72, 73, 74, 44, 75, 76, 77, 78, 79, 80, 81, 82, 83, 100, 101, 102, 103, 91, 92, 93, 94, 95, 96, 97, 98, 99] (by decide +kernel) (by decide +kernel)
set_option maxRecDepth 20000 in
theorem gX6_undo_X1_listenTo : GoodIn wsX6_undo (wsV RX6 76 RX1 yX1_listenTo wsX1_listenTo) := goodIn_app (goodIn_of _ (by decide +kernel)) ggX6_undo_X1_listenTo
theorem dX6_undo_0 : decode cX6_undo 0 = .ok (.aload_n 0, 1) := by decide +kernel
theorem dX6_undo_1 : decode cX6_undo 1 = .ok (.getfield 26, 3) := by decide +kernel
theorem dX6_undo_4 : decode cX6_undo 4 = .ok (.invokevirtual 186, 3) := by decide +kernel
theorem dX6_undo_7 : decode cX6_undo 7 = .ok (.ifCond .ne 13, 3) := by decide +kernel
theorem dX6_undo_10 : decode cX6_undo 10 = .ok (.new 63, 3) := by decide +kernel
theorem dX6_undo_13 : decode cX6_undo 13 = .ok (.dup, 1) := by decide +kernel
theorem dX6_undo_14 : decode cX6_undo 14 = .ok (.ldc 189, 2) := by decide +kernel
theorem dX6_undo_16 : decode cX6_undo 16 = .ok (.invokespecial 67, 3) := by decide +kernel
theorem dX6_undo_19 : decode cX6_undo 19 = .ok (.athrow, 1) := by decide +kernel
theorem dX6_undo_20 : decode cX6_undo 20 = .ok (.aload_n 0, 1) := by decide +kernel
theorem dX6_undo_21 : decode cX6_undo 21 = .ok (.getfield 26, 3) := by decide +kernel
theorem dX6_undo_24 : decode cX6_undo 24 = .ok (.aload_n 0, 1) := by decide +kernel
theorem dX6_undo_25 : decode cX6_undo 25 = .ok (.getfield 12, 3) := by decide +kernel
theorem dX6_undo_28 : decode cX6_undo 28 = .ok (.invokevirtual 191, 3) := by decide +kernel
theorem dX6_undo_31 : decode cX6_undo 31 = .ok (.istore_n 1, 1) := by decide +kernel
theorem dX6_undo_32 : decode cX6_undo 32 = .ok (.aload_n 0, 1) := by decide +kernel
theorem dX6_undo_33 : decode cX6_undo 33 = .ok (.getfield 19, 3) := by decide +kernel
theorem dX6_undo_36 : decode cX6_undo 36 = .ok (.aload_n 0, 1) := by decide +kernel
theorem dX6_undo_37 : decode cX6_undo 37 = .ok (.getfield 12, 3) := by decide +kernel
theorem dX6_undo_40 : decode cX6_undo 40 = .ok (.invokevirtual 76, 3) := by decide +kernel
theorem dX6_undo_43 : decode cX6_undo 43 = .ok (.iload_n 1, 1) := by decide +kernel
theorem dX6_undo_44 : decode cX6_undo 44 = .ok (.ireturn, 1) := by decide +kernel
set_option maxRecDepth 20000 in
theorem ggX6_place_X6_isStep : GoodIn wsX6_place wsX6_isStep := goodIn_r _ [11] (by decide +kernel) (by decide +kernel)
set_option maxRecDepth 20000 in
theorem gX6_place_X6_isStep : GoodIn wsX6_place (va_wsS RX6 44 yX6_isStep wsX6_isStep) := goodIn_app (goodIn_of _ (by decide +kernel)) ggX6_place_X6_isStep
set_option maxRecDepth 20000 in
theorem ggX6_place_X6_needTrack : GoodIn wsX6_place wsX6_needTrack := goodIn_ca (goodIn_r _ [14, 1, 2] (by decide +kernel) (by decide +kernel)) (goodIn_sub (fun _ h => List.mem_cons_of_mem _ (List.mem_append_left _ (List.mem_append_right _ h))) (by decide +kernel))
set_option maxRecDepth 20000 in
theorem gX6_place_X6_needTrack : GoodIn wsX6_place (va_wsS RX6 79 yX6_needTrack wsX6_needTrack) := goodIn_app (goodIn_of _ (by decide +kernel)) ggX6_place_X6_needTrack
set_option maxRecDepth 20000 in
theorem ggX6_place_X6_needWhat : GoodIn wsX6_place wsX6_needWhat := goodIn_ca (goodIn_r _ [17, 18, 19] (by decide +kernel) (by decide +kernel)) (goodIn_sub (fun _ h => List.mem_cons_of_mem _ (List.mem_append_right _ h)) (by decide +kernel))
set_option maxRecDepth 20000 in
theorem gX6_place_X6_needWhat : GoodIn wsX6_place (va_wsS RX6 196 yX6_needWhat wsX6_needWhat) := goodIn_app (goodIn_of _ (by decide +kernel)) ggX6_place_X6_needWhat
theorem dX6_place_0 : decode cX6_place 0 = .ok (.iload_n 1, 1) := by decide +kernel
theorem dX6_place_1 : decode cX6_place 1 = .ok (.invokestatic 44, 3) := by decide +kernel
theorem dX6_place_4 : decode cX6_place 4 = .ok (.ifCond .ne 13, 3) := by decide +kernel
theorem dX6_place_7 : decode cX6_place 7 = .ok (.new 48, 3) := by decide +kernel
theorem dX6_place_10 : decode cX6_place 10 = .ok (.dup, 1) := by decide +kernel
theorem dX6_place_11 : decode cX6_place 11 = .ok (.ldc 194, 2) := by decide +kernel
theorem dX6_place_13 : decode cX6_place 13 = .ok (.invokespecial 52, 3) := by decide +kernel
theorem dX6_place_16 : decode cX6_place 16 = .ok (.athrow, 1) := by decide +kernel
theorem dX6_place_17 : decode cX6_place 17 = .ok (.iload_n 2, 1) := by decide +kernel
theorem dX6_place_18 : decode cX6_place 18 = .ok (.invokestatic 79, 3) := by decide +kernel
theorem dX6_place_21 : decode cX6_place 21 = .ok (.iload_n 3, 1) := by decide +kernel
theorem dX6_place_22 : decode cX6_place 22 = .ok (.iconst 2, 1) := by decide +kernel
theorem dX6_place_23 : decode cX6_place 23 = .ok (.invokestatic 196, 3) := by decide +kernel
theorem dX6_place_26 : decode cX6_place 26 = .ok (.iload_n 3, 1) := by decide +kernel
theorem dX6_place_27 : decode cX6_place 27 = .ok (.ifCond .ne 17, 3) := by decide +kernel
theorem dX6_place_30 : decode cX6_place 30 = .ok (.aload_n 0, 1) := by decide +kernel
theorem dX6_place_31 : decode cX6_place 31 = .ok (.getfield 12, 3) := by decide +kernel
theorem dX6_place_34 : decode cX6_place 34 = .ok (.getfield 199, 3) := by decide +kernel
theorem dX6_place_37 : decode cX6_place 37 = .ok (.iload_n 1, 1) := by decide +kernel
theorem dX6_place_38 : decode cX6_place 38 = .ok (.iaload, 1) := by decide +kernel
theorem dX6_place_39 : decode cX6_place 39 = .ok (.iload_n 2, 1) := by decide +kernel
theorem dX6_place_40 : decode cX6_place 40 = .ok (.ishr, 1) := by decide +kernel
theorem dX6_place_41 : decode cX6_place 41 = .ok (.iconst 1, 1) := by decide +kernel
theorem dX6_place_42 : decode cX6_place 42 = .ok (.iand, 1) := by decide +kernel
theorem dX6_place_43 : decode cX6_place 43 = .ok (.ireturn, 1) := by decide +kernel
theorem dX6_place_44 : decode cX6_place 44 = .ok (.iload_n 3, 1) := by decide +kernel
theorem dX6_place_45 : decode cX6_place 45 = .ok (.iconst 1, 1) := by decide +kernel
theorem dX6_place_46 : decode cX6_place 46 = .ok (.if_icmp .ne 17, 3) := by decide +kernel
theorem dX6_place_49 : decode cX6_place 49 = .ok (.aload_n 0, 1) := by decide +kernel
theorem dX6_place_50 : decode cX6_place 50 = .ok (.getfield 12, 3) := by decide +kernel
theorem dX6_place_53 : decode cX6_place 53 = .ok (.getfield 203, 3) := by decide +kernel
theorem dX6_place_56 : decode cX6_place 56 = .ok (.iload_n 1, 1) := by decide +kernel
theorem dX6_place_57 : decode cX6_place 57 = .ok (.iaload, 1) := by decide +kernel
theorem dX6_place_58 : decode cX6_place 58 = .ok (.iload_n 2, 1) := by decide +kernel
theorem dX6_place_59 : decode cX6_place 59 = .ok (.ishr, 1) := by decide +kernel
theorem dX6_place_60 : decode cX6_place 60 = .ok (.iconst 1, 1) := by decide +kernel
theorem dX6_place_61 : decode cX6_place 61 = .ok (.iand, 1) := by decide +kernel
theorem dX6_place_62 : decode cX6_place 62 = .ok (.ireturn, 1) := by decide +kernel
theorem dX6_place_63 : decode cX6_place 63 = .ok (.iload_n 2, 1) := by decide +kernel
theorem dX6_place_64 : decode cX6_place 64 = .ok (.iconst 2, 1) := by decide +kernel
theorem dX6_place_65 : decode cX6_place 65 = .ok (.isub, 1) := by decide +kernel
theorem dX6_place_66 : decode cX6_place 66 = .ok (.aload_n 0, 1) := by decide +kernel
theorem dX6_place_67 : decode cX6_place 67 = .ok (.getfield 12, 3) := by decide +kernel
theorem dX6_place_70 : decode cX6_place 70 = .ok (.getfield 206, 3) := by decide +kernel
theorem dX6_place_73 : decode cX6_place 73 = .ok (.iload_n 1, 1) := by decide +kernel
theorem dX6_place_74 : decode cX6_place 74 = .ok (.iaload, 1) := by decide +kernel
theorem dX6_place_75 : decode cX6_place 75 = .ok (.isub, 1) := by decide +kernel
theorem dX6_place_76 : decode cX6_place 76 = .ok (.aload_n 0, 1) := by decide +kernel
theorem dX6_place_77 : decode cX6_place 77 = .ok (.getfield 12, 3) := by decide +kernel
theorem dX6_place_80 : decode cX6_place 80 = .ok (.getfield 209, 3) := by decide +kernel
theorem dX6_place_83 : decode cX6_place 83 = .ok (.iload_n 1, 1) := by decide +kernel
theorem dX6_place_84 : decode cX6_place 84 = .ok (.iaload, 1) := by decide +kernel
theorem dX6_place_85 : decode cX6_place 85 = .ok (.isub, 1) := by decide +kernel
theorem dX6_place_86 : decode cX6_place 86 = .ok (.istore 4, 2) := by decide +kernel
theorem dX6_place_88 : decode cX6_place 88 = .ok (.iload 4, 2) := by decide +kernel
theorem dX6_place_90 : decode cX6_place 90 = .ok (.ifCond .ne 6, 3) := by decide +kernel
theorem dX6_place_93 : decode cX6_place 93 = .ok (.bipush (-2), 2) := by decide +kernel
theorem dX6_place_95 : decode cX6_place 95 = .ok (.ireturn, 1) := by decide +kernel
theorem dX6_place_96 : decode cX6_place 96 = .ok (.iload 4, 2) := by decide +kernel
theorem dX6_place_98 : decode cX6_place 98 = .ok (.ifCond .le 17, 3) := by decide +kernel
theorem dX6_place_101 : decode cX6_place 101 = .ok (.iload 4, 2) := by decide +kernel
theorem dX6_place_103 : decode cX6_place 103 = .ok (.bipush 21, 2) := by decide +kernel
theorem dX6_place_105 : decode cX6_place 105 = .ok (.if_icmp .ge 10, 3) := by decide +kernel
theorem dX6_place_108 : decode cX6_place 108 = .ok (.iload 4, 2) := by decide +kernel
theorem dX6_place_110 : decode cX6_place 110 = .ok (.iconst 1, 1) := by decide +kernel
theorem dX6_place_111 : decode cX6_place 111 = .ok (.isub, 1) := by decide +kernel
theorem dX6_place_112 : decode cX6_place 112 = .ok (.goto 4, 3) := by decide +kernel
theorem dX6_place_115 : decode cX6_place 115 = .ok (.iconst (-1), 1) := by decide +kernel
theorem dX6_place_116 : decode cX6_place 116 = .ok (.ireturn, 1) := by decide +kernel
set_option maxRecDepth 20000 in
theorem ggX6_step_X6_isStep : GoodIn wsX6_step wsX6_isStep := goodIn_r _ [6] (by decide +kernel) (by decide +kernel)
set_option maxRecDepth 20000 in
theorem gX6_step_X6_isStep : GoodIn wsX6_step (va_wsS RX6 44 yX6_isStep wsX6_isStep) := goodIn_app (goodIn_of _ (by decide +kernel)) ggX6_step_X6_isStep
set_option maxRecDepth 20000 in
theorem ggX6_step_X6_needWhat : GoodIn wsX6_step wsX6_needWhat := goodIn_ca (goodIn_r _ [9, 10, 11] (by decide +kernel) (by decide +kernel)) (goodIn_sub (fun _ h => List.mem_cons_of_mem _ (List.mem_append_right _ h)) (by decide +kernel))
set_option maxRecDepth 20000 in
theorem gX6_step_X6_needWhat : GoodIn wsX6_step (va_wsS RX6 196 yX6_needWhat wsX6_needWhat) := goodIn_app (goodIn_of _ (by decide +kernel)) ggX6_step_X6_needWhat
set_option maxRecDepth 20000 in
theorem ggX6_step_X6_ofStep : GoodIn wsX6_step wsX6_ofStep := goodIn_r _ [15, 16, 17, 18, 19, 20, 21, 22, 23, 3, 4, 5, 6, 24, 25, 26, 27, 28, 29, 30, 31, 32, 33, 34, 35, 36, 37, 38, 39, 40, 41, 42, 43, 44, 45, 46, 47, 48, 49, 50, 51, 52, 53, 54, 55, 56, 57] (by decide +kernel) (by decide +kernel)
set_option maxRecDepth 20000 in
theorem gX6_step_X6_ofStep : GoodIn wsX6_step (wsV RX6 212 RX6 yX6_ofStep wsX6_ofStep) := goodIn_app (goodIn_of _ (by decide +kernel)) ggX6_step_X6_ofStep
theorem dX6_step_0 : decode cX6_step 0 = .ok (.iload_n 1, 1) := by decide +kernel
theorem dX6_step_1 : decode cX6_step 1 = .ok (.invokestatic 44, 3) := by decide +kernel
theorem dX6_step_4 : decode cX6_step 4 = .ok (.ifCond .ne 13, 3) := by decide +kernel
theorem dX6_step_7 : decode cX6_step 7 = .ok (.new 48, 3) := by decide +kernel
theorem dX6_step_10 : decode cX6_step 10 = .ok (.dup, 1) := by decide +kernel
theorem dX6_step_11 : decode cX6_step 11 = .ok (.ldc 194, 2) := by decide +kernel
theorem dX6_step_13 : decode cX6_step 13 = .ok (.invokespecial 52, 3) := by decide +kernel
theorem dX6_step_16 : decode cX6_step 16 = .ok (.athrow, 1) := by decide +kernel
theorem dX6_step_17 : decode cX6_step 17 = .ok (.iload_n 2, 1) := by decide +kernel
theorem dX6_step_18 : decode cX6_step 18 = .ok (.bipush 6, 2) := by decide +kernel
theorem dX6_step_20 : decode cX6_step 20 = .ok (.invokestatic 196, 3) := by decide +kernel
theorem dX6_step_23 : decode cX6_step 23 = .ok (.aload_n 0, 1) := by decide +kernel
theorem dX6_step_24 : decode cX6_step 24 = .ok (.iload_n 1, 1) := by decide +kernel
theorem dX6_step_25 : decode cX6_step 25 = .ok (.iload_n 2, 1) := by decide +kernel
theorem dX6_step_26 : decode cX6_step 26 = .ok (.invokevirtual 212, 3) := by decide +kernel
theorem dX6_step_29 : decode cX6_step 29 = .ok (.ireturn, 1) := by decide +kernel
set_option maxRecDepth 20000 in
theorem ggX6_played_X0_firstStepOf : GoodIn wsX6_played wsX0_firstStepOf := goodIn_r _ [9, 10, 11, 12, 13, 14, 15, 16, 17, 18, 74, 75] (by decide +kernel) (by decide +kernel)
set_option maxRecDepth 20000 in
theorem gX6_played_X0_firstStepOf : GoodIn wsX6_played (wsV RX6 216 RX0 yX0_firstStepOf wsX0_firstStepOf) := goodIn_app (goodIn_of _ (by decide +kernel)) ggX6_played_X0_firstStepOf
set_option maxRecDepth 20000 in
theorem ggX6_played_X6_needWhat : GoodIn wsX6_played wsX6_needWhat := goodIn_ca (goodIn_r _ [22, 23, 24] (by decide +kernel) (by decide +kernel)) (goodIn_sub (fun _ h => List.mem_cons_of_mem _ (List.mem_append_right _ h)) (by decide +kernel))
set_option maxRecDepth 20000 in
theorem gX6_played_X6_needWhat : GoodIn wsX6_played (va_wsS RX6 196 yX6_needWhat wsX6_needWhat) := goodIn_app (goodIn_of _ (by decide +kernel)) ggX6_played_X6_needWhat
set_option maxRecDepth 20000 in
theorem ggX6_played_X0_voiceOf : GoodIn wsX6_played wsX0_voiceOf := goodIn_r _ [28, 10, 11, 29, 6, 7, 8, 9, 12, 13, 14, 15, 16, 17, 18, 30, 31, 32, 33, 34, 21, 35, 74, 75] (by decide +kernel) (by decide +kernel)
set_option maxRecDepth 20000 in
theorem gX6_played_X0_voiceOf : GoodIn wsX6_played (wsV RX6 221 RX0 yX0_voiceOf wsX0_voiceOf) := goodIn_app (goodIn_of _ (by decide +kernel)) ggX6_played_X0_voiceOf
set_option maxRecDepth 20000 in
theorem ggX6_played_X6_ofPlayed : GoodIn wsX6_played wsX6_ofPlayed := goodIn_r _ [39, 3, 4, 40, 41, 42, 43, 44, 8, 45, 46, 47, 48, 49, 50, 51, 52, 53, 54, 31, 32, 33, 10, 34, 21, 35, 55, 56, 57, 58, 59, 60, 61, 62, 63, 30, 64, 65, 66, 67, 68, 69, 70, 71, 72, 73, 76, 77, 78, 79, 80, 81, 82, 74, 75] (by decide +kernel) (by decide +kernel)
set_option maxRecDepth 20000 in
theorem gX6_played_X6_ofPlayed : GoodIn wsX6_played (wsV RX6 224 RX6 yX6_ofPlayed wsX6_ofPlayed) := goodIn_app (goodIn_of _ (by decide +kernel)) ggX6_played_X6_ofPlayed
theorem dX6_played_0 : decode cX6_played 0 = .ok (.aload_n 0, 1) := by decide +kernel
theorem dX6_played_1 : decode cX6_played 1 = .ok (.getfield 19, 3) := by decide +kernel
theorem dX6_played_4 : decode cX6_played 4 = .ok (.getfield 143, 3) := by decide +kernel
theorem dX6_played_7 : decode cX6_played 7 = .ok (.iload_n 1, 1) := by decide +kernel
theorem dX6_played_8 : decode cX6_played 8 = .ok (.invokevirtual 216, 3) := by decide +kernel
theorem dX6_played_11 : decode cX6_played 11 = .ok (.istore_n 3, 1) := by decide +kernel
theorem dX6_played_12 : decode cX6_played 12 = .ok (.iload_n 3, 1) := by decide +kernel
theorem dX6_played_13 : decode cX6_played 13 = .ok (.iconst (-1), 1) := by decide +kernel
theorem dX6_played_14 : decode cX6_played 14 = .ok (.if_icmp .ne 13, 3) := by decide +kernel
theorem dX6_played_17 : decode cX6_played 17 = .ok (.new 48, 3) := by decide +kernel
theorem dX6_played_20 : decode cX6_played 20 = .ok (.dup, 1) := by decide +kernel
theorem dX6_played_21 : decode cX6_played 21 = .ok (.ldc 219, 2) := by decide +kernel
theorem dX6_played_23 : decode cX6_played 23 = .ok (.invokespecial 52, 3) := by decide +kernel
theorem dX6_played_26 : decode cX6_played 26 = .ok (.athrow, 1) := by decide +kernel
theorem dX6_played_27 : decode cX6_played 27 = .ok (.iload_n 2, 1) := by decide +kernel
theorem dX6_played_28 : decode cX6_played 28 = .ok (.iconst 5, 1) := by decide +kernel
theorem dX6_played_29 : decode cX6_played 29 = .ok (.invokestatic 196, 3) := by decide +kernel
theorem dX6_played_32 : decode cX6_played 32 = .ok (.aload_n 0, 1) := by decide +kernel
theorem dX6_played_33 : decode cX6_played 33 = .ok (.aload_n 0, 1) := by decide +kernel
theorem dX6_played_34 : decode cX6_played 34 = .ok (.getfield 19, 3) := by decide +kernel
theorem dX6_played_37 : decode cX6_played 37 = .ok (.getfield 143, 3) := by decide +kernel
theorem dX6_played_40 : decode cX6_played 40 = .ok (.iload_n 1, 1) := by decide +kernel
theorem dX6_played_41 : decode cX6_played 41 = .ok (.invokevirtual 221, 3) := by decide +kernel
theorem dX6_played_44 : decode cX6_played 44 = .ok (.iload_n 3, 1) := by decide +kernel
theorem dX6_played_45 : decode cX6_played 45 = .ok (.iload_n 2, 1) := by decide +kernel
theorem dX6_played_46 : decode cX6_played 46 = .ok (.invokevirtual 224, 3) := by decide +kernel
theorem dX6_played_49 : decode cX6_played 49 = .ok (.ireturn, 1) := by decide +kernel
set_option maxRecDepth 20000 in
theorem ggX6_tune_X0_firstStepOf : GoodIn wsX6_tune wsX0_firstStepOf := goodIn_r _ [9, 10, 11, 12, 13, 14, 15, 16, 17, 18, 64, 65] (by decide +kernel) (by decide +kernel)
set_option maxRecDepth 20000 in
theorem gX6_tune_X0_firstStepOf : GoodIn wsX6_tune (wsV RX6 216 RX0 yX0_firstStepOf wsX0_firstStepOf) := goodIn_app (goodIn_of _ (by decide +kernel)) ggX6_tune_X0_firstStepOf
set_option maxRecDepth 20000 in
theorem ggX6_tune_X6_needWhat : GoodIn wsX6_tune wsX6_needWhat := goodIn_ca (goodIn_r _ [22, 23, 24] (by decide +kernel) (by decide +kernel)) (goodIn_sub (fun _ h => List.mem_cons_of_mem _ (List.mem_append_right _ h)) (by decide +kernel))
set_option maxRecDepth 20000 in
theorem gX6_tune_X6_needWhat : GoodIn wsX6_tune (va_wsS RX6 196 yX6_needWhat wsX6_needWhat) := goodIn_app (goodIn_of _ (by decide +kernel)) ggX6_tune_X6_needWhat
set_option maxRecDepth 20000 in
theorem ggX6_tune_X0_voiceOf : GoodIn wsX6_tune wsX0_voiceOf := goodIn_r _ [28, 10, 11, 29, 6, 7, 8, 9, 12, 13, 14, 15, 16, 17, 18, 30, 31, 32, 33, 34, 21, 35, 64, 65] (by decide +kernel) (by decide +kernel)
set_option maxRecDepth 20000 in
theorem gX6_tune_X0_voiceOf : GoodIn wsX6_tune (wsV RX6 221 RX0 yX0_voiceOf wsX0_voiceOf) := goodIn_app (goodIn_of _ (by decide +kernel)) ggX6_tune_X0_voiceOf
set_option maxRecDepth 20000 in
theorem ggX6_tune_X6_ofTune : GoodIn wsX6_tune wsX6_ofTune := goodIn_r _ [39, 3, 4, 40, 41, 42, 43, 44, 8, 45, 46, 47, 48, 49, 50, 30, 31, 32, 33, 10, 34, 21, 35, 51, 52, 53, 54, 55, 56, 57, 58, 59, 60, 61, 62, 63, 66, 67, 68, 69, 64, 65] (by decide +kernel) (by decide +kernel)
set_option maxRecDepth 20000 in
theorem gX6_tune_X6_ofTune : GoodIn wsX6_tune (wsV RX6 229 RX6 yX6_ofTune wsX6_ofTune) := goodIn_app (goodIn_of _ (by decide +kernel)) ggX6_tune_X6_ofTune
theorem dX6_tune_0 : decode cX6_tune 0 = .ok (.aload_n 0, 1) := by decide +kernel
theorem dX6_tune_1 : decode cX6_tune 1 = .ok (.getfield 12, 3) := by decide +kernel
theorem dX6_tune_4 : decode cX6_tune 4 = .ok (.getfield 139, 3) := by decide +kernel
theorem dX6_tune_7 : decode cX6_tune 7 = .ok (.iload_n 1, 1) := by decide +kernel
theorem dX6_tune_8 : decode cX6_tune 8 = .ok (.invokevirtual 216, 3) := by decide +kernel
theorem dX6_tune_11 : decode cX6_tune 11 = .ok (.istore_n 3, 1) := by decide +kernel
theorem dX6_tune_12 : decode cX6_tune 12 = .ok (.iload_n 3, 1) := by decide +kernel
theorem dX6_tune_13 : decode cX6_tune 13 = .ok (.iconst (-1), 1) := by decide +kernel
theorem dX6_tune_14 : decode cX6_tune 14 = .ok (.if_icmp .ne 13, 3) := by decide +kernel
theorem dX6_tune_17 : decode cX6_tune 17 = .ok (.new 48, 3) := by decide +kernel
theorem dX6_tune_20 : decode cX6_tune 20 = .ok (.dup, 1) := by decide +kernel
theorem dX6_tune_21 : decode cX6_tune 21 = .ok (.ldc 227, 2) := by decide +kernel
theorem dX6_tune_23 : decode cX6_tune 23 = .ok (.invokespecial 52, 3) := by decide +kernel
theorem dX6_tune_26 : decode cX6_tune 26 = .ok (.athrow, 1) := by decide +kernel
theorem dX6_tune_27 : decode cX6_tune 27 = .ok (.iload_n 2, 1) := by decide +kernel
theorem dX6_tune_28 : decode cX6_tune 28 = .ok (.iconst 3, 1) := by decide +kernel
theorem dX6_tune_29 : decode cX6_tune 29 = .ok (.invokestatic 196, 3) := by decide +kernel
theorem dX6_tune_32 : decode cX6_tune 32 = .ok (.aload_n 0, 1) := by decide +kernel
theorem dX6_tune_33 : decode cX6_tune 33 = .ok (.aload_n 0, 1) := by decide +kernel
theorem dX6_tune_34 : decode cX6_tune 34 = .ok (.getfield 12, 3) := by decide +kernel
theorem dX6_tune_37 : decode cX6_tune 37 = .ok (.getfield 139, 3) := by decide +kernel
theorem dX6_tune_40 : decode cX6_tune 40 = .ok (.iload_n 1, 1) := by decide +kernel
theorem dX6_tune_41 : decode cX6_tune 41 = .ok (.invokevirtual 221, 3) := by decide +kernel
theorem dX6_tune_44 : decode cX6_tune 44 = .ok (.iload_n 3, 1) := by decide +kernel
theorem dX6_tune_45 : decode cX6_tune 45 = .ok (.iload_n 2, 1) := by decide +kernel
theorem dX6_tune_46 : decode cX6_tune 46 = .ok (.invokevirtual 229, 3) := by decide +kernel
theorem dX6_tune_49 : decode cX6_tune 49 = .ok (.ireturn, 1) := by decide +kernel
set_option maxRecDepth 20000 in
theorem ggX6_count_X6_needWhat : GoodIn wsX6_count wsX6_needWhat := goodIn_ca (goodIn_r _ [4, 5, 6] (by decide +kernel) (by decide +kernel)) (goodIn_sub (fun _ h => List.mem_cons_of_mem _ (List.mem_append_right _ h)) (by decide +kernel))
set_option maxRecDepth 20000 in
theorem gX6_count_X6_needWhat : GoodIn wsX6_count (va_wsS RX6 196 yX6_needWhat wsX6_needWhat) := goodIn_app (goodIn_of _ (by decide +kernel)) ggX6_count_X6_needWhat
set_option maxRecDepth 20000 in
theorem ggX6_count_X6_counted : GoodIn wsX6_count wsX6_counted := goodIn_r _ [10, 11, 12, 13, 14, 15, 16, 17, 18, 19, 20, 21, 22, 23, 24, 25, 3, 26, 27, 28, 29, 30, 31, 32, 33, 34, 35, 36, 37, 38, 39, 40, 41, 42, 43, 44, 45, 46, 47, 48, 49, 50, 51, 52, 53, 54, 55, 56, 57, 58, 59, 60, 61, 62, 63, 64, 65, 66, 67, 68, 69, 70, 71, 72, 73, 74, 75, 76, 77, 78, 79, 80, 81, 82, 83, 84, 85, 86, 87, 88, 89, 90, 91, 92, 93, 94, 95, 96, 97, 98, 99, 100, 101, 102, 103, 104, 105, 106, 107, 108, 109, 110, 111, 112, 113, 114, 115, 116, 117, 118, 119, 120, 121, 122, 123, 124, 125, 126, 127, 128, 129, 130, 131] (by decide +kernel) (by decide +kernel)
set_option maxRecDepth 20000 in
theorem gX6_count_X6_counted : GoodIn wsX6_count (wsV RX6 232 RX6 yX6_counted wsX6_counted) := goodIn_app (goodIn_of _ (by decide +kernel)) ggX6_count_X6_counted
theorem dX6_count_0 : decode cX6_count 0 = .ok (.iload_n 1, 1) := by decide +kernel
theorem dX6_count_1 : decode cX6_count 1 = .ok (.bipush 14, 2) := by decide +kernel
theorem dX6_count_3 : decode cX6_count 3 = .ok (.invokestatic 196, 3) := by decide +kernel
theorem dX6_count_6 : decode cX6_count 6 = .ok (.aload_n 0, 1) := by decide +kernel
theorem dX6_count_7 : decode cX6_count 7 = .ok (.iload_n 1, 1) := by decide +kernel
theorem dX6_count_8 : decode cX6_count 8 = .ok (.invokevirtual 232, 3) := by decide +kernel
theorem dX6_count_11 : decode cX6_count 11 = .ok (.ireturn, 1) := by decide +kernel
set_option maxRecDepth 20000 in
theorem ggX6_setting_X6_needSetting : GoodIn wsX6_setting wsX6_needSetting := goodIn_ca (goodIn_r _ [4, 5, 6] (by decide +kernel) (by decide +kernel)) (goodIn_sub (fun _ h => List.mem_cons_of_mem _ (List.mem_append_right _ h)) (by decide +kernel))
set_option maxRecDepth 20000 in
theorem gX6_setting_X6_needSetting : GoodIn wsX6_setting (va_wsS RX6 120 yX6_needSetting wsX6_needSetting) := goodIn_app (goodIn_of _ (by decide +kernel)) ggX6_setting_X6_needSetting
set_option maxRecDepth 20000 in
theorem ggX6_setting_X6_settingOf : GoodIn wsX6_setting wsX6_settingOf := goodIn_r _ [10, 11, 12, 13, 14, 15, 16, 17, 18, 19, 20, 21, 22, 23, 24, 25] (by decide +kernel) (by decide +kernel)
set_option maxRecDepth 20000 in
theorem gX6_setting_X6_settingOf : GoodIn wsX6_setting (wsV RX6 128 RX6 yX6_settingOf wsX6_settingOf) := goodIn_app (goodIn_of _ (by decide +kernel)) ggX6_setting_X6_settingOf
theorem dX6_setting_0 : decode cX6_setting 0 = .ok (.iload_n 1, 1) := by decide +kernel
theorem dX6_setting_1 : decode cX6_setting 1 = .ok (.invokestatic 120, 3) := by decide +kernel
theorem dX6_setting_4 : decode cX6_setting 4 = .ok (.aload_n 0, 1) := by decide +kernel
theorem dX6_setting_5 : decode cX6_setting 5 = .ok (.iload_n 1, 1) := by decide +kernel
theorem dX6_setting_6 : decode cX6_setting 6 = .ok (.invokevirtual 128, 3) := by decide +kernel
theorem dX6_setting_9 : decode cX6_setting 9 = .ok (.ireturn, 1) := by decide +kernel
set_option maxRecDepth 20000 in
theorem ggX6_bestSteer_X6_needSteps : GoodIn wsX6_bestSteer wsX6_needSteps := goodIn_ca (goodIn_ca (goodIn_r _ [9, 10, 11, 12, 13, 14, 15, 8, 16] (by decide +kernel) (by decide +kernel)) (goodIn_sub (fun _ h => List.mem_cons_of_mem _ (List.mem_append_left _ (List.mem_append_right _ h))) (by decide +kernel))) (goodIn_sub (fun _ h => List.mem_cons_of_mem _ (List.mem_append_right _ h)) (by decide +kernel))
set_option maxRecDepth 20000 in
theorem gX6_bestSteer_X6_needSteps : GoodIn wsX6_bestSteer (va_wsS RX6 82 yX6_needSteps wsX6_needSteps) := goodIn_app (goodIn_of _ (by decide +kernel)) ggX6_bestSteer_X6_needSteps
set_option maxRecDepth 20000 in
theorem ggX6_bestSteer_X6_needWhat : GoodIn wsX6_bestSteer wsX6_needWhat := goodIn_ca (goodIn_r _ [19, 12, 13] (by decide +kernel) (by decide +kernel)) (goodIn_sub (fun _ h => List.mem_cons_of_mem _ (List.mem_append_right _ h)) (by decide +kernel))
set_option maxRecDepth 20000 in
theorem gX6_bestSteer_X6_needWhat : GoodIn wsX6_bestSteer (va_wsS RX6 196 yX6_needWhat wsX6_needWhat) := goodIn_app (goodIn_of _ (by decide +kernel)) ggX6_bestSteer_X6_needWhat
set_option maxRecDepth 20000 in
theorem ggX6_bestSteer_X5_findSteer : GoodIn wsX6_bestSteer wsX5_findSteer := goodIn_r _ [24, 25, 26, 27, 28, 29, 30, 31, 32, 33, 34, 35, 36, 15, 8, 16, 37, 38, 39, 40, 41, 42, 43, 44, 45, 46, 47, 48, 49, 50, 51, 52, 23, 53, 54, 55, 56, 57, 58, 59, 60, 61, 62, 63, 64, 65, 66, 67, 68, 69, 70, 71, 72, 73, 74, 80, 81, 82, 83, 84, 85, 86, 87, 88, 89, 90, 91, 92, 93, 94, 95, 96] (by decide +kernel) (by decide +kernel)
set_option maxRecDepth 20000 in
theorem gX6_bestSteer_X5_findSteer : GoodIn wsX6_bestSteer (wsV RX6 235 RX5 yX5_findSteer wsX5_findSteer) := goodIn_app (goodIn_of _ (by decide +kernel)) ggX6_bestSteer_X5_findSteer
theorem dX6_bestSteer_0 : decode cX6_bestSteer 0 = .ok (.iload_n 1, 1) := by decide +kernel
theorem dX6_bestSteer_1 : decode cX6_bestSteer 1 = .ok (.iload_n 2, 1) := by decide +kernel
theorem dX6_bestSteer_2 : decode cX6_bestSteer 2 = .ok (.invokestatic 82, 3) := by decide +kernel
theorem dX6_bestSteer_5 : decode cX6_bestSteer 5 = .ok (.iload_n 3, 1) := by decide +kernel
theorem dX6_bestSteer_6 : decode cX6_bestSteer 6 = .ok (.iconst 1, 1) := by decide +kernel
theorem dX6_bestSteer_7 : decode cX6_bestSteer 7 = .ok (.invokestatic 196, 3) := by decide +kernel
theorem dX6_bestSteer_10 : decode cX6_bestSteer 10 = .ok (.aload_n 0, 1) := by decide +kernel
theorem dX6_bestSteer_11 : decode cX6_bestSteer 11 = .ok (.getfield 40, 3) := by decide +kernel
theorem dX6_bestSteer_14 : decode cX6_bestSteer 14 = .ok (.aload_n 0, 1) := by decide +kernel
theorem dX6_bestSteer_15 : decode cX6_bestSteer 15 = .ok (.getfield 12, 3) := by decide +kernel
theorem dX6_bestSteer_18 : decode cX6_bestSteer 18 = .ok (.aload_n 0, 1) := by decide +kernel
theorem dX6_bestSteer_19 : decode cX6_bestSteer 19 = .ok (.getfield 19, 3) := by decide +kernel
theorem dX6_bestSteer_22 : decode cX6_bestSteer 22 = .ok (.iload_n 1, 1) := by decide +kernel
theorem dX6_bestSteer_23 : decode cX6_bestSteer 23 = .ok (.iload_n 2, 1) := by decide +kernel
theorem dX6_bestSteer_24 : decode cX6_bestSteer 24 = .ok (.invokevirtual 235, 3) := by decide +kernel
theorem dX6_bestSteer_27 : decode cX6_bestSteer 27 = .ok (.iload_n 3, 1) := by decide +kernel
theorem dX6_bestSteer_28 : decode cX6_bestSteer 28 = .ok (.ifCond .ne 13, 3) := by decide +kernel
theorem dX6_bestSteer_31 : decode cX6_bestSteer 31 = .ok (.aload_n 0, 1) := by decide +kernel
theorem dX6_bestSteer_32 : decode cX6_bestSteer 32 = .ok (.getfield 40, 3) := by decide +kernel
theorem dX6_bestSteer_35 : decode cX6_bestSteer 35 = .ok (.getfield 239, 3) := by decide +kernel
theorem dX6_bestSteer_38 : decode cX6_bestSteer 38 = .ok (.goto 10, 3) := by decide +kernel
theorem dX6_bestSteer_41 : decode cX6_bestSteer 41 = .ok (.aload_n 0, 1) := by decide +kernel
theorem dX6_bestSteer_42 : decode cX6_bestSteer 42 = .ok (.getfield 40, 3) := by decide +kernel
theorem dX6_bestSteer_45 : decode cX6_bestSteer 45 = .ok (.getfield 242, 3) := by decide +kernel
theorem dX6_bestSteer_48 : decode cX6_bestSteer 48 = .ok (.ireturn, 1) := by decide +kernel
set_option maxRecDepth 20000 in
theorem ggX6_bestBridge_X5_findBridge : GoodIn wsX6_bestBridge wsX5_findBridge := goodIn_r _ [9, 10, 11, 12, 13, 14, 15, 8, 16, 17, 18, 19, 20, 21, 22, 23, 24, 25, 26, 27, 28, 29, 30, 31, 32, 33, 34, 35, 36, 37, 43, 44, 45, 46, 47, 48, 49, 50, 51, 52, 53, 54, 55, 56, 57, 58, 59] (by decide +kernel) (by decide +kernel)
set_option maxRecDepth 20000 in
theorem gX6_bestBridge_X5_findBridge : GoodIn wsX6_bestBridge (wsV RX6 245 RX5 yX5_findBridge wsX5_findBridge) := goodIn_app (goodIn_of _ (by decide +kernel)) ggX6_bestBridge_X5_findBridge
theorem dX6_bestBridge_0 : decode cX6_bestBridge 0 = .ok (.aload_n 0, 1) := by decide +kernel
theorem dX6_bestBridge_1 : decode cX6_bestBridge 1 = .ok (.getfield 40, 3) := by decide +kernel
theorem dX6_bestBridge_4 : decode cX6_bestBridge 4 = .ok (.aload_n 0, 1) := by decide +kernel
theorem dX6_bestBridge_5 : decode cX6_bestBridge 5 = .ok (.getfield 12, 3) := by decide +kernel
theorem dX6_bestBridge_8 : decode cX6_bestBridge 8 = .ok (.aload_n 0, 1) := by decide +kernel
theorem dX6_bestBridge_9 : decode cX6_bestBridge 9 = .ok (.getfield 19, 3) := by decide +kernel
theorem dX6_bestBridge_12 : decode cX6_bestBridge 12 = .ok (.invokevirtual 245, 3) := by decide +kernel
theorem dX6_bestBridge_15 : decode cX6_bestBridge 15 = .ok (.aload_n 0, 1) := by decide +kernel
theorem dX6_bestBridge_16 : decode cX6_bestBridge 16 = .ok (.getfield 40, 3) := by decide +kernel
theorem dX6_bestBridge_19 : decode cX6_bestBridge 19 = .ok (.getfield 239, 3) := by decide +kernel
theorem dX6_bestBridge_22 : decode cX6_bestBridge 22 = .ok (.ireturn, 1) := by decide +kernel
set_option maxRecDepth 20000 in
theorem ggX6_bestBreak_X6_needAside : GoodIn wsX6_bestBreak wsX6_needAside := goodIn_ca (goodIn_r _ [9, 10, 11] (by decide +kernel) (by decide +kernel)) (goodIn_sub (fun _ h => List.mem_cons_of_mem _ (List.mem_append_right _ h)) (by decide +kernel))
set_option maxRecDepth 20000 in
theorem gX6_bestBreak_X6_needAside : GoodIn wsX6_bestBreak (va_wsS RX6 92 yX6_needAside wsX6_needAside) := goodIn_app (goodIn_of _ (by decide +kernel)) ggX6_bestBreak_X6_needAside
set_option maxRecDepth 20000 in
theorem ggX6_bestBreak_X6_needWhat : GoodIn wsX6_bestBreak wsX6_needWhat := goodIn_ca (goodIn_r _ [14, 10, 11] (by decide +kernel) (by decide +kernel)) (goodIn_sub (fun _ h => List.mem_cons_of_mem _ (List.mem_append_right _ h)) (by decide +kernel))
set_option maxRecDepth 20000 in
theorem gX6_bestBreak_X6_needWhat : GoodIn wsX6_bestBreak (va_wsS RX6 196 yX6_needWhat wsX6_needWhat) := goodIn_app (goodIn_of _ (by decide +kernel)) ggX6_bestBreak_X6_needWhat
set_option maxRecDepth 20000 in
theorem ggX6_bestBreak_X5_findBreak : GoodIn wsX6_bestBreak wsX5_findBreak := goodIn_r _ [19, 20, 21, 22, 23, 24, 25, 26, 27, 28, 29, 30, 31, 32, 33, 34, 35, 36, 37, 38, 39, 40, 41, 42, 8, 43, 44, 45, 46, 47, 48, 49, 50, 51, 52, 53, 54, 55, 56, 57, 58, 59, 18, 60, 61, 62, 63, 64, 65, 66, 67, 68, 69, 70, 71, 72, 73, 74, 75, 76, 77, 78, 79, 80, 81, 87, 88, 89, 90, 91, 92, 93, 94, 95, 96, 97, 98, 99, 100, 101, 102, 103] (by decide +kernel) (by decide +kernel)
set_option maxRecDepth 20000 in
theorem gX6_bestBreak_X5_findBreak : GoodIn wsX6_bestBreak (wsV RX6 249 RX5 yX5_findBreak wsX5_findBreak) := goodIn_app (goodIn_of _ (by decide +kernel)) ggX6_bestBreak_X5_findBreak
theorem dX6_bestBreak_0 : decode cX6_bestBreak 0 = .ok (.iload_n 1, 1) := by decide +kernel
theorem dX6_bestBreak_1 : decode cX6_bestBreak 1 = .ok (.invokestatic 92, 3) := by decide +kernel
theorem dX6_bestBreak_4 : decode cX6_bestBreak 4 = .ok (.iload_n 2, 1) := by decide +kernel
theorem dX6_bestBreak_5 : decode cX6_bestBreak 5 = .ok (.iconst 1, 1) := by decide +kernel
theorem dX6_bestBreak_6 : decode cX6_bestBreak 6 = .ok (.invokestatic 196, 3) := by decide +kernel
theorem dX6_bestBreak_9 : decode cX6_bestBreak 9 = .ok (.aload_n 0, 1) := by decide +kernel
theorem dX6_bestBreak_10 : decode cX6_bestBreak 10 = .ok (.getfield 40, 3) := by decide +kernel
theorem dX6_bestBreak_13 : decode cX6_bestBreak 13 = .ok (.aload_n 0, 1) := by decide +kernel
theorem dX6_bestBreak_14 : decode cX6_bestBreak 14 = .ok (.getfield 12, 3) := by decide +kernel
theorem dX6_bestBreak_17 : decode cX6_bestBreak 17 = .ok (.aload_n 0, 1) := by decide +kernel
theorem dX6_bestBreak_18 : decode cX6_bestBreak 18 = .ok (.getfield 19, 3) := by decide +kernel
theorem dX6_bestBreak_21 : decode cX6_bestBreak 21 = .ok (.iload_n 1, 1) := by decide +kernel
theorem dX6_bestBreak_22 : decode cX6_bestBreak 22 = .ok (.invokevirtual 249, 3) := by decide +kernel
theorem dX6_bestBreak_25 : decode cX6_bestBreak 25 = .ok (.iload_n 2, 1) := by decide +kernel
theorem dX6_bestBreak_26 : decode cX6_bestBreak 26 = .ok (.ifCond .ne 13, 3) := by decide +kernel
theorem dX6_bestBreak_29 : decode cX6_bestBreak 29 = .ok (.aload_n 0, 1) := by decide +kernel
theorem dX6_bestBreak_30 : decode cX6_bestBreak 30 = .ok (.getfield 40, 3) := by decide +kernel
theorem dX6_bestBreak_33 : decode cX6_bestBreak 33 = .ok (.getfield 239, 3) := by decide +kernel
theorem dX6_bestBreak_36 : decode cX6_bestBreak 36 = .ok (.goto 10, 3) := by decide +kernel
theorem dX6_bestBreak_39 : decode cX6_bestBreak 39 = .ok (.aload_n 0, 1) := by decide +kernel
theorem dX6_bestBreak_40 : decode cX6_bestBreak 40 = .ok (.getfield 40, 3) := by decide +kernel
theorem dX6_bestBreak_43 : decode cX6_bestBreak 43 = .ok (.getfield 242, 3) := by decide +kernel
theorem dX6_bestBreak_46 : decode cX6_bestBreak 46 = .ok (.ireturn, 1) := by decide +kernel
set_option maxRecDepth 20000 in
theorem ggX6_holesFor_X6_needLength : GoodIn wsX6_holesFor wsX6_needLength := goodIn_ca (goodIn_r _ [5, 6, 7] (by decide +kernel) (by decide +kernel)) (goodIn_sub (fun _ h => List.mem_cons_of_mem _ (List.mem_append_right _ h)) (by decide +kernel))
set_option maxRecDepth 20000 in
theorem gX6_holesFor_X6_needLength : GoodIn wsX6_holesFor (va_wsS RX6 55 yX6_needLength wsX6_needLength) := goodIn_app (goodIn_of _ (by decide +kernel)) ggX6_holesFor_X6_needLength
set_option maxRecDepth 20000 in
theorem ggX6_holesFor_X3_holesIn : GoodIn wsX6_holesFor wsX3_holesIn := goodIn_r _ [12, 13, 19, 20, 21, 22, 23, 24, 25] (by decide +kernel) (by decide +kernel)
set_option maxRecDepth 20000 in
theorem gX6_holesFor_X3_holesIn : GoodIn wsX6_holesFor (wsV RX6 253 RX3 yX3_holesIn wsX3_holesIn) := goodIn_app (goodIn_of _ (by decide +kernel)) ggX6_holesFor_X3_holesIn
theorem dX6_holesFor_0 : decode cX6_holesFor 0 = .ok (.iload_n 1, 1) := by decide +kernel
theorem dX6_holesFor_1 : decode cX6_holesFor 1 = .ok (.invokestatic 55, 3) := by decide +kernel
theorem dX6_holesFor_4 : decode cX6_holesFor 4 = .ok (.aload_n 0, 1) := by decide +kernel
theorem dX6_holesFor_5 : decode cX6_holesFor 5 = .ok (.getfield 12, 3) := by decide +kernel
theorem dX6_holesFor_8 : decode cX6_holesFor 8 = .ok (.iload_n 1, 1) := by decide +kernel
theorem dX6_holesFor_9 : decode cX6_holesFor 9 = .ok (.invokevirtual 253, 3) := by decide +kernel
theorem dX6_holesFor_12 : decode cX6_holesFor 12 = .ok (.ireturn, 1) := by decide +kernel
set_option maxRecDepth 20000 in
theorem ggX6_tuneShare_X6_rightShare : GoodIn wsX6_tuneShare wsX6_rightShare := goodIn_r _ [5, 6, 7, 8, 9, 10, 11, 12, 13, 14, 15, 4, 16, 17, 18, 19, 20, 21, 22, 23, 24, 25, 26, 27, 28, 29, 30, 31, 32, 33, 34, 35, 36, 37, 38, 39, 40, 41, 42, 43, 44, 45, 46, 47, 48, 49, 50, 51, 52, 53] (by decide +kernel) (by decide +kernel)
set_option maxRecDepth 20000 in
theorem gX6_tuneShare_X6_rightShare : GoodIn wsX6_tuneShare (wsV RX6 256 RX6 yX6_rightShare wsX6_rightShare) := goodIn_app (goodIn_of _ (by decide +kernel)) ggX6_tuneShare_X6_rightShare
theorem dX6_tuneShare_0 : decode cX6_tuneShare 0 = .ok (.aload_n 0, 1) := by decide +kernel
theorem dX6_tuneShare_1 : decode cX6_tuneShare 1 = .ok (.invokevirtual 256, 3) := by decide +kernel
theorem dX6_tuneShare_4 : decode cX6_tuneShare 4 = .ok (.dreturn, 1) := by decide +kernel
set_option maxRecDepth 20000 in
theorem ggX6_digest_X6_counted : GoodIn wsX6_digest wsX6_counted := goodIn_r _ [10, 2, 11, 12, 13, 14, 15, 16, 17, 18, 4, 19, 20, 21, 22, 23, 9, 24, 25, 26, 27, 28, 29, 30, 31, 32, 33, 34, 35, 36, 37, 38, 39, 40, 41, 42, 43, 44, 45, 46, 47, 48, 49, 50, 51, 52, 53, 54, 55, 56, 57, 58, 59, 60, 61, 62, 63, 64, 65, 66, 67, 68, 69, 70, 71, 72, 73, 74, 75, 76, 77, 78, 79, 80, 81, 82, 83, 84, 85, 86, 87, 88, 89, 90, 91, 92, 93, 94, 95, 96, 97, 98, 99, 100, 101, 102, 103, 104, 105, 106, 107, 108, 109, 234, 235, 236, 237, 238, 239, 240, 241, 242, 243, 244, 245, 246, 247, 248, 249, 250, 251, 252, 253] (by decide +kernel) (by decide +kernel)
set_option maxRecDepth 20000 in
theorem gX6_digest_X6_counted : GoodIn wsX6_digest (wsV RX6 232 RX6 yX6_counted wsX6_counted) := goodIn_app (goodIn_of _ (by decide +kernel)) ggX6_digest_X6_counted
set_option maxRecDepth 20000 in
theorem ggX6_digest_X6_mixed : GoodIn wsX6_digest wsX6_mixed := goodIn_r _ [112, 113] (by decide +kernel) (by decide +kernel)
set_option maxRecDepth 20000 in
theorem gX6_digest_X6_mixed : GoodIn wsX6_digest (va_wsS RX6 262 yX6_mixed wsX6_mixed) := goodIn_app (goodIn_of _ (by decide +kernel)) ggX6_digest_X6_mixed
set_option maxRecDepth 20000 in
theorem ggX6_digest_X6_mixedSteps : GoodIn wsX6_digest wsX6_mixedSteps := goodIn_r _ [117, 118, 119, 120, 9, 121, 2, 122, 123, 14, 18, 124, 125, 4, 126, 43, 44, 127, 69, 70, 66, 71, 72, 73, 74, 75, 128, 38, 39, 35, 40, 41, 42, 110, 111, 112, 113, 234, 235, 236, 237, 238, 239, 240, 241, 242, 243, 244, 245, 246, 247, 248, 249, 250, 251] (by decide +kernel) (by decide +kernel)
set_option maxRecDepth 20000 in
theorem gX6_digest_X6_mixedSteps : GoodIn wsX6_digest (wsV RX6 266 RX6 yX6_mixedSteps wsX6_mixedSteps) := goodIn_app (goodIn_of _ (by decide +kernel)) ggX6_digest_X6_mixedSteps
set_option maxRecDepth 20000 in
theorem ggX6_digest_X6_mixedNotes : GoodIn wsX6_digest wsX6_mixedNotes := goodIn_r _ [132, 2, 16, 14, 15, 133, 81, 82, 49, 83, 51, 43, 9, 44, 134, 135, 136, 137, 138, 85, 86, 87, 61, 139, 89, 90, 91, 92, 93, 140, 141, 142, 143, 144, 145, 146, 66, 147, 148, 74, 80, 149, 95, 96, 97, 98, 110, 111, 112, 113, 234, 235, 236, 237, 238, 239, 240, 241, 242, 243, 244, 245, 246, 247, 248, 249, 250, 251] (by decide +kernel) (by decide +kernel)
set_option maxRecDepth 20000 in
theorem gX6_digest_X6_mixedNotes : GoodIn wsX6_digest (wsV RX6 270 RX6 yX6_mixedNotes wsX6_mixedNotes) := goodIn_app (goodIn_of _ (by decide +kernel)) ggX6_digest_X6_mixedNotes
set_option maxRecDepth 20000 in
theorem ggX6_digest_X6_mixedBest : GoodIn wsX6_digest wsX6_mixedBest := goodIn_r _ [153, 154, 2, 14, 155, 156, 157, 158, 9, 159, 160, 161, 162, 163, 164, 165, 166, 167, 168, 169, 170, 171, 172, 173, 174, 35, 175, 103, 43, 44, 37, 38, 39, 40, 41, 42, 176, 177, 178, 179, 180, 181, 182, 183, 184, 185, 186, 187, 188, 189, 190, 191, 49, 192, 51, 61, 193, 58, 59, 60, 52, 62, 26, 27, 28, 29, 30, 31, 110, 111, 112, 113, 194, 195, 196, 197, 198, 199, 200, 201, 202, 203, 204, 205, 206, 207, 208, 209, 210, 211, 212, 213, 214, 215, 216, 234, 235, 236, 237, 238, 254, 255, 256, 257, 246, 247, 248, 249, 239, 240, 241, 242, 243, 244, 245, 250, 251] (by decide +kernel) (by decide +kernel)
set_option maxRecDepth 20000 in
theorem gX6_digest_X6_mixedBest : GoodIn wsX6_digest (wsV RX6 274 RX6 yX6_mixedBest wsX6_mixedBest) := goodIn_app (goodIn_of _ (by decide +kernel)) ggX6_digest_X6_mixedBest
set_option maxRecDepth 20000 in
theorem ggX6_digest_X6_rightShare : GoodIn wsX6_digest wsX6_rightShare := goodIn_r _ [220, 2, 16, 46, 47, 48, 49, 50, 51, 52, 23, 9, 24, 25, 26, 27, 28, 29, 30, 31, 53, 54, 55, 56, 14, 15, 57, 58, 59, 60, 61, 62, 234, 235, 236, 237, 238, 239, 240, 241, 242, 243, 244, 245, 250, 251, 246, 247, 248, 249] (by decide +kernel) (by decide +kernel)
set_option maxRecDepth 20000 in
theorem gX6_digest_X6_rightShare : GoodIn wsX6_digest (wsV RX6 256 RX6 yX6_rightShare wsX6_rightShare) := goodIn_app (goodIn_of _ (by decide +kernel)) ggX6_digest_X6_rightShare
set_option maxRecDepth 20000 in
theorem ggX6_digest_X6_bitsOfShare : GoodIn wsX6_digest wsX6_bitsOfShare := goodIn_r _ [223, 224, 225, 226] (by decide +kernel) (by decide +kernel)
set_option maxRecDepth 20000 in
theorem gX6_digest_X6_bitsOfShare : GoodIn wsX6_digest (va_wsS RX6 277 yX6_bitsOfShare wsX6_bitsOfShare) := goodIn_app (goodIn_of _ (by decide +kernel)) ggX6_digest_X6_bitsOfShare
set_option maxRecDepth 20000 in
theorem ggX6_digest_X2_mixedInto : GoodIn wsX6_digest wsX2_mixedInto := goodIn_r _ [231, 232, 233, 111, 9, 112, 113, 258, 259, 260, 261, 262, 263, 264, 265, 266, 267] (by decide +kernel) (by decide +kernel)
set_option maxRecDepth 20000 in
theorem gX6_digest_X2_mixedInto : GoodIn wsX6_digest (wsV RX6 281 RX2 yX2_mixedInto wsX2_mixedInto) := goodIn_app (goodIn_of _ (by decide +kernel)) ggX6_digest_X2_mixedInto
theorem dX6_digest_0 : decode cX6_digest 0 = .ok (.ldc2_w 260, 3) := by decide +kernel
theorem dX6_digest_3 : decode cX6_digest 3 = .ok (.lstore_n 1, 1) := by decide +kernel
theorem dX6_digest_4 : decode cX6_digest 4 = .ok (.iconst 0, 1) := by decide +kernel
theorem dX6_digest_5 : decode cX6_digest 5 = .ok (.istore_n 3, 1) := by decide +kernel
theorem dX6_digest_6 : decode cX6_digest 6 = .ok (.iload_n 3, 1) := by decide +kernel
theorem dX6_digest_7 : decode cX6_digest 7 = .ok (.bipush 14, 2) := by decide +kernel
theorem dX6_digest_9 : decode cX6_digest 9 = .ok (.if_icmp .gt 20, 3) := by decide +kernel
theorem dX6_digest_12 : decode cX6_digest 12 = .ok (.lload_n 1, 1) := by decide +kernel
theorem dX6_digest_13 : decode cX6_digest 13 = .ok (.aload_n 0, 1) := by decide +kernel
theorem dX6_digest_14 : decode cX6_digest 14 = .ok (.iload_n 3, 1) := by decide +kernel
theorem dX6_digest_15 : decode cX6_digest 15 = .ok (.invokevirtual 232, 3) := by decide +kernel
theorem dX6_digest_18 : decode cX6_digest 18 = .ok (.i2l, 1) := by decide +kernel
theorem dX6_digest_19 : decode cX6_digest 19 = .ok (.invokestatic 262, 3) := by decide +kernel
theorem dX6_digest_22 : decode cX6_digest 22 = .ok (.lstore_n 1, 1) := by decide +kernel
theorem dX6_digest_23 : decode cX6_digest 23 = .ok (.iinc 3 1, 3) := by decide +kernel
theorem dX6_digest_26 : decode cX6_digest 26 = .ok (.goto (-20), 3) := by decide +kernel
theorem dX6_digest_29 : decode cX6_digest 29 = .ok (.lload_n 1, 1) := by decide +kernel
theorem dX6_digest_30 : decode cX6_digest 30 = .ok (.aload_n 0, 1) := by decide +kernel
theorem dX6_digest_31 : decode cX6_digest 31 = .ok (.getfield 12, 3) := by decide +kernel
theorem dX6_digest_34 : decode cX6_digest 34 = .ok (.getfield 132, 3) := by decide +kernel
theorem dX6_digest_37 : decode cX6_digest 37 = .ok (.i2l, 1) := by decide +kernel
theorem dX6_digest_38 : decode cX6_digest 38 = .ok (.invokestatic 262, 3) := by decide +kernel
theorem dX6_digest_41 : decode cX6_digest 41 = .ok (.lstore_n 1, 1) := by decide +kernel
theorem dX6_digest_42 : decode cX6_digest 42 = .ok (.lload_n 1, 1) := by decide +kernel
theorem dX6_digest_43 : decode cX6_digest 43 = .ok (.aload_n 0, 1) := by decide +kernel
theorem dX6_digest_44 : decode cX6_digest 44 = .ok (.getfield 12, 3) := by decide +kernel
theorem dX6_digest_47 : decode cX6_digest 47 = .ok (.getfield 136, 3) := by decide +kernel
theorem dX6_digest_50 : decode cX6_digest 50 = .ok (.i2l, 1) := by decide +kernel
theorem dX6_digest_51 : decode cX6_digest 51 = .ok (.invokestatic 262, 3) := by decide +kernel
theorem dX6_digest_54 : decode cX6_digest 54 = .ok (.lstore_n 1, 1) := by decide +kernel
theorem dX6_digest_55 : decode cX6_digest 55 = .ok (.aload_n 0, 1) := by decide +kernel
theorem dX6_digest_56 : decode cX6_digest 56 = .ok (.lload_n 1, 1) := by decide +kernel
theorem dX6_digest_57 : decode cX6_digest 57 = .ok (.invokevirtual 266, 3) := by decide +kernel
theorem dX6_digest_60 : decode cX6_digest 60 = .ok (.lstore_n 1, 1) := by decide +kernel
theorem dX6_digest_61 : decode cX6_digest 61 = .ok (.aload_n 0, 1) := by decide +kernel
theorem dX6_digest_62 : decode cX6_digest 62 = .ok (.lload_n 1, 1) := by decide +kernel
theorem dX6_digest_63 : decode cX6_digest 63 = .ok (.iconst 0, 1) := by decide +kernel
theorem dX6_digest_64 : decode cX6_digest 64 = .ok (.invokevirtual 270, 3) := by decide +kernel
theorem dX6_digest_67 : decode cX6_digest 67 = .ok (.lstore_n 1, 1) := by decide +kernel
theorem dX6_digest_68 : decode cX6_digest 68 = .ok (.aload_n 0, 1) := by decide +kernel
theorem dX6_digest_69 : decode cX6_digest 69 = .ok (.lload_n 1, 1) := by decide +kernel
theorem dX6_digest_70 : decode cX6_digest 70 = .ok (.iconst 1, 1) := by decide +kernel
theorem dX6_digest_71 : decode cX6_digest 71 = .ok (.invokevirtual 270, 3) := by decide +kernel
theorem dX6_digest_74 : decode cX6_digest 74 = .ok (.lstore_n 1, 1) := by decide +kernel
theorem dX6_digest_75 : decode cX6_digest 75 = .ok (.aload_n 0, 1) := by decide +kernel
theorem dX6_digest_76 : decode cX6_digest 76 = .ok (.lload_n 1, 1) := by decide +kernel
theorem dX6_digest_77 : decode cX6_digest 77 = .ok (.invokevirtual 274, 3) := by decide +kernel
theorem dX6_digest_80 : decode cX6_digest 80 = .ok (.lstore_n 1, 1) := by decide +kernel
theorem dX6_digest_81 : decode cX6_digest 81 = .ok (.lload_n 1, 1) := by decide +kernel
theorem dX6_digest_82 : decode cX6_digest 82 = .ok (.aload_n 0, 1) := by decide +kernel
theorem dX6_digest_83 : decode cX6_digest 83 = .ok (.invokevirtual 256, 3) := by decide +kernel
theorem dX6_digest_86 : decode cX6_digest 86 = .ok (.invokestatic 277, 3) := by decide +kernel
theorem dX6_digest_89 : decode cX6_digest 89 = .ok (.invokestatic 262, 3) := by decide +kernel
theorem dX6_digest_92 : decode cX6_digest 92 = .ok (.lstore_n 1, 1) := by decide +kernel
theorem dX6_digest_93 : decode cX6_digest 93 = .ok (.aload_n 0, 1) := by decide +kernel
theorem dX6_digest_94 : decode cX6_digest 94 = .ok (.getfield 33, 3) := by decide +kernel
theorem dX6_digest_97 : decode cX6_digest 97 = .ok (.lload_n 1, 1) := by decide +kernel
theorem dX6_digest_98 : decode cX6_digest 98 = .ok (.invokevirtual 281, 3) := by decide +kernel
theorem dX6_digest_101 : decode cX6_digest 101 = .ok (.lreturn, 1) := by decide +kernel
theorem dX6_mixed_0 : decode cX6_mixed 0 = .ok (.ldc2_w 284, 3) := by decide +kernel
theorem dX6_mixed_3 : decode cX6_mixed 3 = .ok (.lload_n 0, 1) := by decide +kernel
theorem dX6_mixed_4 : decode cX6_mixed 4 = .ok (.lmul, 1) := by decide +kernel
theorem dX6_mixed_5 : decode cX6_mixed 5 = .ok (.lload_n 2, 1) := by decide +kernel
theorem dX6_mixed_6 : decode cX6_mixed 6 = .ok (.ladd, 1) := by decide +kernel
theorem dX6_mixed_7 : decode cX6_mixed 7 = .ok (.lreturn, 1) := by decide +kernel
set_option maxRecDepth 20000 in
theorem ggX6_mixedSteps_X6_ofStep : GoodIn wsX6_mixedSteps wsX6_ofStep := goodIn_r _ [5, 6, 7, 8, 9, 10, 11, 12, 13, 14, 15, 4, 16, 17, 18, 19, 20, 21, 22, 23, 24, 25, 26, 27, 28, 29, 30, 31, 32, 37, 38, 39, 40, 41, 42, 43, 44, 45, 46, 47, 48, 49, 50, 51, 52, 53, 54] (by decide +kernel) (by decide +kernel)
set_option maxRecDepth 20000 in
theorem gX6_mixedSteps_X6_ofStep : GoodIn wsX6_mixedSteps (wsV RX6 212 RX6 yX6_ofStep wsX6_ofStep) := goodIn_app (goodIn_of _ (by decide +kernel)) ggX6_mixedSteps_X6_ofStep
set_option maxRecDepth 20000 in
theorem ggX6_mixedSteps_X6_mixed : GoodIn wsX6_mixedSteps wsX6_mixed := goodIn_r _ [35, 36] (by decide +kernel) (by decide +kernel)
set_option maxRecDepth 20000 in
theorem gX6_mixedSteps_X6_mixed : GoodIn wsX6_mixedSteps (va_wsS RX6 262 yX6_mixed wsX6_mixed) := goodIn_app (goodIn_of _ (by decide +kernel)) ggX6_mixedSteps_X6_mixed
theorem dX6_mixedSteps_0 : decode cX6_mixedSteps 0 = .ok (.lload_n 1, 1) := by decide +kernel
theorem dX6_mixedSteps_1 : decode cX6_mixedSteps 1 = .ok (.lstore_n 3, 1) := by decide +kernel
theorem dX6_mixedSteps_2 : decode cX6_mixedSteps 2 = .ok (.iconst 0, 1) := by decide +kernel
theorem dX6_mixedSteps_3 : decode cX6_mixedSteps 3 = .ok (.istore 5, 2) := by decide +kernel
theorem dX6_mixedSteps_5 : decode cX6_mixedSteps 5 = .ok (.iload 5, 2) := by decide +kernel
theorem dX6_mixedSteps_7 : decode cX6_mixedSteps 7 = .ok (.bipush 96, 2) := by decide +kernel
theorem dX6_mixedSteps_9 : decode cX6_mixedSteps 9 = .ok (.if_icmp .ge 39, 3) := by decide +kernel
theorem dX6_mixedSteps_12 : decode cX6_mixedSteps 12 = .ok (.iconst 0, 1) := by decide +kernel
theorem dX6_mixedSteps_13 : decode cX6_mixedSteps 13 = .ok (.istore 6, 2) := by decide +kernel
theorem dX6_mixedSteps_15 : decode cX6_mixedSteps 15 = .ok (.iload 6, 2) := by decide +kernel
theorem dX6_mixedSteps_17 : decode cX6_mixedSteps 17 = .ok (.bipush 6, 2) := by decide +kernel
theorem dX6_mixedSteps_19 : decode cX6_mixedSteps 19 = .ok (.if_icmp .gt 23, 3) := by decide +kernel
theorem dX6_mixedSteps_22 : decode cX6_mixedSteps 22 = .ok (.lload_n 3, 1) := by decide +kernel
theorem dX6_mixedSteps_23 : decode cX6_mixedSteps 23 = .ok (.aload_n 0, 1) := by decide +kernel
theorem dX6_mixedSteps_24 : decode cX6_mixedSteps 24 = .ok (.iload 5, 2) := by decide +kernel
theorem dX6_mixedSteps_26 : decode cX6_mixedSteps 26 = .ok (.iload 6, 2) := by decide +kernel
theorem dX6_mixedSteps_28 : decode cX6_mixedSteps 28 = .ok (.invokevirtual 212, 3) := by decide +kernel
theorem dX6_mixedSteps_31 : decode cX6_mixedSteps 31 = .ok (.i2l, 1) := by decide +kernel
theorem dX6_mixedSteps_32 : decode cX6_mixedSteps 32 = .ok (.invokestatic 262, 3) := by decide +kernel
theorem dX6_mixedSteps_35 : decode cX6_mixedSteps 35 = .ok (.lstore_n 3, 1) := by decide +kernel
theorem dX6_mixedSteps_36 : decode cX6_mixedSteps 36 = .ok (.iinc 6 1, 3) := by decide +kernel
theorem dX6_mixedSteps_39 : decode cX6_mixedSteps 39 = .ok (.goto (-24), 3) := by decide +kernel
theorem dX6_mixedSteps_42 : decode cX6_mixedSteps 42 = .ok (.iinc 5 1, 3) := by decide +kernel
theorem dX6_mixedSteps_45 : decode cX6_mixedSteps 45 = .ok (.goto (-40), 3) := by decide +kernel
theorem dX6_mixedSteps_48 : decode cX6_mixedSteps 48 = .ok (.lload_n 3, 1) := by decide +kernel
theorem dX6_mixedSteps_49 : decode cX6_mixedSteps 49 = .ok (.lreturn, 1) := by decide +kernel
set_option maxRecDepth 20000 in
theorem ggX6_mixedNotes_X0_beginsAt : GoodIn wsX6_mixedNotes wsX0_beginsAt := goodIn_r _ [9, 10, 11, 12, 13, 66, 67] (by decide +kernel) (by decide +kernel)
set_option maxRecDepth 20000 in
theorem gX6_mixedNotes_X0_beginsAt : GoodIn wsX6_mixedNotes (wsV RX6 286 RX0 yX0_beginsAt wsX0_beginsAt) := goodIn_app (goodIn_of _ (by decide +kernel)) ggX6_mixedNotes_X0_beginsAt
set_option maxRecDepth 20000 in
theorem ggX6_mixedNotes_X6_ofTune : GoodIn wsX6_mixedNotes wsX6_ofTune := goodIn_r _ [17, 1, 2, 3, 4, 18, 19, 20, 8, 21, 22, 23, 24, 25, 26, 27, 6, 7, 9, 10, 11, 12, 13, 28, 50, 51, 52, 53, 54, 55, 56, 57, 58, 59, 60, 61, 62, 63, 64, 65, 66, 67] (by decide +kernel) (by decide +kernel)
set_option maxRecDepth 20000 in
theorem gX6_mixedNotes_X6_ofTune : GoodIn wsX6_mixedNotes (wsV RX6 229 RX6 yX6_ofTune wsX6_ofTune) := goodIn_app (goodIn_of _ (by decide +kernel)) ggX6_mixedNotes_X6_ofTune
set_option maxRecDepth 20000 in
theorem ggX6_mixedNotes_X6_ofPlayed : GoodIn wsX6_mixedNotes wsX6_ofPlayed := goodIn_r _ [32, 3, 4, 1, 2, 18, 19, 20, 8, 21, 22, 33, 34, 35, 36, 37, 38, 39, 40, 6, 7, 9, 10, 11, 12, 13, 41, 42, 43, 44, 45, 23, 24, 25, 26, 27, 28, 50, 51, 52, 53, 54, 62, 63, 64, 65, 55, 56, 57, 58, 59, 60, 61, 66, 67] (by decide +kernel) (by decide +kernel)
set_option maxRecDepth 20000 in
theorem gX6_mixedNotes_X6_ofPlayed : GoodIn wsX6_mixedNotes (wsV RX6 224 RX6 yX6_ofPlayed wsX6_ofPlayed) := goodIn_app (goodIn_of _ (by decide +kernel)) ggX6_mixedNotes_X6_ofPlayed
set_option maxRecDepth 20000 in
theorem ggX6_mixedNotes_X6_mixed : GoodIn wsX6_mixedNotes wsX6_mixed := goodIn_r _ [48, 49] (by decide +kernel) (by decide +kernel)
set_option maxRecDepth 20000 in
theorem gX6_mixedNotes_X6_mixed : GoodIn wsX6_mixedNotes (va_wsS RX6 262 yX6_mixed wsX6_mixed) := goodIn_app (goodIn_of _ (by decide +kernel)) ggX6_mixedNotes_X6_mixed
theorem dX6_mixedNotes_0 : decode cX6_mixedNotes 0 = .ok (.iload_n 3, 1) := by decide +kernel
theorem dX6_mixedNotes_1 : decode cX6_mixedNotes 1 = .ok (.ifCond .eq 13, 3) := by decide +kernel
theorem dX6_mixedNotes_4 : decode cX6_mixedNotes 4 = .ok (.aload_n 0, 1) := by decide +kernel
theorem dX6_mixedNotes_5 : decode cX6_mixedNotes 5 = .ok (.getfield 12, 3) := by decide +kernel
theorem dX6_mixedNotes_8 : decode cX6_mixedNotes 8 = .ok (.getfield 139, 3) := by decide +kernel
theorem dX6_mixedNotes_11 : decode cX6_mixedNotes 11 = .ok (.goto 10, 3) := by decide +kernel
theorem dX6_mixedNotes_14 : decode cX6_mixedNotes 14 = .ok (.aload_n 0, 1) := by decide +kernel
theorem dX6_mixedNotes_15 : decode cX6_mixedNotes 15 = .ok (.getfield 19, 3) := by decide +kernel
theorem dX6_mixedNotes_18 : decode cX6_mixedNotes 18 = .ok (.getfield 143, 3) := by decide +kernel
theorem dX6_mixedNotes_21 : decode cX6_mixedNotes 21 = .ok (.astore 4, 2) := by decide +kernel
theorem dX6_mixedNotes_23 : decode cX6_mixedNotes 23 = .ok (.iload_n 3, 1) := by decide +kernel
theorem dX6_mixedNotes_24 : decode cX6_mixedNotes 24 = .ok (.ifCond .eq 7, 3) := by decide +kernel
theorem dX6_mixedNotes_27 : decode cX6_mixedNotes 27 = .ok (.iconst 3, 1) := by decide +kernel
theorem dX6_mixedNotes_28 : decode cX6_mixedNotes 28 = .ok (.goto 4, 3) := by decide +kernel
theorem dX6_mixedNotes_31 : decode cX6_mixedNotes 31 = .ok (.iconst 5, 1) := by decide +kernel
theorem dX6_mixedNotes_32 : decode cX6_mixedNotes 32 = .ok (.istore 5, 2) := by decide +kernel
theorem dX6_mixedNotes_34 : decode cX6_mixedNotes 34 = .ok (.lload_n 1, 1) := by decide +kernel
theorem dX6_mixedNotes_35 : decode cX6_mixedNotes 35 = .ok (.lstore 6, 2) := by decide +kernel
theorem dX6_mixedNotes_37 : decode cX6_mixedNotes 37 = .ok (.iconst 0, 1) := by decide +kernel
theorem dX6_mixedNotes_38 : decode cX6_mixedNotes 38 = .ok (.istore 8, 2) := by decide +kernel
theorem dX6_mixedNotes_40 : decode cX6_mixedNotes 40 = .ok (.iload 8, 2) := by decide +kernel
theorem dX6_mixedNotes_42 : decode cX6_mixedNotes 42 = .ok (.bipush 96, 2) := by decide +kernel
theorem dX6_mixedNotes_44 : decode cX6_mixedNotes 44 = .ok (.if_icmp .ge 92, 3) := by decide +kernel
theorem dX6_mixedNotes_47 : decode cX6_mixedNotes 47 = .ok (.iconst 1, 1) := by decide +kernel
theorem dX6_mixedNotes_48 : decode cX6_mixedNotes 48 = .ok (.istore 9, 2) := by decide +kernel
theorem dX6_mixedNotes_50 : decode cX6_mixedNotes 50 = .ok (.iload 9, 2) := by decide +kernel
theorem dX6_mixedNotes_52 : decode cX6_mixedNotes 52 = .ok (.bipush 21, 2) := by decide +kernel
theorem dX6_mixedNotes_54 : decode cX6_mixedNotes 54 = .ok (.if_icmp .ge 76, 3) := by decide +kernel
theorem dX6_mixedNotes_57 : decode cX6_mixedNotes 57 = .ok (.iconst 0, 1) := by decide +kernel
theorem dX6_mixedNotes_58 : decode cX6_mixedNotes 58 = .ok (.istore 10, 2) := by decide +kernel
theorem dX6_mixedNotes_60 : decode cX6_mixedNotes 60 = .ok (.iload 10, 2) := by decide +kernel
theorem dX6_mixedNotes_62 : decode cX6_mixedNotes 62 = .ok (.iload 5, 2) := by decide +kernel
theorem dX6_mixedNotes_64 : decode cX6_mixedNotes 64 = .ok (.if_icmp .gt 60, 3) := by decide +kernel
theorem dX6_mixedNotes_67 : decode cX6_mixedNotes 67 = .ok (.aload 4, 2) := by decide +kernel
theorem dX6_mixedNotes_69 : decode cX6_mixedNotes 69 = .ok (.iload 9, 2) := by decide +kernel
theorem dX6_mixedNotes_71 : decode cX6_mixedNotes 71 = .ok (.iload 8, 2) := by decide +kernel
theorem dX6_mixedNotes_73 : decode cX6_mixedNotes 73 = .ok (.invokevirtual 286, 3) := by decide +kernel
theorem dX6_mixedNotes_76 : decode cX6_mixedNotes 76 = .ok (.ifCond .eq 48, 3) := by decide +kernel
theorem dX6_mixedNotes_79 : decode cX6_mixedNotes 79 = .ok (.iload_n 3, 1) := by decide +kernel
theorem dX6_mixedNotes_80 : decode cX6_mixedNotes 80 = .ok (.ifCond .eq 16, 3) := by decide +kernel
theorem dX6_mixedNotes_83 : decode cX6_mixedNotes 83 = .ok (.aload_n 0, 1) := by decide +kernel
theorem dX6_mixedNotes_84 : decode cX6_mixedNotes 84 = .ok (.iload 9, 2) := by decide +kernel
theorem dX6_mixedNotes_86 : decode cX6_mixedNotes 86 = .ok (.iload 8, 2) := by decide +kernel
theorem dX6_mixedNotes_88 : decode cX6_mixedNotes 88 = .ok (.iload 10, 2) := by decide +kernel
theorem dX6_mixedNotes_90 : decode cX6_mixedNotes 90 = .ok (.invokevirtual 229, 3) := by decide +kernel
theorem dX6_mixedNotes_93 : decode cX6_mixedNotes 93 = .ok (.goto 13, 3) := by decide +kernel
theorem dX6_mixedNotes_96 : decode cX6_mixedNotes 96 = .ok (.aload_n 0, 1) := by decide +kernel
theorem dX6_mixedNotes_97 : decode cX6_mixedNotes 97 = .ok (.iload 9, 2) := by decide +kernel
theorem dX6_mixedNotes_99 : decode cX6_mixedNotes 99 = .ok (.iload 8, 2) := by decide +kernel
theorem dX6_mixedNotes_101 : decode cX6_mixedNotes 101 = .ok (.iload 10, 2) := by decide +kernel
theorem dX6_mixedNotes_103 : decode cX6_mixedNotes 103 = .ok (.invokevirtual 224, 3) := by decide +kernel
theorem dX6_mixedNotes_106 : decode cX6_mixedNotes 106 = .ok (.istore 11, 2) := by decide +kernel
theorem dX6_mixedNotes_108 : decode cX6_mixedNotes 108 = .ok (.lload 6, 2) := by decide +kernel
theorem dX6_mixedNotes_110 : decode cX6_mixedNotes 110 = .ok (.iload 11, 2) := by decide +kernel
theorem dX6_mixedNotes_112 : decode cX6_mixedNotes 112 = .ok (.i2l, 1) := by decide +kernel
theorem dX6_mixedNotes_113 : decode cX6_mixedNotes 113 = .ok (.invokestatic 262, 3) := by decide +kernel
theorem dX6_mixedNotes_116 : decode cX6_mixedNotes 116 = .ok (.lstore 6, 2) := by decide +kernel
theorem dX6_mixedNotes_118 : decode cX6_mixedNotes 118 = .ok (.iinc 10 1, 3) := by decide +kernel
theorem dX6_mixedNotes_121 : decode cX6_mixedNotes 121 = .ok (.goto (-61), 3) := by decide +kernel
theorem dX6_mixedNotes_124 : decode cX6_mixedNotes 124 = .ok (.iinc 9 1, 3) := by decide +kernel
theorem dX6_mixedNotes_127 : decode cX6_mixedNotes 127 = .ok (.goto (-77), 3) := by decide +kernel
theorem dX6_mixedNotes_130 : decode cX6_mixedNotes 130 = .ok (.iinc 8 1, 3) := by decide +kernel
theorem dX6_mixedNotes_133 : decode cX6_mixedNotes 133 = .ok (.goto (-93), 3) := by decide +kernel
theorem dX6_mixedNotes_136 : decode cX6_mixedNotes 136 = .ok (.lload 6, 2) := by decide +kernel
theorem dX6_mixedNotes_138 : decode cX6_mixedNotes 138 = .ok (.lreturn, 1) := by decide +kernel
set_option maxRecDepth 20000 in
theorem ggX6_mixedBest_X6_mixedBestSteer : GoodIn wsX6_mixedBest wsX6_mixedBestSteer := goodIn_r _ [9, 1, 2, 3, 4, 10, 11, 12, 13, 14, 15, 16, 17, 18, 19, 20, 21, 22, 23, 24, 25, 26, 27, 28, 8, 29, 30, 31, 32, 33, 34, 35, 36, 37, 38, 39, 40, 41, 42, 43, 44, 45, 46, 47, 48, 49, 50, 51, 52, 53, 54, 55, 56, 57, 58, 59, 60, 61, 62, 63, 64, 65, 66, 67, 68, 69, 70, 71, 95, 96, 97, 98, 99, 100, 101, 102, 103, 104, 105, 106, 107, 108, 109, 110, 111, 112, 113, 114, 115, 116] (by decide +kernel) (by decide +kernel)
set_option maxRecDepth 20000 in
theorem gX6_mixedBest_X6_mixedBestSteer : GoodIn wsX6_mixedBest (wsV RX6 289 RX6 yX6_mixedBestSteer wsX6_mixedBestSteer) := goodIn_app (goodIn_of _ (by decide +kernel)) ggX6_mixedBest_X6_mixedBestSteer
set_option maxRecDepth 20000 in
theorem ggX6_mixedBest_X5_findBridge : GoodIn wsX6_mixedBest wsX5_findBridge := goodIn_r _ [75, 16, 19, 21, 43, 44, 45, 14, 46, 47, 48, 49, 50, 51, 52, 53, 54, 55, 56, 57, 58, 59, 60, 61, 62, 63, 64, 65, 66, 67, 100, 101, 102, 103, 104, 105, 106, 107, 108, 109, 110, 111, 112, 113, 114, 115, 116] (by decide +kernel) (by decide +kernel)
set_option maxRecDepth 20000 in
theorem gX6_mixedBest_X5_findBridge : GoodIn wsX6_mixedBest (wsV RX6 245 RX5 yX5_findBridge wsX5_findBridge) := goodIn_app (goodIn_of _ (by decide +kernel)) ggX6_mixedBest_X5_findBridge
set_option maxRecDepth 20000 in
theorem ggX6_mixedBest_X6_mixed : GoodIn wsX6_mixedBest wsX6_mixed := goodIn_r _ [70, 71] (by decide +kernel) (by decide +kernel)
set_option maxRecDepth 20000 in
theorem gX6_mixedBest_X6_mixed : GoodIn wsX6_mixedBest (va_wsS RX6 262 yX6_mixed wsX6_mixed) := goodIn_app (goodIn_of _ (by decide +kernel)) ggX6_mixedBest_X6_mixed
set_option maxRecDepth 20000 in
theorem ggX6_mixedBest_X6_mixedBestBreak : GoodIn wsX6_mixedBest wsX6_mixedBestBreak := goodIn_r _ [79, 1, 2, 3, 4, 10, 80, 81, 82, 14, 83, 16, 18, 84, 20, 21, 19, 85, 86, 25, 87, 88, 89, 90, 91, 92, 93, 94, 22, 23, 24, 26, 27, 28, 8, 29, 30, 31, 32, 33, 34, 35, 36, 37, 38, 39, 40, 41, 42, 43, 44, 45, 46, 47, 48, 49, 50, 51, 52, 53, 54, 55, 56, 57, 58, 59, 60, 61, 62, 63, 64, 65, 66, 67, 68, 69, 70, 71, 95, 96, 97, 98, 99, 100, 101, 102, 103, 108, 109, 110, 111, 112, 113, 114, 104, 105, 106, 107, 115, 116] (by decide +kernel) (by decide +kernel)
set_option maxRecDepth 20000 in
theorem gX6_mixedBest_X6_mixedBestBreak : GoodIn wsX6_mixedBest (wsV RX6 293 RX6 yX6_mixedBestBreak wsX6_mixedBestBreak) := goodIn_app (goodIn_of _ (by decide +kernel)) ggX6_mixedBest_X6_mixedBestBreak
theorem dX6_mixedBest_0 : decode cX6_mixedBest 0 = .ok (.bipush 48, 2) := by decide +kernel
theorem dX6_mixedBest_2 : decode cX6_mixedBest 2 = .ok (.istore_n 3, 1) := by decide +kernel
theorem dX6_mixedBest_3 : decode cX6_mixedBest 3 = .ok (.aload_n 0, 1) := by decide +kernel
theorem dX6_mixedBest_4 : decode cX6_mixedBest 4 = .ok (.lload_n 1, 1) := by decide +kernel
theorem dX6_mixedBest_5 : decode cX6_mixedBest 5 = .ok (.iconst 0, 1) := by decide +kernel
theorem dX6_mixedBest_6 : decode cX6_mixedBest 6 = .ok (.bipush 95, 2) := by decide +kernel
theorem dX6_mixedBest_8 : decode cX6_mixedBest 8 = .ok (.invokevirtual 289, 3) := by decide +kernel
theorem dX6_mixedBest_11 : decode cX6_mixedBest 11 = .ok (.lstore 4, 2) := by decide +kernel
theorem dX6_mixedBest_13 : decode cX6_mixedBest 13 = .ok (.aload_n 0, 1) := by decide +kernel
theorem dX6_mixedBest_14 : decode cX6_mixedBest 14 = .ok (.lload 4, 2) := by decide +kernel
theorem dX6_mixedBest_16 : decode cX6_mixedBest 16 = .ok (.iconst 0, 1) := by decide +kernel
theorem dX6_mixedBest_17 : decode cX6_mixedBest 17 = .ok (.iload_n 3, 1) := by decide +kernel
theorem dX6_mixedBest_18 : decode cX6_mixedBest 18 = .ok (.iconst 1, 1) := by decide +kernel
theorem dX6_mixedBest_19 : decode cX6_mixedBest 19 = .ok (.isub, 1) := by decide +kernel
theorem dX6_mixedBest_20 : decode cX6_mixedBest 20 = .ok (.invokevirtual 289, 3) := by decide +kernel
theorem dX6_mixedBest_23 : decode cX6_mixedBest 23 = .ok (.lstore 4, 2) := by decide +kernel
theorem dX6_mixedBest_25 : decode cX6_mixedBest 25 = .ok (.aload_n 0, 1) := by decide +kernel
theorem dX6_mixedBest_26 : decode cX6_mixedBest 26 = .ok (.lload 4, 2) := by decide +kernel
theorem dX6_mixedBest_28 : decode cX6_mixedBest 28 = .ok (.iload_n 3, 1) := by decide +kernel
theorem dX6_mixedBest_29 : decode cX6_mixedBest 29 = .ok (.bipush 95, 2) := by decide +kernel
theorem dX6_mixedBest_31 : decode cX6_mixedBest 31 = .ok (.invokevirtual 289, 3) := by decide +kernel
theorem dX6_mixedBest_34 : decode cX6_mixedBest 34 = .ok (.lstore 4, 2) := by decide +kernel
theorem dX6_mixedBest_36 : decode cX6_mixedBest 36 = .ok (.aload_n 0, 1) := by decide +kernel
theorem dX6_mixedBest_37 : decode cX6_mixedBest 37 = .ok (.getfield 40, 3) := by decide +kernel
theorem dX6_mixedBest_40 : decode cX6_mixedBest 40 = .ok (.aload_n 0, 1) := by decide +kernel
theorem dX6_mixedBest_41 : decode cX6_mixedBest 41 = .ok (.getfield 12, 3) := by decide +kernel
theorem dX6_mixedBest_44 : decode cX6_mixedBest 44 = .ok (.aload_n 0, 1) := by decide +kernel
theorem dX6_mixedBest_45 : decode cX6_mixedBest 45 = .ok (.getfield 19, 3) := by decide +kernel
theorem dX6_mixedBest_48 : decode cX6_mixedBest 48 = .ok (.invokevirtual 245, 3) := by decide +kernel
theorem dX6_mixedBest_51 : decode cX6_mixedBest 51 = .ok (.lload 4, 2) := by decide +kernel
theorem dX6_mixedBest_53 : decode cX6_mixedBest 53 = .ok (.aload_n 0, 1) := by decide +kernel
theorem dX6_mixedBest_54 : decode cX6_mixedBest 54 = .ok (.getfield 40, 3) := by decide +kernel
theorem dX6_mixedBest_57 : decode cX6_mixedBest 57 = .ok (.getfield 239, 3) := by decide +kernel
theorem dX6_mixedBest_60 : decode cX6_mixedBest 60 = .ok (.i2l, 1) := by decide +kernel
theorem dX6_mixedBest_61 : decode cX6_mixedBest 61 = .ok (.invokestatic 262, 3) := by decide +kernel
theorem dX6_mixedBest_64 : decode cX6_mixedBest 64 = .ok (.lstore 4, 2) := by decide +kernel
theorem dX6_mixedBest_66 : decode cX6_mixedBest 66 = .ok (.aload_n 0, 1) := by decide +kernel
theorem dX6_mixedBest_67 : decode cX6_mixedBest 67 = .ok (.lload 4, 2) := by decide +kernel
theorem dX6_mixedBest_69 : decode cX6_mixedBest 69 = .ok (.iconst 1, 1) := by decide +kernel
theorem dX6_mixedBest_70 : decode cX6_mixedBest 70 = .ok (.invokevirtual 293, 3) := by decide +kernel
theorem dX6_mixedBest_73 : decode cX6_mixedBest 73 = .ok (.lstore 4, 2) := by decide +kernel
theorem dX6_mixedBest_75 : decode cX6_mixedBest 75 = .ok (.aload_n 0, 1) := by decide +kernel
theorem dX6_mixedBest_76 : decode cX6_mixedBest 76 = .ok (.lload 4, 2) := by decide +kernel
theorem dX6_mixedBest_78 : decode cX6_mixedBest 78 = .ok (.iconst (-1), 1) := by decide +kernel
theorem dX6_mixedBest_79 : decode cX6_mixedBest 79 = .ok (.invokevirtual 293, 3) := by decide +kernel
theorem dX6_mixedBest_82 : decode cX6_mixedBest 82 = .ok (.lreturn, 1) := by decide +kernel
set_option maxRecDepth 20000 in
theorem ggX6_mixedBestSteer_X5_findSteer : GoodIn wsX6_mixedBestSteer wsX5_findSteer := goodIn_r _ [10, 11, 12, 13, 14, 15, 16, 17, 18, 19, 20, 21, 22, 23, 24, 25, 26, 27, 28, 29, 30, 31, 32, 33, 34, 35, 36, 37, 38, 39, 40, 41, 9, 42, 43, 44, 45, 46, 47, 48, 49, 50, 51, 52, 53, 54, 55, 56, 57, 58, 59, 60, 61, 62, 63, 73, 74, 75, 76, 77, 78, 79, 80, 81, 82, 83, 84, 85, 86, 87, 88, 89] (by decide +kernel) (by decide +kernel)
set_option maxRecDepth 20000 in
theorem gX6_mixedBestSteer_X5_findSteer : GoodIn wsX6_mixedBestSteer (wsV RX6 235 RX5 yX5_findSteer wsX5_findSteer) := goodIn_app (goodIn_of _ (by decide +kernel)) ggX6_mixedBestSteer_X5_findSteer
set_option maxRecDepth 20000 in
theorem ggX6_mixedBestSteer_X6_mixed : GoodIn wsX6_mixedBestSteer wsX6_mixed := goodIn_r _ [66, 67] (by decide +kernel) (by decide +kernel)
set_option maxRecDepth 20000 in
theorem gX6_mixedBestSteer_X6_mixed : GoodIn wsX6_mixedBestSteer (va_wsS RX6 262 yX6_mixed wsX6_mixed) := goodIn_app (goodIn_of _ (by decide +kernel)) ggX6_mixedBestSteer_X6_mixed
theorem dX6_mixedBestSteer_0 : decode cX6_mixedBestSteer 0 = .ok (.aload_n 0, 1) := by decide +kernel
theorem dX6_mixedBestSteer_1 : decode cX6_mixedBestSteer 1 = .ok (.getfield 40, 3) := by decide +kernel
theorem dX6_mixedBestSteer_4 : decode cX6_mixedBestSteer 4 = .ok (.aload_n 0, 1) := by decide +kernel
theorem dX6_mixedBestSteer_5 : decode cX6_mixedBestSteer 5 = .ok (.getfield 12, 3) := by decide +kernel
theorem dX6_mixedBestSteer_8 : decode cX6_mixedBestSteer 8 = .ok (.aload_n 0, 1) := by decide +kernel
theorem dX6_mixedBestSteer_9 : decode cX6_mixedBestSteer 9 = .ok (.getfield 19, 3) := by decide +kernel
theorem dX6_mixedBestSteer_12 : decode cX6_mixedBestSteer 12 = .ok (.iload_n 3, 1) := by decide +kernel
theorem dX6_mixedBestSteer_13 : decode cX6_mixedBestSteer 13 = .ok (.iload 4, 2) := by decide +kernel
theorem dX6_mixedBestSteer_15 : decode cX6_mixedBestSteer 15 = .ok (.invokevirtual 235, 3) := by decide +kernel
theorem dX6_mixedBestSteer_18 : decode cX6_mixedBestSteer 18 = .ok (.lload_n 1, 1) := by decide +kernel
theorem dX6_mixedBestSteer_19 : decode cX6_mixedBestSteer 19 = .ok (.aload_n 0, 1) := by decide +kernel
theorem dX6_mixedBestSteer_20 : decode cX6_mixedBestSteer 20 = .ok (.getfield 40, 3) := by decide +kernel
theorem dX6_mixedBestSteer_23 : decode cX6_mixedBestSteer 23 = .ok (.getfield 239, 3) := by decide +kernel
theorem dX6_mixedBestSteer_26 : decode cX6_mixedBestSteer 26 = .ok (.i2l, 1) := by decide +kernel
theorem dX6_mixedBestSteer_27 : decode cX6_mixedBestSteer 27 = .ok (.invokestatic 262, 3) := by decide +kernel
theorem dX6_mixedBestSteer_30 : decode cX6_mixedBestSteer 30 = .ok (.aload_n 0, 1) := by decide +kernel
theorem dX6_mixedBestSteer_31 : decode cX6_mixedBestSteer 31 = .ok (.getfield 40, 3) := by decide +kernel
theorem dX6_mixedBestSteer_34 : decode cX6_mixedBestSteer 34 = .ok (.getfield 242, 3) := by decide +kernel
theorem dX6_mixedBestSteer_37 : decode cX6_mixedBestSteer 37 = .ok (.i2l, 1) := by decide +kernel
theorem dX6_mixedBestSteer_38 : decode cX6_mixedBestSteer 38 = .ok (.invokestatic 262, 3) := by decide +kernel
theorem dX6_mixedBestSteer_41 : decode cX6_mixedBestSteer 41 = .ok (.lreturn, 1) := by decide +kernel
set_option maxRecDepth 20000 in
theorem ggX6_mixedBestBreak_X5_findBreak : GoodIn wsX6_mixedBestBreak wsX5_findBreak := goodIn_r _ [10, 11, 12, 13, 14, 15, 16, 17, 18, 19, 20, 21, 22, 23, 24, 25, 26, 27, 28, 29, 30, 31, 32, 33, 34, 35, 36, 37, 38, 39, 40, 41, 42, 43, 44, 45, 46, 47, 48, 49, 50, 51, 9, 52, 53, 54, 55, 56, 57, 58, 59, 60, 61, 62, 63, 64, 65, 66, 67, 68, 69, 70, 71, 72, 73, 83, 84, 85, 86, 87, 88, 89, 90, 91, 92, 93, 94, 95, 96, 97, 98, 99] (by decide +kernel) (by decide +kernel)
set_option maxRecDepth 20000 in
theorem gX6_mixedBestBreak_X5_findBreak : GoodIn wsX6_mixedBestBreak (wsV RX6 249 RX5 yX5_findBreak wsX5_findBreak) := goodIn_app (goodIn_of _ (by decide +kernel)) ggX6_mixedBestBreak_X5_findBreak
set_option maxRecDepth 20000 in
theorem ggX6_mixedBestBreak_X6_mixed : GoodIn wsX6_mixedBestBreak wsX6_mixed := goodIn_r _ [76, 77] (by decide +kernel) (by decide +kernel)
set_option maxRecDepth 20000 in
theorem gX6_mixedBestBreak_X6_mixed : GoodIn wsX6_mixedBestBreak (va_wsS RX6 262 yX6_mixed wsX6_mixed) := goodIn_app (goodIn_of _ (by decide +kernel)) ggX6_mixedBestBreak_X6_mixed
theorem dX6_mixedBestBreak_0 : decode cX6_mixedBestBreak 0 = .ok (.aload_n 0, 1) := by decide +kernel
theorem dX6_mixedBestBreak_1 : decode cX6_mixedBestBreak 1 = .ok (.getfield 40, 3) := by decide +kernel
theorem dX6_mixedBestBreak_4 : decode cX6_mixedBestBreak 4 = .ok (.aload_n 0, 1) := by decide +kernel
theorem dX6_mixedBestBreak_5 : decode cX6_mixedBestBreak 5 = .ok (.getfield 12, 3) := by decide +kernel
theorem dX6_mixedBestBreak_8 : decode cX6_mixedBestBreak 8 = .ok (.aload_n 0, 1) := by decide +kernel
theorem dX6_mixedBestBreak_9 : decode cX6_mixedBestBreak 9 = .ok (.getfield 19, 3) := by decide +kernel
theorem dX6_mixedBestBreak_12 : decode cX6_mixedBestBreak 12 = .ok (.iload_n 3, 1) := by decide +kernel
theorem dX6_mixedBestBreak_13 : decode cX6_mixedBestBreak 13 = .ok (.invokevirtual 249, 3) := by decide +kernel
theorem dX6_mixedBestBreak_16 : decode cX6_mixedBestBreak 16 = .ok (.lload_n 1, 1) := by decide +kernel
theorem dX6_mixedBestBreak_17 : decode cX6_mixedBestBreak 17 = .ok (.aload_n 0, 1) := by decide +kernel
theorem dX6_mixedBestBreak_18 : decode cX6_mixedBestBreak 18 = .ok (.getfield 40, 3) := by decide +kernel
theorem dX6_mixedBestBreak_21 : decode cX6_mixedBestBreak 21 = .ok (.getfield 239, 3) := by decide +kernel
theorem dX6_mixedBestBreak_24 : decode cX6_mixedBestBreak 24 = .ok (.i2l, 1) := by decide +kernel
theorem dX6_mixedBestBreak_25 : decode cX6_mixedBestBreak 25 = .ok (.invokestatic 262, 3) := by decide +kernel
theorem dX6_mixedBestBreak_28 : decode cX6_mixedBestBreak 28 = .ok (.aload_n 0, 1) := by decide +kernel
theorem dX6_mixedBestBreak_29 : decode cX6_mixedBestBreak 29 = .ok (.getfield 40, 3) := by decide +kernel
theorem dX6_mixedBestBreak_32 : decode cX6_mixedBestBreak 32 = .ok (.getfield 242, 3) := by decide +kernel
theorem dX6_mixedBestBreak_35 : decode cX6_mixedBestBreak 35 = .ok (.i2l, 1) := by decide +kernel
theorem dX6_mixedBestBreak_36 : decode cX6_mixedBestBreak 36 = .ok (.invokestatic 262, 3) := by decide +kernel
theorem dX6_mixedBestBreak_39 : decode cX6_mixedBestBreak 39 = .ok (.lreturn, 1) := by decide +kernel
theorem dX6_bitsOfShare_0 : decode cX6_bitsOfShare 0 = .ok (.dload_n 0, 1) := by decide +kernel
theorem dX6_bitsOfShare_1 : decode cX6_bitsOfShare 1 = .ok (.dconst 0, 1) := by decide +kernel
theorem dX6_bitsOfShare_2 : decode cX6_bitsOfShare 2 = .ok (.dcmp .l, 1) := by decide +kernel
theorem dX6_bitsOfShare_3 : decode cX6_bitsOfShare 3 = .ok (.ifCond .gt 5, 3) := by decide +kernel
theorem dX6_bitsOfShare_6 : decode cX6_bitsOfShare 6 = .ok (.lconst 0, 1) := by decide +kernel
theorem dX6_bitsOfShare_7 : decode cX6_bitsOfShare 7 = .ok (.lreturn, 1) := by decide +kernel
theorem dX6_bitsOfShare_8 : decode cX6_bitsOfShare 8 = .ok (.dload_n 0, 1) := by decide +kernel
theorem dX6_bitsOfShare_9 : decode cX6_bitsOfShare 9 = .ok (.dstore_n 2, 1) := by decide +kernel
theorem dX6_bitsOfShare_10 : decode cX6_bitsOfShare 10 = .ok (.ldc2_w 297, 3) := by decide +kernel
theorem dX6_bitsOfShare_13 : decode cX6_bitsOfShare 13 = .ok (.lstore 4, 2) := by decide +kernel
theorem dX6_bitsOfShare_15 : decode cX6_bitsOfShare 15 = .ok (.iconst 0, 1) := by decide +kernel
theorem dX6_bitsOfShare_16 : decode cX6_bitsOfShare 16 = .ok (.istore 6, 2) := by decide +kernel
theorem dX6_bitsOfShare_18 : decode cX6_bitsOfShare 18 = .ok (.iload 6, 2) := by decide +kernel
theorem dX6_bitsOfShare_20 : decode cX6_bitsOfShare 20 = .ok (.sipush 1022, 3) := by decide +kernel
theorem dX6_bitsOfShare_23 : decode cX6_bitsOfShare 23 = .ok (.if_icmp .ge 27, 3) := by decide +kernel
theorem dX6_bitsOfShare_26 : decode cX6_bitsOfShare 26 = .ok (.dload_n 2, 1) := by decide +kernel
theorem dX6_bitsOfShare_27 : decode cX6_bitsOfShare 27 = .ok (.dconst 1, 1) := by decide +kernel
theorem dX6_bitsOfShare_28 : decode cX6_bitsOfShare 28 = .ok (.dcmp .g, 1) := by decide +kernel
theorem dX6_bitsOfShare_29 : decode cX6_bitsOfShare 29 = .ok (.ifCond .ge 21, 3) := by decide +kernel
theorem dX6_bitsOfShare_32 : decode cX6_bitsOfShare 32 = .ok (.dload_n 2, 1) := by decide +kernel
theorem dX6_bitsOfShare_33 : decode cX6_bitsOfShare 33 = .ok (.ldc2_w 299, 3) := by decide +kernel
theorem dX6_bitsOfShare_36 : decode cX6_bitsOfShare 36 = .ok (.dmul, 1) := by decide +kernel
theorem dX6_bitsOfShare_37 : decode cX6_bitsOfShare 37 = .ok (.dstore_n 2, 1) := by decide +kernel
theorem dX6_bitsOfShare_38 : decode cX6_bitsOfShare 38 = .ok (.lload 4, 2) := by decide +kernel
theorem dX6_bitsOfShare_40 : decode cX6_bitsOfShare 40 = .ok (.lconst 1, 1) := by decide +kernel
theorem dX6_bitsOfShare_41 : decode cX6_bitsOfShare 41 = .ok (.lsub, 1) := by decide +kernel
theorem dX6_bitsOfShare_42 : decode cX6_bitsOfShare 42 = .ok (.lstore 4, 2) := by decide +kernel
theorem dX6_bitsOfShare_44 : decode cX6_bitsOfShare 44 = .ok (.iinc 6 1, 3) := by decide +kernel
theorem dX6_bitsOfShare_47 : decode cX6_bitsOfShare 47 = .ok (.goto (-29), 3) := by decide +kernel
theorem dX6_bitsOfShare_50 : decode cX6_bitsOfShare 50 = .ok (.lload 4, 2) := by decide +kernel
theorem dX6_bitsOfShare_52 : decode cX6_bitsOfShare 52 = .ok (.bipush 52, 2) := by decide +kernel
theorem dX6_bitsOfShare_54 : decode cX6_bitsOfShare 54 = .ok (.lshl, 1) := by decide +kernel
theorem dX6_bitsOfShare_55 : decode cX6_bitsOfShare 55 = .ok (.dload_n 2, 1) := by decide +kernel
theorem dX6_bitsOfShare_56 : decode cX6_bitsOfShare 56 = .ok (.dconst 1, 1) := by decide +kernel
theorem dX6_bitsOfShare_57 : decode cX6_bitsOfShare 57 = .ok (.dsub, 1) := by decide +kernel
theorem dX6_bitsOfShare_58 : decode cX6_bitsOfShare 58 = .ok (.ldc2_w 301, 3) := by decide +kernel
theorem dX6_bitsOfShare_61 : decode cX6_bitsOfShare 61 = .ok (.dmul, 1) := by decide +kernel
theorem dX6_bitsOfShare_62 : decode cX6_bitsOfShare 62 = .ok (.d2l, 1) := by decide +kernel
theorem dX6_bitsOfShare_63 : decode cX6_bitsOfShare 63 = .ok (.ladd, 1) := by decide +kernel
theorem dX6_bitsOfShare_64 : decode cX6_bitsOfShare 64 = .ok (.lreturn, 1) := by decide +kernel
theorem dX6_settingOf_0 : decode cX6_settingOf 0 = .ok (.iload_n 1, 1) := by decide +kernel
theorem dX6_settingOf_1 : decode cX6_settingOf 1 = .ok (.ifCond .ne 13, 3) := by decide +kernel
theorem dX6_settingOf_4 : decode cX6_settingOf 4 = .ok (.aload_n 0, 1) := by decide +kernel
theorem dX6_settingOf_5 : decode cX6_settingOf 5 = .ok (.getfield 12, 3) := by decide +kernel
theorem dX6_settingOf_8 : decode cX6_settingOf 8 = .ok (.getfield 132, 3) := by decide +kernel
theorem dX6_settingOf_11 : decode cX6_settingOf 11 = .ok (.goto 10, 3) := by decide +kernel
theorem dX6_settingOf_14 : decode cX6_settingOf 14 = .ok (.aload_n 0, 1) := by decide +kernel
theorem dX6_settingOf_15 : decode cX6_settingOf 15 = .ok (.getfield 12, 3) := by decide +kernel
theorem dX6_settingOf_18 : decode cX6_settingOf 18 = .ok (.getfield 136, 3) := by decide +kernel
theorem dX6_settingOf_21 : decode cX6_settingOf 21 = .ok (.ireturn, 1) := by decide +kernel
set_option maxRecDepth 20000 in
theorem ggX6_rightNotes_X0_sameNotes : GoodIn wsX6_rightNotes wsX0_sameNotes := goodIn_r _ [9, 10, 11, 12, 13, 14, 15, 16, 17, 18, 19, 36, 37] (by decide +kernel) (by decide +kernel)
set_option maxRecDepth 20000 in
theorem gX6_rightNotes_X0_sameNotes : GoodIn wsX6_rightNotes (wsV RX6 303 RX0 yX0_sameNotes wsX0_sameNotes) := goodIn_app (goodIn_of _ (by decide +kernel)) ggX6_rightNotes_X0_sameNotes
theorem dX6_rightNotes_0 : decode cX6_rightNotes 0 = .ok (.aload_n 0, 1) := by decide +kernel
theorem dX6_rightNotes_1 : decode cX6_rightNotes 1 = .ok (.getfield 19, 3) := by decide +kernel
theorem dX6_rightNotes_4 : decode cX6_rightNotes 4 = .ok (.getfield 143, 3) := by decide +kernel
theorem dX6_rightNotes_7 : decode cX6_rightNotes 7 = .ok (.aload_n 0, 1) := by decide +kernel
theorem dX6_rightNotes_8 : decode cX6_rightNotes 8 = .ok (.getfield 12, 3) := by decide +kernel
theorem dX6_rightNotes_11 : decode cX6_rightNotes 11 = .ok (.getfield 139, 3) := by decide +kernel
theorem dX6_rightNotes_14 : decode cX6_rightNotes 14 = .ok (.invokevirtual 303, 3) := by decide +kernel
theorem dX6_rightNotes_17 : decode cX6_rightNotes 17 = .ok (.ireturn, 1) := by decide +kernel
set_option maxRecDepth 20000 in
theorem ggX6_rightShare_X0_noteCount : GoodIn wsX6_rightShare wsX0_noteCount := goodIn_r _ [7, 8, 9, 10, 11, 12, 13, 14, 15, 16, 17, 18, 19, 44, 45] (by decide +kernel) (by decide +kernel)
set_option maxRecDepth 20000 in
theorem gX6_rightShare_X0_noteCount : GoodIn wsX6_rightShare (wsV RX6 152 RX0 yX0_noteCount wsX0_noteCount) := goodIn_app (goodIn_of _ (by decide +kernel)) ggX6_rightShare_X0_noteCount
set_option maxRecDepth 20000 in
theorem ggX6_rightShare_X6_rightNotes : GoodIn wsX6_rightShare wsX6_rightNotes := goodIn_r _ [23, 24, 25, 1, 2, 26, 27, 28, 6, 29, 8, 9, 30, 31, 14, 15, 16, 17, 18, 19, 32, 33, 34, 35, 36, 46, 47, 48, 49, 37, 38, 39, 40, 41, 42, 43, 44, 45] (by decide +kernel) (by decide +kernel)
set_option maxRecDepth 20000 in
theorem gX6_rightShare_X6_rightNotes : GoodIn wsX6_rightShare (wsV RX6 103 RX6 yX6_rightNotes wsX6_rightNotes) := goodIn_app (goodIn_of _ (by decide +kernel)) ggX6_rightShare_X6_rightNotes
theorem dX6_rightShare_0 : decode cX6_rightShare 0 = .ok (.aload_n 0, 1) := by decide +kernel
theorem dX6_rightShare_1 : decode cX6_rightShare 1 = .ok (.getfield 12, 3) := by decide +kernel
theorem dX6_rightShare_4 : decode cX6_rightShare 4 = .ok (.getfield 139, 3) := by decide +kernel
theorem dX6_rightShare_7 : decode cX6_rightShare 7 = .ok (.invokevirtual 152, 3) := by decide +kernel
theorem dX6_rightShare_10 : decode cX6_rightShare 10 = .ok (.istore_n 1, 1) := by decide +kernel
theorem dX6_rightShare_11 : decode cX6_rightShare 11 = .ok (.iload_n 1, 1) := by decide +kernel
theorem dX6_rightShare_12 : decode cX6_rightShare 12 = .ok (.ifCond .ne 7, 3) := by decide +kernel
theorem dX6_rightShare_15 : decode cX6_rightShare 15 = .ok (.dconst 0, 1) := by decide +kernel
theorem dX6_rightShare_16 : decode cX6_rightShare 16 = .ok (.goto 11, 3) := by decide +kernel
theorem dX6_rightShare_19 : decode cX6_rightShare 19 = .ok (.aload_n 0, 1) := by decide +kernel
theorem dX6_rightShare_20 : decode cX6_rightShare 20 = .ok (.invokevirtual 103, 3) := by decide +kernel
theorem dX6_rightShare_23 : decode cX6_rightShare 23 = .ok (.i2d, 1) := by decide +kernel
theorem dX6_rightShare_24 : decode cX6_rightShare 24 = .ok (.iload_n 1, 1) := by decide +kernel
theorem dX6_rightShare_25 : decode cX6_rightShare 25 = .ok (.i2d, 1) := by decide +kernel
theorem dX6_rightShare_26 : decode cX6_rightShare 26 = .ok (.ddiv, 1) := by decide +kernel
theorem dX6_rightShare_27 : decode cX6_rightShare 27 = .ok (.dreturn, 1) := by decide +kernel
set_option maxRecDepth 20000 in
theorem ggX6_ofStep_X6_isStep : GoodIn wsX6_ofStep wsX6_isStep := goodIn_r _ [12] (by decide +kernel) (by decide +kernel)
set_option maxRecDepth 20000 in
theorem gX6_ofStep_X6_isStep : GoodIn wsX6_ofStep (va_wsS RX6 44 yX6_isStep wsX6_isStep) := goodIn_app (goodIn_of _ (by decide +kernel)) ggX6_ofStep_X6_isStep
set_option maxRecDepth 20000 in
theorem ggX6_ofStep_X1_isPedalWished : GoodIn wsX6_ofStep wsX1_isPedalWished := goodIn_r _ [17, 18, 19, 20, 21, 10, 11, 12, 41, 42, 43, 44, 45, 46] (by decide +kernel) (by decide +kernel)
set_option maxRecDepth 20000 in
theorem gX6_ofStep_X1_isPedalWished : GoodIn wsX6_ofStep (wsV RX6 314 RX1 yX1_isPedalWished wsX1_isPedalWished) := goodIn_app (goodIn_of _ (by decide +kernel)) ggX6_ofStep_X1_isPedalWished
set_option maxRecDepth 20000 in
theorem ggX6_ofStep_X3_openAt : GoodIn wsX6_ofStep wsX3_openAt := goodIn_r _ [26, 27, 28, 10, 11, 12, 34, 35, 36, 37, 38, 39, 40] (by decide +kernel) (by decide +kernel)
set_option maxRecDepth 20000 in
theorem gX6_ofStep_X3_openAt : GoodIn wsX6_ofStep (wsV RX6 317 RX3 yX3_openAt wsX3_openAt) := goodIn_app (goodIn_of _ (by decide +kernel)) ggX6_ofStep_X3_openAt
theorem dX6_ofStep_0 : decode cX6_ofStep 0 = .ok (.iload_n 1, 1) := by decide +kernel
theorem dX6_ofStep_1 : decode cX6_ofStep 1 = .ok (.invokestatic 44, 3) := by decide +kernel
theorem dX6_ofStep_4 : decode cX6_ofStep 4 = .ok (.ifCond .ne 5, 3) := by decide +kernel
theorem dX6_ofStep_7 : decode cX6_ofStep 7 = .ok (.iconst (-1), 1) := by decide +kernel
theorem dX6_ofStep_8 : decode cX6_ofStep 8 = .ok (.ireturn, 1) := by decide +kernel
theorem dX6_ofStep_9 : decode cX6_ofStep 9 = .ok (.iload_n 2, 1) := by decide +kernel
theorem dX6_ofStep_10 : decode cX6_ofStep 10 = .ok (.tableswitch 126 0 5 #[38, 48, 58, 74, 90, 102], 38) := by decide +kernel
theorem dX6_ofStep_48 : decode cX6_ofStep 48 = .ok (.aload_n 0, 1) := by decide +kernel
theorem dX6_ofStep_49 : decode cX6_ofStep 49 = .ok (.getfield 12, 3) := by decide +kernel
theorem dX6_ofStep_52 : decode cX6_ofStep 52 = .ok (.getfield 206, 3) := by decide +kernel
theorem dX6_ofStep_55 : decode cX6_ofStep 55 = .ok (.iload_n 1, 1) := by decide +kernel
theorem dX6_ofStep_56 : decode cX6_ofStep 56 = .ok (.iaload, 1) := by decide +kernel
theorem dX6_ofStep_57 : decode cX6_ofStep 57 = .ok (.ireturn, 1) := by decide +kernel
theorem dX6_ofStep_58 : decode cX6_ofStep 58 = .ok (.aload_n 0, 1) := by decide +kernel
theorem dX6_ofStep_59 : decode cX6_ofStep 59 = .ok (.getfield 12, 3) := by decide +kernel
theorem dX6_ofStep_62 : decode cX6_ofStep 62 = .ok (.getfield 209, 3) := by decide +kernel
theorem dX6_ofStep_65 : decode cX6_ofStep 65 = .ok (.iload_n 1, 1) := by decide +kernel
theorem dX6_ofStep_66 : decode cX6_ofStep 66 = .ok (.iaload, 1) := by decide +kernel
theorem dX6_ofStep_67 : decode cX6_ofStep 67 = .ok (.ireturn, 1) := by decide +kernel
theorem dX6_ofStep_68 : decode cX6_ofStep 68 = .ok (.aload_n 0, 1) := by decide +kernel
theorem dX6_ofStep_69 : decode cX6_ofStep 69 = .ok (.getfield 19, 3) := by decide +kernel
theorem dX6_ofStep_72 : decode cX6_ofStep 72 = .ok (.getfield 307, 3) := by decide +kernel
theorem dX6_ofStep_75 : decode cX6_ofStep 75 = .ok (.iload_n 1, 1) := by decide +kernel
theorem dX6_ofStep_76 : decode cX6_ofStep 76 = .ok (.iaload, 1) := by decide +kernel
theorem dX6_ofStep_77 : decode cX6_ofStep 77 = .ok (.ldc_w 310, 3) := by decide +kernel
theorem dX6_ofStep_80 : decode cX6_ofStep 80 = .ok (.iand, 1) := by decide +kernel
theorem dX6_ofStep_81 : decode cX6_ofStep 81 = .ok (.iconst 1, 1) := by decide +kernel
theorem dX6_ofStep_82 : decode cX6_ofStep 82 = .ok (.ishr, 1) := by decide +kernel
theorem dX6_ofStep_83 : decode cX6_ofStep 83 = .ok (.ireturn, 1) := by decide +kernel
theorem dX6_ofStep_84 : decode cX6_ofStep 84 = .ok (.aload_n 0, 1) := by decide +kernel
theorem dX6_ofStep_85 : decode cX6_ofStep 85 = .ok (.getfield 19, 3) := by decide +kernel
theorem dX6_ofStep_88 : decode cX6_ofStep 88 = .ok (.getfield 311, 3) := by decide +kernel
theorem dX6_ofStep_91 : decode cX6_ofStep 91 = .ok (.iload_n 1, 1) := by decide +kernel
theorem dX6_ofStep_92 : decode cX6_ofStep 92 = .ok (.iaload, 1) := by decide +kernel
theorem dX6_ofStep_93 : decode cX6_ofStep 93 = .ok (.ldc_w 310, 3) := by decide +kernel
theorem dX6_ofStep_96 : decode cX6_ofStep 96 = .ok (.iand, 1) := by decide +kernel
theorem dX6_ofStep_97 : decode cX6_ofStep 97 = .ok (.iconst 1, 1) := by decide +kernel
theorem dX6_ofStep_98 : decode cX6_ofStep 98 = .ok (.ishr, 1) := by decide +kernel
theorem dX6_ofStep_99 : decode cX6_ofStep 99 = .ok (.ireturn, 1) := by decide +kernel
theorem dX6_ofStep_100 : decode cX6_ofStep 100 = .ok (.aload_n 0, 1) := by decide +kernel
theorem dX6_ofStep_101 : decode cX6_ofStep 101 = .ok (.getfield 19, 3) := by decide +kernel
theorem dX6_ofStep_104 : decode cX6_ofStep 104 = .ok (.getfield 307, 3) := by decide +kernel
theorem dX6_ofStep_107 : decode cX6_ofStep 107 = .ok (.iload_n 1, 1) := by decide +kernel
theorem dX6_ofStep_108 : decode cX6_ofStep 108 = .ok (.iaload, 1) := by decide +kernel
theorem dX6_ofStep_109 : decode cX6_ofStep 109 = .ok (.iconst 1, 1) := by decide +kernel
theorem dX6_ofStep_110 : decode cX6_ofStep 110 = .ok (.iand, 1) := by decide +kernel
theorem dX6_ofStep_111 : decode cX6_ofStep 111 = .ok (.ireturn, 1) := by decide +kernel
theorem dX6_ofStep_112 : decode cX6_ofStep 112 = .ok (.aload_n 0, 1) := by decide +kernel
theorem dX6_ofStep_113 : decode cX6_ofStep 113 = .ok (.getfield 19, 3) := by decide +kernel
theorem dX6_ofStep_116 : decode cX6_ofStep 116 = .ok (.iload_n 1, 1) := by decide +kernel
theorem dX6_ofStep_117 : decode cX6_ofStep 117 = .ok (.aload_n 0, 1) := by decide +kernel
theorem dX6_ofStep_118 : decode cX6_ofStep 118 = .ok (.getfield 12, 3) := by decide +kernel
theorem dX6_ofStep_121 : decode cX6_ofStep 121 = .ok (.getfield 136, 3) := by decide +kernel
theorem dX6_ofStep_124 : decode cX6_ofStep 124 = .ok (.invokevirtual 314, 3) := by decide +kernel
theorem dX6_ofStep_127 : decode cX6_ofStep 127 = .ok (.ifCond .eq 7, 3) := by decide +kernel
theorem dX6_ofStep_130 : decode cX6_ofStep 130 = .ok (.iconst 1, 1) := by decide +kernel
theorem dX6_ofStep_131 : decode cX6_ofStep 131 = .ok (.goto 4, 3) := by decide +kernel
theorem dX6_ofStep_134 : decode cX6_ofStep 134 = .ok (.iconst 0, 1) := by decide +kernel
theorem dX6_ofStep_135 : decode cX6_ofStep 135 = .ok (.ireturn, 1) := by decide +kernel
theorem dX6_ofStep_136 : decode cX6_ofStep 136 = .ok (.aload_n 0, 1) := by decide +kernel
theorem dX6_ofStep_137 : decode cX6_ofStep 137 = .ok (.getfield 12, 3) := by decide +kernel
theorem dX6_ofStep_140 : decode cX6_ofStep 140 = .ok (.iload_n 1, 1) := by decide +kernel
theorem dX6_ofStep_141 : decode cX6_ofStep 141 = .ok (.invokevirtual 317, 3) := by decide +kernel
theorem dX6_ofStep_144 : decode cX6_ofStep 144 = .ok (.ireturn, 1) := by decide +kernel
set_option maxRecDepth 20000 in
theorem ggX6_ofPlayed_X0_lastStepFrom : GoodIn wsX6_ofPlayed wsX0_lastStepFrom := goodIn_r _ [9, 10, 53, 54] (by decide +kernel) (by decide +kernel)
set_option maxRecDepth 20000 in
theorem gX6_ofPlayed_X0_lastStepFrom : GoodIn wsX6_ofPlayed (wsV RX6 320 RX0 yX0_lastStepFrom wsX0_lastStepFrom) := goodIn_app (goodIn_of _ (by decide +kernel)) ggX6_ofPlayed_X0_lastStepFrom
set_option maxRecDepth 20000 in
theorem ggX6_ofPlayed_X1_lastSoundAfter : GoodIn wsX6_ofPlayed wsX1_lastSoundAfter := goodIn_r _ [15, 16, 17, 18, 19, 20, 8, 21, 22, 23, 24, 25, 42, 43, 44, 45, 53, 54] (by decide +kernel) (by decide +kernel)
set_option maxRecDepth 20000 in
theorem gX6_ofPlayed_X1_lastSoundAfter : GoodIn wsX6_ofPlayed (wsV RX6 323 RX1 yX1_lastSoundAfter wsX1_lastSoundAfter) := goodIn_app (goodIn_of _ (by decide +kernel)) ggX6_ofPlayed_X1_lastSoundAfter
set_option maxRecDepth 20000 in
theorem ggX6_ofPlayed_X1_holesRead : GoodIn wsX6_ofPlayed wsX1_holesRead := goodIn_r _ [29, 30, 42, 43, 44, 45] (by decide +kernel) (by decide +kernel)
set_option maxRecDepth 20000 in
theorem gX6_ofPlayed_X1_holesRead : GoodIn wsX6_ofPlayed (wsV RX6 326 RX1 yX1_holesRead wsX1_holesRead) := goodIn_app (goodIn_of _ (by decide +kernel)) ggX6_ofPlayed_X1_holesRead
set_option maxRecDepth 20000 in
theorem ggX6_ofPlayed_X0_hasChain : GoodIn wsX6_ofPlayed wsX0_hasChain := goodIn_r _ [34, 35, 19, 20, 8, 21, 22, 23, 24, 25, 36, 6, 7, 9, 10, 53, 54] (by decide +kernel) (by decide +kernel)
set_option maxRecDepth 20000 in
theorem gX6_ofPlayed_X0_hasChain : GoodIn wsX6_ofPlayed (wsV RX6 329 RX0 yX0_hasChain wsX0_hasChain) := goodIn_app (goodIn_of _ (by decide +kernel)) ggX6_ofPlayed_X0_hasChain
theorem dX6_ofPlayed_0 : decode cX6_ofPlayed 0 = .ok (.aload_n 0, 1) := by decide +kernel
theorem dX6_ofPlayed_1 : decode cX6_ofPlayed 1 = .ok (.getfield 19, 3) := by decide +kernel
theorem dX6_ofPlayed_4 : decode cX6_ofPlayed 4 = .ok (.getfield 143, 3) := by decide +kernel
theorem dX6_ofPlayed_7 : decode cX6_ofPlayed 7 = .ok (.iload_n 1, 1) := by decide +kernel
theorem dX6_ofPlayed_8 : decode cX6_ofPlayed 8 = .ok (.iload_n 2, 1) := by decide +kernel
theorem dX6_ofPlayed_9 : decode cX6_ofPlayed 9 = .ok (.invokevirtual 320, 3) := by decide +kernel
theorem dX6_ofPlayed_12 : decode cX6_ofPlayed 12 = .ok (.istore 4, 2) := by decide +kernel
theorem dX6_ofPlayed_14 : decode cX6_ofPlayed 14 = .ok (.iload_n 3, 1) := by decide +kernel
theorem dX6_ofPlayed_15 : decode cX6_ofPlayed 15 = .ok (.tableswitch 65 0 4 #[33, 37, 39, 42, 53], 33) := by decide +kernel
theorem dX6_ofPlayed_48 : decode cX6_ofPlayed 48 = .ok (.iload_n 1, 1) := by decide +kernel
theorem dX6_ofPlayed_49 : decode cX6_ofPlayed 49 = .ok (.iconst 1, 1) := by decide +kernel
theorem dX6_ofPlayed_50 : decode cX6_ofPlayed 50 = .ok (.isub, 1) := by decide +kernel
theorem dX6_ofPlayed_51 : decode cX6_ofPlayed 51 = .ok (.ireturn, 1) := by decide +kernel
theorem dX6_ofPlayed_52 : decode cX6_ofPlayed 52 = .ok (.iload_n 2, 1) := by decide +kernel
theorem dX6_ofPlayed_53 : decode cX6_ofPlayed 53 = .ok (.ireturn, 1) := by decide +kernel
theorem dX6_ofPlayed_54 : decode cX6_ofPlayed 54 = .ok (.iload 4, 2) := by decide +kernel
theorem dX6_ofPlayed_56 : decode cX6_ofPlayed 56 = .ok (.ireturn, 1) := by decide +kernel
theorem dX6_ofPlayed_57 : decode cX6_ofPlayed 57 = .ok (.aload_n 0, 1) := by decide +kernel
theorem dX6_ofPlayed_58 : decode cX6_ofPlayed 58 = .ok (.getfield 19, 3) := by decide +kernel
theorem dX6_ofPlayed_61 : decode cX6_ofPlayed 61 = .ok (.iload_n 1, 1) := by decide +kernel
theorem dX6_ofPlayed_62 : decode cX6_ofPlayed 62 = .ok (.iload 4, 2) := by decide +kernel
theorem dX6_ofPlayed_64 : decode cX6_ofPlayed 64 = .ok (.invokevirtual 323, 3) := by decide +kernel
theorem dX6_ofPlayed_67 : decode cX6_ofPlayed 67 = .ok (.ireturn, 1) := by decide +kernel
theorem dX6_ofPlayed_68 : decode cX6_ofPlayed 68 = .ok (.aload_n 0, 1) := by decide +kernel
theorem dX6_ofPlayed_69 : decode cX6_ofPlayed 69 = .ok (.getfield 19, 3) := by decide +kernel
theorem dX6_ofPlayed_72 : decode cX6_ofPlayed 72 = .ok (.iload_n 1, 1) := by decide +kernel
theorem dX6_ofPlayed_73 : decode cX6_ofPlayed 73 = .ok (.iload_n 2, 1) := by decide +kernel
theorem dX6_ofPlayed_74 : decode cX6_ofPlayed 74 = .ok (.iload 4, 2) := by decide +kernel
theorem dX6_ofPlayed_76 : decode cX6_ofPlayed 76 = .ok (.invokevirtual 326, 3) := by decide +kernel
theorem dX6_ofPlayed_79 : decode cX6_ofPlayed 79 = .ok (.ireturn, 1) := by decide +kernel
theorem dX6_ofPlayed_80 : decode cX6_ofPlayed 80 = .ok (.aload_n 0, 1) := by decide +kernel
theorem dX6_ofPlayed_81 : decode cX6_ofPlayed 81 = .ok (.getfield 12, 3) := by decide +kernel
theorem dX6_ofPlayed_84 : decode cX6_ofPlayed 84 = .ok (.getfield 139, 3) := by decide +kernel
theorem dX6_ofPlayed_87 : decode cX6_ofPlayed 87 = .ok (.iload_n 1, 1) := by decide +kernel
theorem dX6_ofPlayed_88 : decode cX6_ofPlayed 88 = .ok (.iload_n 2, 1) := by decide +kernel
theorem dX6_ofPlayed_89 : decode cX6_ofPlayed 89 = .ok (.iload 4, 2) := by decide +kernel
theorem dX6_ofPlayed_91 : decode cX6_ofPlayed 91 = .ok (.invokevirtual 329, 3) := by decide +kernel
theorem dX6_ofPlayed_94 : decode cX6_ofPlayed 94 = .ok (.ifCond .eq 7, 3) := by decide +kernel
theorem dX6_ofPlayed_97 : decode cX6_ofPlayed 97 = .ok (.iconst 1, 1) := by decide +kernel
theorem dX6_ofPlayed_98 : decode cX6_ofPlayed 98 = .ok (.goto 4, 3) := by decide +kernel
theorem dX6_ofPlayed_101 : decode cX6_ofPlayed 101 = .ok (.iconst 0, 1) := by decide +kernel
theorem dX6_ofPlayed_102 : decode cX6_ofPlayed 102 = .ok (.ireturn, 1) := by decide +kernel
set_option maxRecDepth 20000 in
theorem ggX6_ofTune_X0_lastStepFrom : GoodIn wsX6_ofTune wsX0_lastStepFrom := goodIn_r _ [9, 10, 40, 41] (by decide +kernel) (by decide +kernel)
set_option maxRecDepth 20000 in
theorem gX6_ofTune_X0_lastStepFrom : GoodIn wsX6_ofTune (wsV RX6 320 RX0 yX0_lastStepFrom wsX0_lastStepFrom) := goodIn_app (goodIn_of _ (by decide +kernel)) ggX6_ofTune_X0_lastStepFrom
set_option maxRecDepth 20000 in
theorem ggX6_ofTune_X0_hasChain : GoodIn wsX6_ofTune wsX0_hasChain := goodIn_r _ [14, 15, 16, 17, 8, 18, 19, 20, 21, 22, 23, 6, 7, 9, 10, 40, 41] (by decide +kernel) (by decide +kernel)
set_option maxRecDepth 20000 in
theorem gX6_ofTune_X0_hasChain : GoodIn wsX6_ofTune (wsV RX6 329 RX0 yX0_hasChain wsX0_hasChain) := goodIn_app (goodIn_of _ (by decide +kernel)) ggX6_ofTune_X0_hasChain
theorem dX6_ofTune_0 : decode cX6_ofTune 0 = .ok (.aload_n 0, 1) := by decide +kernel
theorem dX6_ofTune_1 : decode cX6_ofTune 1 = .ok (.getfield 12, 3) := by decide +kernel
theorem dX6_ofTune_4 : decode cX6_ofTune 4 = .ok (.getfield 139, 3) := by decide +kernel
theorem dX6_ofTune_7 : decode cX6_ofTune 7 = .ok (.iload_n 1, 1) := by decide +kernel
theorem dX6_ofTune_8 : decode cX6_ofTune 8 = .ok (.iload_n 2, 1) := by decide +kernel
theorem dX6_ofTune_9 : decode cX6_ofTune 9 = .ok (.invokevirtual 320, 3) := by decide +kernel
theorem dX6_ofTune_12 : decode cX6_ofTune 12 = .ok (.istore 4, 2) := by decide +kernel
theorem dX6_ofTune_14 : decode cX6_ofTune 14 = .ok (.iload_n 3, 1) := by decide +kernel
theorem dX6_ofTune_15 : decode cX6_ofTune 15 = .ok (.tableswitch 34 0 2 #[25, 29, 31], 25) := by decide +kernel
theorem dX6_ofTune_40 : decode cX6_ofTune 40 = .ok (.iload_n 1, 1) := by decide +kernel
theorem dX6_ofTune_41 : decode cX6_ofTune 41 = .ok (.iconst 1, 1) := by decide +kernel
theorem dX6_ofTune_42 : decode cX6_ofTune 42 = .ok (.isub, 1) := by decide +kernel
theorem dX6_ofTune_43 : decode cX6_ofTune 43 = .ok (.ireturn, 1) := by decide +kernel
theorem dX6_ofTune_44 : decode cX6_ofTune 44 = .ok (.iload_n 2, 1) := by decide +kernel
theorem dX6_ofTune_45 : decode cX6_ofTune 45 = .ok (.ireturn, 1) := by decide +kernel
theorem dX6_ofTune_46 : decode cX6_ofTune 46 = .ok (.iload 4, 2) := by decide +kernel
theorem dX6_ofTune_48 : decode cX6_ofTune 48 = .ok (.ireturn, 1) := by decide +kernel
theorem dX6_ofTune_49 : decode cX6_ofTune 49 = .ok (.aload_n 0, 1) := by decide +kernel
theorem dX6_ofTune_50 : decode cX6_ofTune 50 = .ok (.getfield 19, 3) := by decide +kernel
theorem dX6_ofTune_53 : decode cX6_ofTune 53 = .ok (.getfield 143, 3) := by decide +kernel
theorem dX6_ofTune_56 : decode cX6_ofTune 56 = .ok (.iload_n 1, 1) := by decide +kernel
theorem dX6_ofTune_57 : decode cX6_ofTune 57 = .ok (.iload_n 2, 1) := by decide +kernel
theorem dX6_ofTune_58 : decode cX6_ofTune 58 = .ok (.iload 4, 2) := by decide +kernel
theorem dX6_ofTune_60 : decode cX6_ofTune 60 = .ok (.invokevirtual 329, 3) := by decide +kernel
theorem dX6_ofTune_63 : decode cX6_ofTune 63 = .ok (.ifCond .eq 7, 3) := by decide +kernel
theorem dX6_ofTune_66 : decode cX6_ofTune 66 = .ok (.iconst 0, 1) := by decide +kernel
theorem dX6_ofTune_67 : decode cX6_ofTune 67 = .ok (.goto 4, 3) := by decide +kernel
theorem dX6_ofTune_70 : decode cX6_ofTune 70 = .ok (.iconst 1, 1) := by decide +kernel
theorem dX6_ofTune_71 : decode cX6_ofTune 71 = .ok (.ireturn, 1) := by decide +kernel
set_option maxRecDepth 20000 in
theorem ggX6_counted_X6_bitsIn : GoodIn wsX6_counted wsX6_bitsIn := goodIn_r _ [17, 18, 19, 20, 21, 22, 23, 24] (by decide +kernel) (by decide +kernel)
set_option maxRecDepth 20000 in
theorem gX6_counted_X6_bitsIn : GoodIn wsX6_counted (va_wsS RX6 333 yX6_bitsIn wsX6_bitsIn) := goodIn_app (goodIn_of _ (by decide +kernel)) ggX6_counted_X6_bitsIn
set_option maxRecDepth 20000 in
theorem ggX6_counted_X3_openHoles : GoodIn wsX6_counted wsX3_openHoles := goodIn_r _ [29, 30, 31, 32, 28, 33, 34, 35, 36, 16, 37, 38, 19, 20, 21, 22, 23, 24, 108, 109, 110, 111, 112, 113, 114] (by decide +kernel) (by decide +kernel)
set_option maxRecDepth 20000 in
theorem gX6_counted_X3_openHoles : GoodIn wsX6_counted (wsV RX6 337 RX3 yX3_openHoles wsX3_openHoles) := goodIn_app (goodIn_of _ (by decide +kernel)) ggX6_counted_X3_openHoles
set_option maxRecDepth 20000 in
theorem ggX6_counted_X0_noteCount : GoodIn wsX6_counted wsX0_noteCount := goodIn_r _ [43, 44, 45, 15, 16, 17, 18, 19, 20, 21, 22, 23, 24, 119, 120] (by decide +kernel) (by decide +kernel)
set_option maxRecDepth 20000 in
theorem gX6_counted_X0_noteCount : GoodIn wsX6_counted (wsV RX6 152 RX0 yX0_noteCount wsX0_noteCount) := goodIn_app (goodIn_of _ (by decide +kernel)) ggX6_counted_X0_noteCount
set_option maxRecDepth 20000 in
theorem ggX6_counted_X6_rightNotes : GoodIn wsX6_counted wsX6_rightNotes := goodIn_r _ [49, 5, 6, 1, 7, 50, 51, 52, 42, 53, 44, 45, 54, 55, 19, 20, 21, 22, 23, 24, 103, 104, 105, 106, 107, 115, 116, 117, 118, 108, 109, 110, 111, 112, 113, 114, 119, 120] (by decide +kernel) (by decide +kernel)
set_option maxRecDepth 20000 in
theorem gX6_counted_X6_rightNotes : GoodIn wsX6_counted (wsV RX6 103 RX6 yX6_rightNotes wsX6_rightNotes) := goodIn_app (goodIn_of _ (by decide +kernel)) ggX6_counted_X6_rightNotes
set_option maxRecDepth 20000 in
theorem ggX6_counted_X1_stepsWished : GoodIn wsX6_counted wsX1_stepsWished := goodIn_r _ [60, 61, 62, 63, 59, 64, 65, 66, 67, 68, 36, 16, 37, 115, 116, 117, 118, 119, 120] (by decide +kernel) (by decide +kernel)
set_option maxRecDepth 20000 in
theorem gX6_counted_X1_stepsWished : GoodIn wsX6_counted (wsV RX6 343 RX1 yX1_stepsWished wsX1_stepsWished) := goodIn_app (goodIn_of _ (by decide +kernel)) ggX6_counted_X1_stepsWished
set_option maxRecDepth 20000 in
theorem ggX6_counted_X1_holesOfWrong : GoodIn wsX6_counted wsX1_holesOfWrong := goodIn_r _ [72, 67, 68, 73, 74, 75, 42, 76, 44, 36, 16, 37, 77, 78, 79, 80, 54, 81, 82, 83, 84, 85, 86, 87, 88, 89, 59, 90, 91, 115, 116, 117, 118, 119, 120] (by decide +kernel) (by decide +kernel)
set_option maxRecDepth 20000 in
theorem gX6_counted_X1_holesOfWrong : GoodIn wsX6_counted (wsV RX6 346 RX1 yX1_holesOfWrong wsX1_holesOfWrong) := goodIn_app (goodIn_of _ (by decide +kernel)) ggX6_counted_X1_holesOfWrong
set_option maxRecDepth 20000 in
theorem ggX6_counted_X3_tornSteps : GoodIn wsX6_counted wsX3_tornSteps := goodIn_r _ [95, 96, 108, 109, 110, 111, 112, 113, 114] (by decide +kernel) (by decide +kernel)
set_option maxRecDepth 20000 in
theorem gX6_counted_X3_tornSteps : GoodIn wsX6_counted (wsV RX6 353 RX3 yX3_tornSteps wsX3_tornSteps) := goodIn_app (goodIn_of _ (by decide +kernel)) ggX6_counted_X3_tornSteps
set_option maxRecDepth 20000 in
theorem ggX6_counted_X4_size : GoodIn wsX6_counted wsX4_size := goodIn_r _ [101, 102, 121, 122] (by decide +kernel) (by decide +kernel)
set_option maxRecDepth 20000 in
theorem gX6_counted_X4_size : GoodIn wsX6_counted (wsV RX6 186 RX4 yX4_size wsX4_size) := goodIn_app (goodIn_of _ (by decide +kernel)) ggX6_counted_X4_size
theorem dX6_counted_0 : decode cX6_counted 0 = .ok (.iload_n 1, 1) := by decide +kernel
theorem dX6_counted_1 : decode cX6_counted 1 = .ok (.tableswitch 253 0 13 #[71, 85, 93, 107, 118, 129, 134, 150, 166, 181, 193, 208, 223, 245], 71) := by decide +kernel
theorem dX6_counted_72 : decode cX6_counted 72 = .ok (.aload_n 0, 1) := by decide +kernel
theorem dX6_counted_73 : decode cX6_counted 73 = .ok (.getfield 12, 3) := by decide +kernel
theorem dX6_counted_76 : decode cX6_counted 76 = .ok (.getfield 199, 3) := by decide +kernel
theorem dX6_counted_79 : decode cX6_counted 79 = .ok (.ldc_w 332, 3) := by decide +kernel
theorem dX6_counted_82 : decode cX6_counted 82 = .ok (.invokestatic 333, 3) := by decide +kernel
theorem dX6_counted_85 : decode cX6_counted 85 = .ok (.ireturn, 1) := by decide +kernel
theorem dX6_counted_86 : decode cX6_counted 86 = .ok (.aload_n 0, 1) := by decide +kernel
theorem dX6_counted_87 : decode cX6_counted 87 = .ok (.getfield 12, 3) := by decide +kernel
theorem dX6_counted_90 : decode cX6_counted 90 = .ok (.invokevirtual 337, 3) := by decide +kernel
theorem dX6_counted_93 : decode cX6_counted 93 = .ok (.ireturn, 1) := by decide +kernel
theorem dX6_counted_94 : decode cX6_counted 94 = .ok (.aload_n 0, 1) := by decide +kernel
theorem dX6_counted_95 : decode cX6_counted 95 = .ok (.getfield 12, 3) := by decide +kernel
theorem dX6_counted_98 : decode cX6_counted 98 = .ok (.getfield 203, 3) := by decide +kernel
theorem dX6_counted_101 : decode cX6_counted 101 = .ok (.ldc_w 332, 3) := by decide +kernel
theorem dX6_counted_104 : decode cX6_counted 104 = .ok (.invokestatic 333, 3) := by decide +kernel
theorem dX6_counted_107 : decode cX6_counted 107 = .ok (.ireturn, 1) := by decide +kernel
theorem dX6_counted_108 : decode cX6_counted 108 = .ok (.aload_n 0, 1) := by decide +kernel
theorem dX6_counted_109 : decode cX6_counted 109 = .ok (.getfield 19, 3) := by decide +kernel
theorem dX6_counted_112 : decode cX6_counted 112 = .ok (.getfield 143, 3) := by decide +kernel
theorem dX6_counted_115 : decode cX6_counted 115 = .ok (.invokevirtual 152, 3) := by decide +kernel
theorem dX6_counted_118 : decode cX6_counted 118 = .ok (.ireturn, 1) := by decide +kernel
theorem dX6_counted_119 : decode cX6_counted 119 = .ok (.aload_n 0, 1) := by decide +kernel
theorem dX6_counted_120 : decode cX6_counted 120 = .ok (.getfield 12, 3) := by decide +kernel
theorem dX6_counted_123 : decode cX6_counted 123 = .ok (.getfield 139, 3) := by decide +kernel
theorem dX6_counted_126 : decode cX6_counted 126 = .ok (.invokevirtual 152, 3) := by decide +kernel
theorem dX6_counted_129 : decode cX6_counted 129 = .ok (.ireturn, 1) := by decide +kernel
theorem dX6_counted_130 : decode cX6_counted 130 = .ok (.aload_n 0, 1) := by decide +kernel
theorem dX6_counted_131 : decode cX6_counted 131 = .ok (.invokevirtual 103, 3) := by decide +kernel
theorem dX6_counted_134 : decode cX6_counted 134 = .ok (.ireturn, 1) := by decide +kernel
theorem dX6_counted_135 : decode cX6_counted 135 = .ok (.aload_n 0, 1) := by decide +kernel
theorem dX6_counted_136 : decode cX6_counted 136 = .ok (.getfield 19, 3) := by decide +kernel
theorem dX6_counted_139 : decode cX6_counted 139 = .ok (.getfield 143, 3) := by decide +kernel
theorem dX6_counted_142 : decode cX6_counted 142 = .ok (.invokevirtual 152, 3) := by decide +kernel
theorem dX6_counted_145 : decode cX6_counted 145 = .ok (.aload_n 0, 1) := by decide +kernel
theorem dX6_counted_146 : decode cX6_counted 146 = .ok (.invokevirtual 103, 3) := by decide +kernel
theorem dX6_counted_149 : decode cX6_counted 149 = .ok (.isub, 1) := by decide +kernel
theorem dX6_counted_150 : decode cX6_counted 150 = .ok (.ireturn, 1) := by decide +kernel
theorem dX6_counted_151 : decode cX6_counted 151 = .ok (.aload_n 0, 1) := by decide +kernel
theorem dX6_counted_152 : decode cX6_counted 152 = .ok (.getfield 12, 3) := by decide +kernel
theorem dX6_counted_155 : decode cX6_counted 155 = .ok (.getfield 139, 3) := by decide +kernel
theorem dX6_counted_158 : decode cX6_counted 158 = .ok (.invokevirtual 152, 3) := by decide +kernel
theorem dX6_counted_161 : decode cX6_counted 161 = .ok (.aload_n 0, 1) := by decide +kernel
theorem dX6_counted_162 : decode cX6_counted 162 = .ok (.invokevirtual 103, 3) := by decide +kernel
theorem dX6_counted_165 : decode cX6_counted 165 = .ok (.isub, 1) := by decide +kernel
theorem dX6_counted_166 : decode cX6_counted 166 = .ok (.ireturn, 1) := by decide +kernel
theorem dX6_counted_167 : decode cX6_counted 167 = .ok (.aload_n 0, 1) := by decide +kernel
theorem dX6_counted_168 : decode cX6_counted 168 = .ok (.getfield 19, 3) := by decide +kernel
theorem dX6_counted_171 : decode cX6_counted 171 = .ok (.getfield 143, 3) := by decide +kernel
theorem dX6_counted_174 : decode cX6_counted 174 = .ok (.getfield 340, 3) := by decide +kernel
theorem dX6_counted_177 : decode cX6_counted 177 = .ok (.iconst 1, 1) := by decide +kernel
theorem dX6_counted_178 : decode cX6_counted 178 = .ok (.invokestatic 333, 3) := by decide +kernel
theorem dX6_counted_181 : decode cX6_counted 181 = .ok (.ireturn, 1) := by decide +kernel
theorem dX6_counted_182 : decode cX6_counted 182 = .ok (.aload_n 0, 1) := by decide +kernel
theorem dX6_counted_183 : decode cX6_counted 183 = .ok (.getfield 19, 3) := by decide +kernel
theorem dX6_counted_186 : decode cX6_counted 186 = .ok (.getfield 307, 3) := by decide +kernel
theorem dX6_counted_189 : decode cX6_counted 189 = .ok (.iconst 1, 1) := by decide +kernel
theorem dX6_counted_190 : decode cX6_counted 190 = .ok (.invokestatic 333, 3) := by decide +kernel
theorem dX6_counted_193 : decode cX6_counted 193 = .ok (.ireturn, 1) := by decide +kernel
theorem dX6_counted_194 : decode cX6_counted 194 = .ok (.aload_n 0, 1) := by decide +kernel
theorem dX6_counted_195 : decode cX6_counted 195 = .ok (.getfield 19, 3) := by decide +kernel
theorem dX6_counted_198 : decode cX6_counted 198 = .ok (.aload_n 0, 1) := by decide +kernel
theorem dX6_counted_199 : decode cX6_counted 199 = .ok (.getfield 12, 3) := by decide +kernel
theorem dX6_counted_202 : decode cX6_counted 202 = .ok (.getfield 136, 3) := by decide +kernel
theorem dX6_counted_205 : decode cX6_counted 205 = .ok (.invokevirtual 343, 3) := by decide +kernel
theorem dX6_counted_208 : decode cX6_counted 208 = .ok (.ireturn, 1) := by decide +kernel
theorem dX6_counted_209 : decode cX6_counted 209 = .ok (.aload_n 0, 1) := by decide +kernel
theorem dX6_counted_210 : decode cX6_counted 210 = .ok (.getfield 19, 3) := by decide +kernel
theorem dX6_counted_213 : decode cX6_counted 213 = .ok (.aload_n 0, 1) := by decide +kernel
theorem dX6_counted_214 : decode cX6_counted 214 = .ok (.getfield 12, 3) := by decide +kernel
theorem dX6_counted_217 : decode cX6_counted 217 = .ok (.getfield 139, 3) := by decide +kernel
theorem dX6_counted_220 : decode cX6_counted 220 = .ok (.invokevirtual 346, 3) := by decide +kernel
theorem dX6_counted_223 : decode cX6_counted 223 = .ok (.ireturn, 1) := by decide +kernel
theorem dX6_counted_224 : decode cX6_counted 224 = .ok (.aload_n 0, 1) := by decide +kernel
theorem dX6_counted_225 : decode cX6_counted 225 = .ok (.getfield 12, 3) := by decide +kernel
theorem dX6_counted_228 : decode cX6_counted 228 = .ok (.invokevirtual 337, 3) := by decide +kernel
theorem dX6_counted_231 : decode cX6_counted 231 = .ok (.aload_n 0, 1) := by decide +kernel
theorem dX6_counted_232 : decode cX6_counted 232 = .ok (.getfield 19, 3) := by decide +kernel
theorem dX6_counted_235 : decode cX6_counted 235 = .ok (.getfield 349, 3) := by decide +kernel
theorem dX6_counted_238 : decode cX6_counted 238 = .ok (.ldc_w 352, 3) := by decide +kernel
theorem dX6_counted_241 : decode cX6_counted 241 = .ok (.invokestatic 333, 3) := by decide +kernel
theorem dX6_counted_244 : decode cX6_counted 244 = .ok (.isub, 1) := by decide +kernel
theorem dX6_counted_245 : decode cX6_counted 245 = .ok (.ireturn, 1) := by decide +kernel
theorem dX6_counted_246 : decode cX6_counted 246 = .ok (.aload_n 0, 1) := by decide +kernel
theorem dX6_counted_247 : decode cX6_counted 247 = .ok (.getfield 12, 3) := by decide +kernel
theorem dX6_counted_250 : decode cX6_counted 250 = .ok (.invokevirtual 353, 3) := by decide +kernel
theorem dX6_counted_253 : decode cX6_counted 253 = .ok (.ireturn, 1) := by decide +kernel
theorem dX6_counted_254 : decode cX6_counted 254 = .ok (.aload_n 0, 1) := by decide +kernel
theorem dX6_counted_255 : decode cX6_counted 255 = .ok (.getfield 26, 3) := by decide +kernel
theorem dX6_counted_258 : decode cX6_counted 258 = .ok (.invokevirtual 186, 3) := by decide +kernel
theorem dX6_counted_261 : decode cX6_counted 261 = .ok (.ireturn, 1) := by decide +kernel
set_option maxRecDepth 20000 in
theorem ggX6_bitsIn_J6_bitCount_0f7a4 : GoodIn wsX6_bitsIn wsJ6_bitCount_0f7a4 := goodIn_r _ [4, 5, 6, 7] (by decide +kernel) (by decide +kernel)
set_option maxRecDepth 20000 in
theorem gX6_bitsIn_J6_bitCount_0f7a4 : GoodIn wsX6_bitsIn (va_wsS RX6 356 yJ6_bitCount_0f7a4 wsJ6_bitCount_0f7a4) := goodIn_app (goodIn_of _ (by decide +kernel)) ggX6_bitsIn_J6_bitCount_0f7a4
theorem dX6_bitsIn_0 : decode cX6_bitsIn 0 = .ok (.iconst 0, 1) := by decide +kernel
theorem dX6_bitsIn_1 : decode cX6_bitsIn 1 = .ok (.istore_n 2, 1) := by decide +kernel
theorem dX6_bitsIn_2 : decode cX6_bitsIn 2 = .ok (.aload_n 0, 1) := by decide +kernel
theorem dX6_bitsIn_3 : decode cX6_bitsIn 3 = .ok (.astore_n 3, 1) := by decide +kernel
theorem dX6_bitsIn_4 : decode cX6_bitsIn 4 = .ok (.aload_n 3, 1) := by decide +kernel
theorem dX6_bitsIn_5 : decode cX6_bitsIn 5 = .ok (.arraylength, 1) := by decide +kernel
theorem dX6_bitsIn_6 : decode cX6_bitsIn 6 = .ok (.istore 4, 2) := by decide +kernel
theorem dX6_bitsIn_8 : decode cX6_bitsIn 8 = .ok (.iconst 0, 1) := by decide +kernel
theorem dX6_bitsIn_9 : decode cX6_bitsIn 9 = .ok (.istore 5, 2) := by decide +kernel
theorem dX6_bitsIn_11 : decode cX6_bitsIn 11 = .ok (.iload 5, 2) := by decide +kernel
theorem dX6_bitsIn_13 : decode cX6_bitsIn 13 = .ok (.iload 4, 2) := by decide +kernel
theorem dX6_bitsIn_15 : decode cX6_bitsIn 15 = .ok (.if_icmp .ge 25, 3) := by decide +kernel
theorem dX6_bitsIn_18 : decode cX6_bitsIn 18 = .ok (.aload_n 3, 1) := by decide +kernel
theorem dX6_bitsIn_19 : decode cX6_bitsIn 19 = .ok (.iload 5, 2) := by decide +kernel
theorem dX6_bitsIn_21 : decode cX6_bitsIn 21 = .ok (.iaload, 1) := by decide +kernel
theorem dX6_bitsIn_22 : decode cX6_bitsIn 22 = .ok (.istore 6, 2) := by decide +kernel
theorem dX6_bitsIn_24 : decode cX6_bitsIn 24 = .ok (.iload_n 2, 1) := by decide +kernel
theorem dX6_bitsIn_25 : decode cX6_bitsIn 25 = .ok (.iload 6, 2) := by decide +kernel
theorem dX6_bitsIn_27 : decode cX6_bitsIn 27 = .ok (.iload_n 1, 1) := by decide +kernel
theorem dX6_bitsIn_28 : decode cX6_bitsIn 28 = .ok (.iand, 1) := by decide +kernel
theorem dX6_bitsIn_29 : decode cX6_bitsIn 29 = .ok (.invokestatic 356, 3) := by decide +kernel
theorem dX6_bitsIn_32 : decode cX6_bitsIn 32 = .ok (.iadd, 1) := by decide +kernel
theorem dX6_bitsIn_33 : decode cX6_bitsIn 33 = .ok (.istore_n 2, 1) := by decide +kernel
theorem dX6_bitsIn_34 : decode cX6_bitsIn 34 = .ok (.iinc 5 1, 3) := by decide +kernel
theorem dX6_bitsIn_37 : decode cX6_bitsIn 37 = .ok (.goto (-26), 3) := by decide +kernel
theorem dX6_bitsIn_40 : decode cX6_bitsIn 40 = .ok (.iload_n 2, 1) := by decide +kernel
theorem dX6_bitsIn_41 : decode cX6_bitsIn 41 = .ok (.ireturn, 1) := by decide +kernel
theorem dX6_isStep_0 : decode cX6_isStep 0 = .ok (.iload_n 0, 1) := by decide +kernel
theorem dX6_isStep_1 : decode cX6_isStep 1 = .ok (.ifCond .lt 13, 3) := by decide +kernel
theorem dX6_isStep_4 : decode cX6_isStep 4 = .ok (.iload_n 0, 1) := by decide +kernel
theorem dX6_isStep_5 : decode cX6_isStep 5 = .ok (.bipush 96, 2) := by decide +kernel
theorem dX6_isStep_7 : decode cX6_isStep 7 = .ok (.if_icmp .ge 7, 3) := by decide +kernel
theorem dX6_isStep_10 : decode cX6_isStep 10 = .ok (.iconst 1, 1) := by decide +kernel
theorem dX6_isStep_11 : decode cX6_isStep 11 = .ok (.goto 4, 3) := by decide +kernel
theorem dX6_isStep_14 : decode cX6_isStep 14 = .ok (.iconst 0, 1) := by decide +kernel
theorem dX6_isStep_15 : decode cX6_isStep 15 = .ok (.ireturn, 1) := by decide +kernel
theorem dX6_fits_0 : decode cX6_fits 0 = .ok (.iload_n 0, 1) := by decide +kernel
theorem dX6_fits_1 : decode cX6_fits 1 = .ok (.iload_n 1, 1) := by decide +kernel
theorem dX6_fits_2 : decode cX6_fits 2 = .ok (.iadd, 1) := by decide +kernel
theorem dX6_fits_3 : decode cX6_fits 3 = .ok (.bipush 96, 2) := by decide +kernel
theorem dX6_fits_5 : decode cX6_fits 5 = .ok (.if_icmp .gt 7, 3) := by decide +kernel
theorem dX6_fits_8 : decode cX6_fits 8 = .ok (.iconst 1, 1) := by decide +kernel
theorem dX6_fits_9 : decode cX6_fits 9 = .ok (.goto 4, 3) := by decide +kernel
theorem dX6_fits_12 : decode cX6_fits 12 = .ok (.iconst 0, 1) := by decide +kernel
theorem dX6_fits_13 : decode cX6_fits 13 = .ok (.ireturn, 1) := by decide +kernel
set_option maxRecDepth 20000 in
theorem ggX6_needSteps_X6_isStep : GoodIn wsX6_needSteps wsX6_isStep := goodIn_r _ [8] (by decide +kernel) (by decide +kernel)
set_option maxRecDepth 20000 in
theorem gX6_needSteps_X6_isStep : GoodIn wsX6_needSteps (va_wsS RX6 44 yX6_isStep wsX6_isStep) := goodIn_app (goodIn_of _ (by decide +kernel)) ggX6_needSteps_X6_isStep
theorem dX6_needSteps_0 : decode cX6_needSteps 0 = .ok (.iload_n 0, 1) := by decide +kernel
theorem dX6_needSteps_1 : decode cX6_needSteps 1 = .ok (.invokestatic 44, 3) := by decide +kernel
theorem dX6_needSteps_4 : decode cX6_needSteps 4 = .ok (.ifCond .eq 10, 3) := by decide +kernel
theorem dX6_needSteps_7 : decode cX6_needSteps 7 = .ok (.iload_n 1, 1) := by decide +kernel
theorem dX6_needSteps_8 : decode cX6_needSteps 8 = .ok (.invokestatic 44, 3) := by decide +kernel
theorem dX6_needSteps_11 : decode cX6_needSteps 11 = .ok (.ifCond .ne 13, 3) := by decide +kernel
theorem dX6_needSteps_14 : decode cX6_needSteps 14 = .ok (.new 48, 3) := by decide +kernel
theorem dX6_needSteps_17 : decode cX6_needSteps 17 = .ok (.dup, 1) := by decide +kernel
theorem dX6_needSteps_18 : decode cX6_needSteps 18 = .ok (.ldc 194, 2) := by decide +kernel
theorem dX6_needSteps_20 : decode cX6_needSteps 20 = .ok (.invokespecial 52, 3) := by decide +kernel
theorem dX6_needSteps_23 : decode cX6_needSteps 23 = .ok (.athrow, 1) := by decide +kernel
theorem dX6_needSteps_24 : decode cX6_needSteps 24 = .ok (.iload_n 1, 1) := by decide +kernel
theorem dX6_needSteps_25 : decode cX6_needSteps 25 = .ok (.iload_n 0, 1) := by decide +kernel
theorem dX6_needSteps_26 : decode cX6_needSteps 26 = .ok (.if_icmp .ge 14, 3) := by decide +kernel
theorem dX6_needSteps_29 : decode cX6_needSteps 29 = .ok (.new 123, 3) := by decide +kernel
theorem dX6_needSteps_32 : decode cX6_needSteps 32 = .ok (.dup, 1) := by decide +kernel
theorem dX6_needSteps_33 : decode cX6_needSteps 33 = .ok (.ldc_w 361, 3) := by decide +kernel
theorem dX6_needSteps_36 : decode cX6_needSteps 36 = .ok (.invokespecial 127, 3) := by decide +kernel
theorem dX6_needSteps_39 : decode cX6_needSteps 39 = .ok (.athrow, 1) := by decide +kernel
theorem dX6_needSteps_40 : decode cX6_needSteps 40 = .ok (.return_, 1) := by decide +kernel
theorem dX6_needTrack_0 : decode cX6_needTrack 0 = .ok (.iload_n 0, 1) := by decide +kernel
theorem dX6_needTrack_1 : decode cX6_needTrack 1 = .ok (.ifCond .lt 9, 3) := by decide +kernel
theorem dX6_needTrack_4 : decode cX6_needTrack 4 = .ok (.iload_n 0, 1) := by decide +kernel
theorem dX6_needTrack_5 : decode cX6_needTrack 5 = .ok (.bipush 26, 2) := by decide +kernel
theorem dX6_needTrack_7 : decode cX6_needTrack 7 = .ok (.if_icmp .lt 14, 3) := by decide +kernel
theorem dX6_needTrack_10 : decode cX6_needTrack 10 = .ok (.new 48, 3) := by decide +kernel
theorem dX6_needTrack_13 : decode cX6_needTrack 13 = .ok (.dup, 1) := by decide +kernel
theorem dX6_needTrack_14 : decode cX6_needTrack 14 = .ok (.ldc_w 363, 3) := by decide +kernel
theorem dX6_needTrack_17 : decode cX6_needTrack 17 = .ok (.invokespecial 52, 3) := by decide +kernel
theorem dX6_needTrack_20 : decode cX6_needTrack 20 = .ok (.athrow, 1) := by decide +kernel
theorem dX6_needTrack_21 : decode cX6_needTrack 21 = .ok (.return_, 1) := by decide +kernel
theorem dX6_needSetting_0 : decode cX6_needSetting 0 = .ok (.iload_n 0, 1) := by decide +kernel
theorem dX6_needSetting_1 : decode cX6_needSetting 1 = .ok (.ifCond .lt 8, 3) := by decide +kernel
theorem dX6_needSetting_4 : decode cX6_needSetting 4 = .ok (.iload_n 0, 1) := by decide +kernel
theorem dX6_needSetting_5 : decode cX6_needSetting 5 = .ok (.iconst 1, 1) := by decide +kernel
theorem dX6_needSetting_6 : decode cX6_needSetting 6 = .ok (.if_icmp .le 14, 3) := by decide +kernel
theorem dX6_needSetting_9 : decode cX6_needSetting 9 = .ok (.new 48, 3) := by decide +kernel
theorem dX6_needSetting_12 : decode cX6_needSetting 12 = .ok (.dup, 1) := by decide +kernel
theorem dX6_needSetting_13 : decode cX6_needSetting 13 = .ok (.ldc_w 365, 3) := by decide +kernel
theorem dX6_needSetting_16 : decode cX6_needSetting 16 = .ok (.invokespecial 52, 3) := by decide +kernel
theorem dX6_needSetting_19 : decode cX6_needSetting 19 = .ok (.athrow, 1) := by decide +kernel
theorem dX6_needSetting_20 : decode cX6_needSetting 20 = .ok (.return_, 1) := by decide +kernel
theorem dX6_needAside_0 : decode cX6_needAside 0 = .ok (.iload_n 0, 1) := by decide +kernel
theorem dX6_needAside_1 : decode cX6_needAside 1 = .ok (.bipush (-3), 2) := by decide +kernel
theorem dX6_needAside_3 : decode cX6_needAside 3 = .ok (.if_icmp .lt 8, 3) := by decide +kernel
theorem dX6_needAside_6 : decode cX6_needAside 6 = .ok (.iload_n 0, 1) := by decide +kernel
theorem dX6_needAside_7 : decode cX6_needAside 7 = .ok (.iconst 3, 1) := by decide +kernel
theorem dX6_needAside_8 : decode cX6_needAside 8 = .ok (.if_icmp .le 14, 3) := by decide +kernel
theorem dX6_needAside_11 : decode cX6_needAside 11 = .ok (.new 123, 3) := by decide +kernel
theorem dX6_needAside_14 : decode cX6_needAside 14 = .ok (.dup, 1) := by decide +kernel
theorem dX6_needAside_15 : decode cX6_needAside 15 = .ok (.ldc_w 367, 3) := by decide +kernel
theorem dX6_needAside_18 : decode cX6_needAside 18 = .ok (.invokespecial 127, 3) := by decide +kernel
theorem dX6_needAside_21 : decode cX6_needAside 21 = .ok (.athrow, 1) := by decide +kernel
theorem dX6_needAside_22 : decode cX6_needAside 22 = .ok (.return_, 1) := by decide +kernel
theorem dX6_needLength_0 : decode cX6_needLength 0 = .ok (.iload_n 0, 1) := by decide +kernel
theorem dX6_needLength_1 : decode cX6_needLength 1 = .ok (.iconst 1, 1) := by decide +kernel
theorem dX6_needLength_2 : decode cX6_needLength 2 = .ok (.if_icmp .lt 9, 3) := by decide +kernel
theorem dX6_needLength_5 : decode cX6_needLength 5 = .ok (.iload_n 0, 1) := by decide +kernel
theorem dX6_needLength_6 : decode cX6_needLength 6 = .ok (.bipush 96, 2) := by decide +kernel
theorem dX6_needLength_8 : decode cX6_needLength 8 = .ok (.if_icmp .le 14, 3) := by decide +kernel
theorem dX6_needLength_11 : decode cX6_needLength 11 = .ok (.new 123, 3) := by decide +kernel
theorem dX6_needLength_14 : decode cX6_needLength 14 = .ok (.dup, 1) := by decide +kernel
theorem dX6_needLength_15 : decode cX6_needLength 15 = .ok (.ldc_w 369, 3) := by decide +kernel
theorem dX6_needLength_18 : decode cX6_needLength 18 = .ok (.invokespecial 127, 3) := by decide +kernel
theorem dX6_needLength_21 : decode cX6_needLength 21 = .ok (.athrow, 1) := by decide +kernel
theorem dX6_needLength_22 : decode cX6_needLength 22 = .ok (.return_, 1) := by decide +kernel
theorem dX6_needWhat_0 : decode cX6_needWhat 0 = .ok (.iload_n 0, 1) := by decide +kernel
theorem dX6_needWhat_1 : decode cX6_needWhat 1 = .ok (.ifCond .lt 8, 3) := by decide +kernel
theorem dX6_needWhat_4 : decode cX6_needWhat 4 = .ok (.iload_n 0, 1) := by decide +kernel
theorem dX6_needWhat_5 : decode cX6_needWhat 5 = .ok (.iload_n 1, 1) := by decide +kernel
theorem dX6_needWhat_6 : decode cX6_needWhat 6 = .ok (.if_icmp .le 14, 3) := by decide +kernel
theorem dX6_needWhat_9 : decode cX6_needWhat 9 = .ok (.new 123, 3) := by decide +kernel
theorem dX6_needWhat_12 : decode cX6_needWhat 12 = .ok (.dup, 1) := by decide +kernel
theorem dX6_needWhat_13 : decode cX6_needWhat 13 = .ok (.ldc_w 371, 3) := by decide +kernel
theorem dX6_needWhat_16 : decode cX6_needWhat 16 = .ok (.invokespecial 127, 3) := by decide +kernel
theorem dX6_needWhat_19 : decode cX6_needWhat 19 = .ok (.athrow, 1) := by decide +kernel
theorem dX6_needWhat_20 : decode cX6_needWhat 20 = .ok (.return_, 1) := by decide +kernel

theorem dJ6_bitCount_0f7a4_0 : decode cJ6_bitCount_0f7a4 0 = .ok (.iload_n 0, 1) := by decide +kernel
theorem dJ6_bitCount_0f7a4_1 : decode cJ6_bitCount_0f7a4 1 = .ok (.iload_n 0, 1) := by decide +kernel
theorem dJ6_bitCount_0f7a4_2 : decode cJ6_bitCount_0f7a4 2 = .ok (.iconst 1, 1) := by decide +kernel
theorem dJ6_bitCount_0f7a4_3 : decode cJ6_bitCount_0f7a4 3 = .ok (.iushr, 1) := by decide +kernel
theorem dJ6_bitCount_0f7a4_4 : decode cJ6_bitCount_0f7a4 4 = .ok (.ldc_w 265, 3) := by decide +kernel
theorem dJ6_bitCount_0f7a4_7 : decode cJ6_bitCount_0f7a4 7 = .ok (.iand, 1) := by decide +kernel
theorem dJ6_bitCount_0f7a4_8 : decode cJ6_bitCount_0f7a4 8 = .ok (.isub, 1) := by decide +kernel
theorem dJ6_bitCount_0f7a4_9 : decode cJ6_bitCount_0f7a4 9 = .ok (.istore_n 0, 1) := by decide +kernel
theorem dJ6_bitCount_0f7a4_10 : decode cJ6_bitCount_0f7a4 10 = .ok (.iload_n 0, 1) := by decide +kernel
theorem dJ6_bitCount_0f7a4_11 : decode cJ6_bitCount_0f7a4 11 = .ok (.ldc_w 266, 3) := by decide +kernel
theorem dJ6_bitCount_0f7a4_14 : decode cJ6_bitCount_0f7a4 14 = .ok (.iand, 1) := by decide +kernel
theorem dJ6_bitCount_0f7a4_15 : decode cJ6_bitCount_0f7a4 15 = .ok (.iload_n 0, 1) := by decide +kernel
theorem dJ6_bitCount_0f7a4_16 : decode cJ6_bitCount_0f7a4 16 = .ok (.iconst 2, 1) := by decide +kernel
theorem dJ6_bitCount_0f7a4_17 : decode cJ6_bitCount_0f7a4 17 = .ok (.iushr, 1) := by decide +kernel
theorem dJ6_bitCount_0f7a4_18 : decode cJ6_bitCount_0f7a4 18 = .ok (.ldc_w 266, 3) := by decide +kernel
theorem dJ6_bitCount_0f7a4_21 : decode cJ6_bitCount_0f7a4 21 = .ok (.iand, 1) := by decide +kernel
theorem dJ6_bitCount_0f7a4_22 : decode cJ6_bitCount_0f7a4 22 = .ok (.iadd, 1) := by decide +kernel
theorem dJ6_bitCount_0f7a4_23 : decode cJ6_bitCount_0f7a4 23 = .ok (.istore_n 0, 1) := by decide +kernel
theorem dJ6_bitCount_0f7a4_24 : decode cJ6_bitCount_0f7a4 24 = .ok (.iload_n 0, 1) := by decide +kernel
theorem dJ6_bitCount_0f7a4_25 : decode cJ6_bitCount_0f7a4 25 = .ok (.iload_n 0, 1) := by decide +kernel
theorem dJ6_bitCount_0f7a4_26 : decode cJ6_bitCount_0f7a4 26 = .ok (.iconst 4, 1) := by decide +kernel
theorem dJ6_bitCount_0f7a4_27 : decode cJ6_bitCount_0f7a4 27 = .ok (.iushr, 1) := by decide +kernel
theorem dJ6_bitCount_0f7a4_28 : decode cJ6_bitCount_0f7a4 28 = .ok (.iadd, 1) := by decide +kernel
theorem dJ6_bitCount_0f7a4_29 : decode cJ6_bitCount_0f7a4 29 = .ok (.ldc_w 267, 3) := by decide +kernel
theorem dJ6_bitCount_0f7a4_32 : decode cJ6_bitCount_0f7a4 32 = .ok (.iand, 1) := by decide +kernel
theorem dJ6_bitCount_0f7a4_33 : decode cJ6_bitCount_0f7a4 33 = .ok (.istore_n 0, 1) := by decide +kernel
theorem dJ6_bitCount_0f7a4_34 : decode cJ6_bitCount_0f7a4 34 = .ok (.iload_n 0, 1) := by decide +kernel
theorem dJ6_bitCount_0f7a4_35 : decode cJ6_bitCount_0f7a4 35 = .ok (.iload_n 0, 1) := by decide +kernel
theorem dJ6_bitCount_0f7a4_36 : decode cJ6_bitCount_0f7a4 36 = .ok (.bipush 8, 2) := by decide +kernel
theorem dJ6_bitCount_0f7a4_38 : decode cJ6_bitCount_0f7a4 38 = .ok (.iushr, 1) := by decide +kernel
theorem dJ6_bitCount_0f7a4_39 : decode cJ6_bitCount_0f7a4 39 = .ok (.iadd, 1) := by decide +kernel
theorem dJ6_bitCount_0f7a4_40 : decode cJ6_bitCount_0f7a4 40 = .ok (.istore_n 0, 1) := by decide +kernel
theorem dJ6_bitCount_0f7a4_41 : decode cJ6_bitCount_0f7a4 41 = .ok (.iload_n 0, 1) := by decide +kernel
theorem dJ6_bitCount_0f7a4_42 : decode cJ6_bitCount_0f7a4 42 = .ok (.iload_n 0, 1) := by decide +kernel
theorem dJ6_bitCount_0f7a4_43 : decode cJ6_bitCount_0f7a4 43 = .ok (.bipush 16, 2) := by decide +kernel
theorem dJ6_bitCount_0f7a4_45 : decode cJ6_bitCount_0f7a4 45 = .ok (.iushr, 1) := by decide +kernel
theorem dJ6_bitCount_0f7a4_46 : decode cJ6_bitCount_0f7a4 46 = .ok (.iadd, 1) := by decide +kernel
theorem dJ6_bitCount_0f7a4_47 : decode cJ6_bitCount_0f7a4 47 = .ok (.istore_n 0, 1) := by decide +kernel
theorem dJ6_bitCount_0f7a4_48 : decode cJ6_bitCount_0f7a4 48 = .ok (.iload_n 0, 1) := by decide +kernel
theorem dJ6_bitCount_0f7a4_49 : decode cJ6_bitCount_0f7a4 49 = .ok (.bipush 63, 2) := by decide +kernel
theorem dJ6_bitCount_0f7a4_51 : decode cJ6_bitCount_0f7a4 51 = .ok (.iand, 1) := by decide +kernel
theorem dJ6_bitCount_0f7a4_52 : decode cJ6_bitCount_0f7a4 52 = .ok (.ireturn, 1) := by decide +kernel
theorem dJ9_max_7cf53_0 : decode cJ9_max_7cf53 0 = .ok (.iload_n 0, 1) := by decide +kernel
theorem dJ9_max_7cf53_1 : decode cJ9_max_7cf53 1 = .ok (.iload_n 1, 1) := by decide +kernel
theorem dJ9_max_7cf53_2 : decode cJ9_max_7cf53 2 = .ok (.if_icmp .lt 7, 3) := by decide +kernel
theorem dJ9_max_7cf53_5 : decode cJ9_max_7cf53 5 = .ok (.iload_n 0, 1) := by decide +kernel
theorem dJ9_max_7cf53_6 : decode cJ9_max_7cf53 6 = .ok (.goto 4, 3) := by decide +kernel
theorem dJ9_max_7cf53_9 : decode cJ9_max_7cf53 9 = .ok (.iload_n 1, 1) := by decide +kernel
theorem dJ9_max_7cf53_10 : decode cJ9_max_7cf53 10 = .ok (.ireturn, 1) := by decide +kernel
theorem dJ9_min_7cf53_0 : decode cJ9_min_7cf53 0 = .ok (.iload_n 0, 1) := by decide +kernel
theorem dJ9_min_7cf53_1 : decode cJ9_min_7cf53 1 = .ok (.iload_n 1, 1) := by decide +kernel
theorem dJ9_min_7cf53_2 : decode cJ9_min_7cf53 2 = .ok (.if_icmp .gt 7, 3) := by decide +kernel
theorem dJ9_min_7cf53_5 : decode cJ9_min_7cf53 5 = .ok (.iload_n 0, 1) := by decide +kernel
theorem dJ9_min_7cf53_6 : decode cJ9_min_7cf53 6 = .ok (.goto 4, 3) := by decide +kernel
theorem dJ9_min_7cf53_9 : decode cJ9_min_7cf53 9 = .ok (.iload_n 1, 1) := by decide +kernel
theorem dJ9_min_7cf53_10 : decode cJ9_min_7cf53 10 = .ok (.ireturn, 1) := by decide +kernel
set_option maxRecDepth 20000 in
theorem ggL_punch_X6_punch : GoodIn wsL_punch wsX6_punch := goodIn_ca (goodIn_ca (goodIn_ca (goodIn_r _ [8, 9, 10, 11, 12, 13, 14, 15, 16, 17, 7, 18, 19, 20, 21, 22, 23, 24, 25, 26, 27, 28, 29, 30, 31, 32, 33, 34, 35, 36, 37, 38, 39, 40, 41, 42, 43, 44, 45, 46, 47, 48, 49, 50, 51, 52, 53, 54, 55, 56, 57, 58, 59, 60, 61, 62, 63, 64, 65, 66, 67, 68, 69, 70, 71, 72, 73, 74, 75, 76, 77, 78, 79, 80, 81, 82, 83, 84, 85, 86, 87, 88, 89, 90, 91, 92, 93, 94, 95, 96, 97, 98, 99, 100, 101, 102, 103, 104, 105, 106, 107, 108, 109, 110, 111, 112, 113, 114, 115, 116, 117, 118, 119, 120, 121, 122, 123, 124, 125, 126, 127, 128, 129] (by decide +kernel) (by decide +kernel)) (goodIn_sub (fun _ h => List.mem_cons_of_mem _ (List.mem_append_left _ (List.mem_append_left _ (List.mem_append_right _ h)))) (by decide +kernel))) (goodIn_sub (fun _ h => List.mem_cons_of_mem _ (List.mem_append_left _ (List.mem_append_right _ h))) (by decide +kernel))) (goodIn_sub (fun _ h => List.mem_cons_of_mem _ (List.mem_append_right _ h)) (by decide +kernel))
set_option maxRecDepth 20000 in
theorem gL_punch_X6_punch : GoodIn wsL_punch (wsV RL 7 RX6 yX6_punch wsX6_punch) := goodIn_app (goodIn_of _ (by decide +kernel)) ggL_punch_X6_punch
theorem dL_punch_0 : decode cL_punch 0 = .ok (.aload 4, 2) := by decide +kernel
theorem dL_punch_2 : decode cL_punch 2 = .ok (.iconst 0, 1) := by decide +kernel
theorem dL_punch_3 : decode cL_punch 3 = .ok (.aload_n 0, 1) := by decide +kernel
theorem dL_punch_4 : decode cL_punch 4 = .ok (.iload_n 1, 1) := by decide +kernel
theorem dL_punch_5 : decode cL_punch 5 = .ok (.iload_n 2, 1) := by decide +kernel
theorem dL_punch_6 : decode cL_punch 6 = .ok (.iload_n 3, 1) := by decide +kernel
theorem dL_punch_7 : decode cL_punch 7 = .ok (.invokevirtual 7, 3) := by decide +kernel
theorem dL_punch_10 : decode cL_punch 10 = .ok (.i2l, 1) := by decide +kernel
theorem dL_punch_11 : decode cL_punch 11 = .ok (.lastore, 1) := by decide +kernel
theorem dL_punch_12 : decode cL_punch 12 = .ok (.goto 15, 3) := by decide +kernel
theorem dL_punch_15 : decode cL_punch 15 = .ok (.astore 5, 2) := by decide +kernel
theorem dL_punch_17 : decode cL_punch 17 = .ok (.iconst 1, 1) := by decide +kernel
theorem dL_punch_18 : decode cL_punch 18 = .ok (.ireturn, 1) := by decide +kernel
theorem dL_punch_19 : decode cL_punch 19 = .ok (.astore 5, 2) := by decide +kernel
theorem dL_punch_21 : decode cL_punch 21 = .ok (.iconst 2, 1) := by decide +kernel
theorem dL_punch_22 : decode cL_punch 22 = .ok (.ireturn, 1) := by decide +kernel
theorem dL_punch_23 : decode cL_punch 23 = .ok (.astore 5, 2) := by decide +kernel
theorem dL_punch_25 : decode cL_punch 25 = .ok (.iconst 3, 1) := by decide +kernel
theorem dL_punch_26 : decode cL_punch 26 = .ok (.ireturn, 1) := by decide +kernel
theorem dL_punch_27 : decode cL_punch 27 = .ok (.iconst 0, 1) := by decide +kernel
theorem dL_punch_28 : decode cL_punch 28 = .ok (.ireturn, 1) := by decide +kernel
set_option maxRecDepth 20000 in
theorem ggL_patch_X6_patch : GoodIn wsL_patch wsX6_patch := goodIn_ca (goodIn_ca (goodIn_r _ [7, 8, 9, 10, 11, 12, 6, 13, 14, 15, 16, 17, 18, 19, 20, 21, 22, 23, 24, 25, 26, 27, 28, 29, 30, 31, 32, 33, 34, 35, 36, 37, 38, 39, 40, 41, 42, 43, 44, 45, 46, 47, 48, 49, 50, 51, 52, 53, 54, 55, 56, 57, 58, 59, 60, 61, 62, 63, 64, 65, 66, 67, 68, 69, 70, 71, 72, 73, 74, 75, 76, 77, 78, 79, 80, 81, 82, 83, 84, 85, 86, 87, 88, 89, 90, 91, 92, 93, 94, 95, 96, 97, 98, 99, 100, 101, 102, 103, 104, 105, 106, 107, 108, 109, 110, 111, 112, 113, 114, 115, 116, 117, 118, 119, 120, 121, 122] (by decide +kernel) (by decide +kernel)) (goodIn_sub (fun _ h => List.mem_cons_of_mem _ (List.mem_append_left _ (List.mem_append_right _ h))) (by decide +kernel))) (goodIn_sub (fun _ h => List.mem_cons_of_mem _ (List.mem_append_right _ h)) (by decide +kernel))
set_option maxRecDepth 20000 in
theorem gL_patch_X6_patch : GoodIn wsL_patch (wsV RL 19 RX6 yX6_patch wsX6_patch) := goodIn_app (goodIn_of _ (by decide +kernel)) ggL_patch_X6_patch
theorem dL_patch_0 : decode cL_patch 0 = .ok (.aload 4, 2) := by decide +kernel
theorem dL_patch_2 : decode cL_patch 2 = .ok (.iconst 0, 1) := by decide +kernel
theorem dL_patch_3 : decode cL_patch 3 = .ok (.aload_n 0, 1) := by decide +kernel
theorem dL_patch_4 : decode cL_patch 4 = .ok (.iload_n 1, 1) := by decide +kernel
theorem dL_patch_5 : decode cL_patch 5 = .ok (.iload_n 2, 1) := by decide +kernel
theorem dL_patch_6 : decode cL_patch 6 = .ok (.iload_n 3, 1) := by decide +kernel
theorem dL_patch_7 : decode cL_patch 7 = .ok (.invokevirtual 19, 3) := by decide +kernel
theorem dL_patch_10 : decode cL_patch 10 = .ok (.i2l, 1) := by decide +kernel
theorem dL_patch_11 : decode cL_patch 11 = .ok (.lastore, 1) := by decide +kernel
theorem dL_patch_12 : decode cL_patch 12 = .ok (.goto 11, 3) := by decide +kernel
theorem dL_patch_15 : decode cL_patch 15 = .ok (.astore 5, 2) := by decide +kernel
theorem dL_patch_17 : decode cL_patch 17 = .ok (.iconst 1, 1) := by decide +kernel
theorem dL_patch_18 : decode cL_patch 18 = .ok (.ireturn, 1) := by decide +kernel
theorem dL_patch_19 : decode cL_patch 19 = .ok (.astore 5, 2) := by decide +kernel
theorem dL_patch_21 : decode cL_patch 21 = .ok (.iconst 2, 1) := by decide +kernel
theorem dL_patch_22 : decode cL_patch 22 = .ok (.ireturn, 1) := by decide +kernel
theorem dL_patch_23 : decode cL_patch 23 = .ok (.iconst 0, 1) := by decide +kernel
theorem dL_patch_24 : decode cL_patch 24 = .ok (.ireturn, 1) := by decide +kernel
set_option maxRecDepth 20000 in
theorem ggL_peel_X6_peel : GoodIn wsL_peel wsX6_peel := goodIn_ca (goodIn_ca (goodIn_r _ [7, 8, 9, 10, 11, 12, 6, 13, 14, 15, 16, 17, 18, 19, 20, 21, 22, 23, 24, 25, 26, 27, 28, 29, 30, 31, 32, 33, 34, 35, 36, 37, 38, 39, 40, 41, 42, 43, 44, 45, 46, 47, 48, 49, 50, 51, 52, 53, 54, 55, 56, 57, 58, 59, 60, 61, 62, 63, 64, 65, 66, 67, 68, 69, 70, 71, 72, 73, 74, 75, 76, 77, 78, 79, 80, 81, 82, 83, 84, 85, 86, 87, 88, 89, 90, 91, 92, 93, 94, 95, 96, 97, 98, 99, 100, 101, 102, 103, 104, 105, 106, 107, 108, 109, 110, 111, 112, 113, 114, 115, 116, 117, 118, 119, 120, 121, 122] (by decide +kernel) (by decide +kernel)) (goodIn_sub (fun _ h => List.mem_cons_of_mem _ (List.mem_append_left _ (List.mem_append_right _ h))) (by decide +kernel))) (goodIn_sub (fun _ h => List.mem_cons_of_mem _ (List.mem_append_right _ h)) (by decide +kernel))
set_option maxRecDepth 20000 in
theorem gL_peel_X6_peel : GoodIn wsL_peel (wsV RL 22 RX6 yX6_peel wsX6_peel) := goodIn_app (goodIn_of _ (by decide +kernel)) ggL_peel_X6_peel
theorem dL_peel_0 : decode cL_peel 0 = .ok (.aload 4, 2) := by decide +kernel
theorem dL_peel_2 : decode cL_peel 2 = .ok (.iconst 0, 1) := by decide +kernel
theorem dL_peel_3 : decode cL_peel 3 = .ok (.aload_n 0, 1) := by decide +kernel
theorem dL_peel_4 : decode cL_peel 4 = .ok (.iload_n 1, 1) := by decide +kernel
theorem dL_peel_5 : decode cL_peel 5 = .ok (.iload_n 2, 1) := by decide +kernel
theorem dL_peel_6 : decode cL_peel 6 = .ok (.iload_n 3, 1) := by decide +kernel
theorem dL_peel_7 : decode cL_peel 7 = .ok (.invokevirtual 22, 3) := by decide +kernel
theorem dL_peel_10 : decode cL_peel 10 = .ok (.i2l, 1) := by decide +kernel
theorem dL_peel_11 : decode cL_peel 11 = .ok (.lastore, 1) := by decide +kernel
theorem dL_peel_12 : decode cL_peel 12 = .ok (.goto 11, 3) := by decide +kernel
theorem dL_peel_15 : decode cL_peel 15 = .ok (.astore 5, 2) := by decide +kernel
theorem dL_peel_17 : decode cL_peel 17 = .ok (.iconst 1, 1) := by decide +kernel
theorem dL_peel_18 : decode cL_peel 18 = .ok (.ireturn, 1) := by decide +kernel
theorem dL_peel_19 : decode cL_peel 19 = .ok (.astore 5, 2) := by decide +kernel
theorem dL_peel_21 : decode cL_peel 21 = .ok (.iconst 2, 1) := by decide +kernel
theorem dL_peel_22 : decode cL_peel 22 = .ok (.ireturn, 1) := by decide +kernel
theorem dL_peel_23 : decode cL_peel 23 = .ok (.iconst 0, 1) := by decide +kernel
theorem dL_peel_24 : decode cL_peel 24 = .ok (.ireturn, 1) := by decide +kernel
set_option maxRecDepth 20000 in
theorem ggL_shift_X6_shift : GoodIn wsL_shift wsX6_shift := goodIn_ca (goodIn_ca (goodIn_r _ [7, 8, 9, 10, 11, 12, 13, 14, 6, 15, 16, 17, 18, 19, 20, 21, 22, 23, 24, 25, 26, 27, 28, 29, 30, 31, 32, 33, 34, 35, 36, 37, 38, 39, 40, 41, 42, 43, 44, 45, 46, 47, 48, 49, 50, 51, 52, 53, 54, 55, 56, 57, 58, 59, 60, 61, 62, 63, 64, 65, 66, 67, 68, 69, 70, 71, 72, 73, 74, 75, 76, 77, 78, 79, 80, 81, 82, 83, 84, 85, 86, 87, 88, 89, 90, 91, 92, 93, 94, 95, 96, 97, 98, 99, 100, 101, 102, 103, 104, 105, 106, 107, 108, 109, 110, 111, 112, 113, 114, 115, 116, 117, 118, 119, 120, 121, 122, 123, 124, 125, 126, 127, 128, 129, 130, 131, 132, 133, 134, 135, 136, 137, 138, 139, 140] (by decide +kernel) (by decide +kernel)) (goodIn_sub (fun _ h => List.mem_cons_of_mem _ (List.mem_append_left _ (List.mem_append_right _ h))) (by decide +kernel))) (goodIn_sub (fun _ h => List.mem_cons_of_mem _ (List.mem_append_right _ h)) (by decide +kernel))
set_option maxRecDepth 20000 in
theorem gL_shift_X6_shift : GoodIn wsL_shift (wsV RL 25 RX6 yX6_shift wsX6_shift) := goodIn_app (goodIn_of _ (by decide +kernel)) ggL_shift_X6_shift
theorem dL_shift_0 : decode cL_shift 0 = .ok (.aload_n 2, 1) := by decide +kernel
theorem dL_shift_1 : decode cL_shift 1 = .ok (.iconst 0, 1) := by decide +kernel
theorem dL_shift_2 : decode cL_shift 2 = .ok (.aload_n 0, 1) := by decide +kernel
theorem dL_shift_3 : decode cL_shift 3 = .ok (.iload_n 1, 1) := by decide +kernel
theorem dL_shift_4 : decode cL_shift 4 = .ok (.invokevirtual 25, 3) := by decide +kernel
theorem dL_shift_7 : decode cL_shift 7 = .ok (.i2l, 1) := by decide +kernel
theorem dL_shift_8 : decode cL_shift 8 = .ok (.lastore, 1) := by decide +kernel
theorem dL_shift_9 : decode cL_shift 9 = .ok (.goto 9, 3) := by decide +kernel
theorem dL_shift_12 : decode cL_shift 12 = .ok (.astore_n 3, 1) := by decide +kernel
theorem dL_shift_13 : decode cL_shift 13 = .ok (.iconst 1, 1) := by decide +kernel
theorem dL_shift_14 : decode cL_shift 14 = .ok (.ireturn, 1) := by decide +kernel
theorem dL_shift_15 : decode cL_shift 15 = .ok (.astore_n 3, 1) := by decide +kernel
theorem dL_shift_16 : decode cL_shift 16 = .ok (.iconst 2, 1) := by decide +kernel
theorem dL_shift_17 : decode cL_shift 17 = .ok (.ireturn, 1) := by decide +kernel
theorem dL_shift_18 : decode cL_shift 18 = .ok (.iconst 0, 1) := by decide +kernel
theorem dL_shift_19 : decode cL_shift 19 = .ok (.ireturn, 1) := by decide +kernel
set_option maxRecDepth 20000 in
theorem ggL_tear_X6_tear : GoodIn wsL_tear wsX6_tear := goodIn_ca (goodIn_ca (goodIn_ca (goodIn_r _ [8, 9, 10, 11, 12, 13, 14, 15, 7, 16, 17, 18, 19, 20, 21, 22, 23, 24, 25, 26, 27, 28, 29, 30, 31, 32, 33, 34, 35, 36, 37, 38, 39, 40, 41, 42, 43, 44, 45, 46, 47, 48, 49, 50, 51, 52, 53, 54, 55, 56, 57, 58, 59, 60, 61, 62, 63, 64, 65, 66, 67, 68, 69, 70, 71, 72, 73, 74, 75, 76, 77, 78, 79, 80, 81, 82, 83, 84, 85, 86, 87, 88, 89, 90, 91, 92, 93, 94, 95, 96, 97, 98, 99, 100, 101, 102, 103, 104, 105, 106, 107, 108, 109, 110, 111, 112, 113, 114, 115, 116, 117, 118, 119, 120, 121, 122, 123, 124, 125, 126, 127, 128, 129, 130, 131, 132, 133, 134, 135, 136, 137, 138, 139, 140, 141, 142, 143, 144, 145, 146, 147, 148, 149, 150, 151, 152, 153, 154, 155, 156] (by decide +kernel) (by decide +kernel)) (goodIn_sub (fun _ h => List.mem_cons_of_mem _ (List.mem_append_left _ (List.mem_append_left _ (List.mem_append_right _ h)))) (by decide +kernel))) (goodIn_sub (fun _ h => List.mem_cons_of_mem _ (List.mem_append_left _ (List.mem_append_right _ h))) (by decide +kernel))) (goodIn_sub (fun _ h => List.mem_cons_of_mem _ (List.mem_append_right _ h)) (by decide +kernel))
set_option maxRecDepth 20000 in
theorem gL_tear_X6_tear : GoodIn wsL_tear (wsV RL 29 RX6 yX6_tear wsX6_tear) := goodIn_app (goodIn_of _ (by decide +kernel)) ggL_tear_X6_tear
theorem dL_tear_0 : decode cL_tear 0 = .ok (.aload 4, 2) := by decide +kernel
theorem dL_tear_2 : decode cL_tear 2 = .ok (.iconst 0, 1) := by decide +kernel
theorem dL_tear_3 : decode cL_tear 3 = .ok (.aload_n 0, 1) := by decide +kernel
theorem dL_tear_4 : decode cL_tear 4 = .ok (.iload_n 1, 1) := by decide +kernel
theorem dL_tear_5 : decode cL_tear 5 = .ok (.iload_n 2, 1) := by decide +kernel
theorem dL_tear_6 : decode cL_tear 6 = .ok (.iload_n 3, 1) := by decide +kernel
theorem dL_tear_7 : decode cL_tear 7 = .ok (.invokevirtual 29, 3) := by decide +kernel
theorem dL_tear_10 : decode cL_tear 10 = .ok (.i2l, 1) := by decide +kernel
theorem dL_tear_11 : decode cL_tear 11 = .ok (.lastore, 1) := by decide +kernel
theorem dL_tear_12 : decode cL_tear 12 = .ok (.goto 15, 3) := by decide +kernel
theorem dL_tear_15 : decode cL_tear 15 = .ok (.astore 5, 2) := by decide +kernel
theorem dL_tear_17 : decode cL_tear 17 = .ok (.iconst 1, 1) := by decide +kernel
theorem dL_tear_18 : decode cL_tear 18 = .ok (.ireturn, 1) := by decide +kernel
theorem dL_tear_19 : decode cL_tear 19 = .ok (.astore 5, 2) := by decide +kernel
theorem dL_tear_21 : decode cL_tear 21 = .ok (.iconst 2, 1) := by decide +kernel
theorem dL_tear_22 : decode cL_tear 22 = .ok (.ireturn, 1) := by decide +kernel
theorem dL_tear_23 : decode cL_tear 23 = .ok (.astore 5, 2) := by decide +kernel
theorem dL_tear_25 : decode cL_tear 25 = .ok (.iconst 3, 1) := by decide +kernel
theorem dL_tear_26 : decode cL_tear 26 = .ok (.ireturn, 1) := by decide +kernel
theorem dL_tear_27 : decode cL_tear 27 = .ok (.iconst 0, 1) := by decide +kernel
theorem dL_tear_28 : decode cL_tear 28 = .ok (.ireturn, 1) := by decide +kernel
set_option maxRecDepth 20000 in
theorem ggL_steer_X6_steer : GoodIn wsL_steer wsX6_steer := goodIn_ca (goodIn_ca (goodIn_r _ [7, 8, 9, 10, 11, 12, 6, 13, 14, 15, 16, 17, 18, 19, 20, 21, 22, 23, 24, 25, 26, 27, 28, 29, 30, 31, 32, 33, 34, 35, 36, 37, 38, 39, 40, 41, 42, 43, 44, 45, 46, 47, 48, 49, 50, 51, 52, 53, 54, 55, 56, 57, 58, 59, 60, 61, 62, 63, 64, 65, 66, 67, 68, 69, 70, 71, 72, 73, 74, 75, 76, 77, 78, 79, 80, 81, 82, 83, 84, 85, 86, 87, 88, 89, 90, 91, 92, 93, 94, 95, 96, 97, 98, 99, 100, 101, 102, 103, 104, 105, 106, 107, 108, 109, 110, 111, 112, 113, 114, 115, 116, 117, 118, 119, 120, 121, 122, 123, 124, 125, 126, 127, 128, 129, 130, 131, 132, 133, 134, 135, 136, 137, 138, 139] (by decide +kernel) (by decide +kernel)) (goodIn_sub (fun _ h => List.mem_cons_of_mem _ (List.mem_append_left _ (List.mem_append_right _ h))) (by decide +kernel))) (goodIn_sub (fun _ h => List.mem_cons_of_mem _ (List.mem_append_right _ h)) (by decide +kernel))
set_option maxRecDepth 20000 in
theorem gL_steer_X6_steer : GoodIn wsL_steer (wsV RL 32 RX6 yX6_steer wsX6_steer) := goodIn_app (goodIn_of _ (by decide +kernel)) ggL_steer_X6_steer
theorem dL_steer_0 : decode cL_steer 0 = .ok (.aload 4, 2) := by decide +kernel
theorem dL_steer_2 : decode cL_steer 2 = .ok (.iconst 0, 1) := by decide +kernel
theorem dL_steer_3 : decode cL_steer 3 = .ok (.aload_n 0, 1) := by decide +kernel
theorem dL_steer_4 : decode cL_steer 4 = .ok (.iload_n 1, 1) := by decide +kernel
theorem dL_steer_5 : decode cL_steer 5 = .ok (.iload_n 2, 1) := by decide +kernel
theorem dL_steer_6 : decode cL_steer 6 = .ok (.iload_n 3, 1) := by decide +kernel
theorem dL_steer_7 : decode cL_steer 7 = .ok (.invokevirtual 32, 3) := by decide +kernel
theorem dL_steer_10 : decode cL_steer 10 = .ok (.i2l, 1) := by decide +kernel
theorem dL_steer_11 : decode cL_steer 11 = .ok (.lastore, 1) := by decide +kernel
theorem dL_steer_12 : decode cL_steer 12 = .ok (.goto 11, 3) := by decide +kernel
theorem dL_steer_15 : decode cL_steer 15 = .ok (.astore 5, 2) := by decide +kernel
theorem dL_steer_17 : decode cL_steer 17 = .ok (.iconst 1, 1) := by decide +kernel
theorem dL_steer_18 : decode cL_steer 18 = .ok (.ireturn, 1) := by decide +kernel
theorem dL_steer_19 : decode cL_steer 19 = .ok (.astore 5, 2) := by decide +kernel
theorem dL_steer_21 : decode cL_steer 21 = .ok (.iconst 2, 1) := by decide +kernel
theorem dL_steer_22 : decode cL_steer 22 = .ok (.ireturn, 1) := by decide +kernel
theorem dL_steer_23 : decode cL_steer 23 = .ok (.iconst 0, 1) := by decide +kernel
theorem dL_steer_24 : decode cL_steer 24 = .ok (.ireturn, 1) := by decide +kernel
set_option maxRecDepth 20000 in
theorem ggL_set_X6_set : GoodIn wsL_set wsX6_set := goodIn_ca (goodIn_ca (goodIn_r _ [7, 8, 9, 10, 11, 12, 13, 14, 15, 16, 6, 17, 18, 19, 20, 21, 22, 23, 24, 25, 26, 27, 28, 29, 30, 31, 32, 33, 34, 35, 36, 37, 38, 39, 40, 41, 42, 43, 44, 45, 46, 47, 48, 49, 50, 51, 52, 53, 54, 55, 56, 57, 58, 59, 60, 61, 62, 63, 64, 65, 66, 67, 68, 69, 70, 71, 72, 73, 74, 75, 76, 77, 78, 79, 80, 81, 82, 83, 84, 85, 86, 87, 88, 89, 90, 91, 92, 93, 94, 95, 96, 97, 98, 99, 100, 101, 102, 103, 104, 105, 106, 107, 108, 109, 110, 111, 112, 113, 114, 115, 116, 117, 118, 119, 120] (by decide +kernel) (by decide +kernel)) (goodIn_sub (fun _ h => List.mem_cons_of_mem _ (List.mem_append_left _ (List.mem_append_right _ h))) (by decide +kernel))) (goodIn_sub (fun _ h => List.mem_cons_of_mem _ (List.mem_append_right _ h)) (by decide +kernel))
set_option maxRecDepth 20000 in
theorem gL_set_X6_set : GoodIn wsL_set (wsV RL 35 RX6 yX6_set wsX6_set) := goodIn_app (goodIn_of _ (by decide +kernel)) ggL_set_X6_set
theorem dL_set_0 : decode cL_set 0 = .ok (.aload_n 3, 1) := by decide +kernel
theorem dL_set_1 : decode cL_set 1 = .ok (.iconst 0, 1) := by decide +kernel
theorem dL_set_2 : decode cL_set 2 = .ok (.aload_n 0, 1) := by decide +kernel
theorem dL_set_3 : decode cL_set 3 = .ok (.iload_n 1, 1) := by decide +kernel
theorem dL_set_4 : decode cL_set 4 = .ok (.iload_n 2, 1) := by decide +kernel
theorem dL_set_5 : decode cL_set 5 = .ok (.invokevirtual 35, 3) := by decide +kernel
theorem dL_set_8 : decode cL_set 8 = .ok (.i2l, 1) := by decide +kernel
theorem dL_set_9 : decode cL_set 9 = .ok (.lastore, 1) := by decide +kernel
theorem dL_set_10 : decode cL_set 10 = .ok (.goto 11, 3) := by decide +kernel
theorem dL_set_13 : decode cL_set 13 = .ok (.astore 4, 2) := by decide +kernel
theorem dL_set_15 : decode cL_set 15 = .ok (.iconst 1, 1) := by decide +kernel
theorem dL_set_16 : decode cL_set 16 = .ok (.ireturn, 1) := by decide +kernel
theorem dL_set_17 : decode cL_set 17 = .ok (.astore 4, 2) := by decide +kernel
theorem dL_set_19 : decode cL_set 19 = .ok (.iconst 2, 1) := by decide +kernel
theorem dL_set_20 : decode cL_set 20 = .ok (.ireturn, 1) := by decide +kernel
theorem dL_set_21 : decode cL_set 21 = .ok (.iconst 0, 1) := by decide +kernel
theorem dL_set_22 : decode cL_set 22 = .ok (.ireturn, 1) := by decide +kernel
set_option maxRecDepth 20000 in
theorem ggL_append_X6_append : GoodIn wsL_append wsX6_append := goodIn_ca (goodIn_ca (goodIn_r _ [7, 8, 9, 10, 11, 12, 13, 14, 15, 16, 17, 18, 19, 20, 21, 22, 23, 24, 25, 26, 27, 28, 29, 30, 31, 32, 33, 34, 35, 36, 37, 38] (by decide +kernel) (by decide +kernel)) (goodIn_sub (fun _ h => List.mem_cons_of_mem _ (List.mem_append_left _ (List.mem_append_right _ h))) (by decide +kernel))) (goodIn_sub (fun _ h => List.mem_cons_of_mem _ (List.mem_append_right _ h)) (by decide +kernel))
set_option maxRecDepth 20000 in
theorem gL_append_X6_append : GoodIn wsL_append (wsV RL 39 RX6 yX6_append wsX6_append) := goodIn_app (goodIn_of _ (by decide +kernel)) ggL_append_X6_append
theorem dL_append_0 : decode cL_append 0 = .ok (.aload_n 2, 1) := by decide +kernel
theorem dL_append_1 : decode cL_append 1 = .ok (.iconst 0, 1) := by decide +kernel
theorem dL_append_2 : decode cL_append 2 = .ok (.aload_n 0, 1) := by decide +kernel
theorem dL_append_3 : decode cL_append 3 = .ok (.iload_n 1, 1) := by decide +kernel
theorem dL_append_4 : decode cL_append 4 = .ok (.invokevirtual 39, 3) := by decide +kernel
theorem dL_append_7 : decode cL_append 7 = .ok (.i2l, 1) := by decide +kernel
theorem dL_append_8 : decode cL_append 8 = .ok (.lastore, 1) := by decide +kernel
theorem dL_append_9 : decode cL_append 9 = .ok (.goto 9, 3) := by decide +kernel
theorem dL_append_12 : decode cL_append 12 = .ok (.astore_n 3, 1) := by decide +kernel
theorem dL_append_13 : decode cL_append 13 = .ok (.iconst 1, 1) := by decide +kernel
theorem dL_append_14 : decode cL_append 14 = .ok (.ireturn, 1) := by decide +kernel
theorem dL_append_15 : decode cL_append 15 = .ok (.astore_n 3, 1) := by decide +kernel
theorem dL_append_16 : decode cL_append 16 = .ok (.iconst 2, 1) := by decide +kernel
theorem dL_append_17 : decode cL_append 17 = .ok (.ireturn, 1) := by decide +kernel
theorem dL_append_18 : decode cL_append 18 = .ok (.iconst 0, 1) := by decide +kernel
theorem dL_append_19 : decode cL_append 19 = .ok (.ireturn, 1) := by decide +kernel
set_option maxRecDepth 20000 in
theorem ggL_punchAll_X6_punchAll : GoodIn wsL_punchAll wsX6_punchAll := goodIn_ca (goodIn_ca (goodIn_r _ [7, 8, 9, 10, 11, 12, 13, 14, 15, 16, 17, 18, 19, 20, 21, 22, 23, 24, 25, 26, 27, 28, 29, 30, 31, 32, 33, 34, 35, 36, 37, 38, 39, 40, 41, 42, 43, 44, 45, 46, 47, 48, 49, 50, 51, 52, 53, 54, 55, 56, 57, 58, 59, 60, 61, 62, 63, 64, 65, 6, 66, 67, 68, 69, 70, 71, 72, 73, 74, 75, 76, 77, 78, 79, 80, 81, 82, 83, 84, 85, 86, 87, 88, 89, 90, 91, 92, 93, 94, 95, 96, 97, 98, 99, 100, 101, 102, 103, 104, 105, 106, 107, 108, 109, 110, 111, 112, 113, 114, 115, 116, 117, 118, 119, 120, 121, 122, 123, 124, 125, 126, 127, 128, 129, 130, 131, 132, 133, 134, 135, 136, 137, 138, 139, 140, 141, 142, 143, 144, 145, 146, 147, 148, 149, 150, 151, 152, 153, 154, 155, 156, 157, 158, 159, 160, 161, 162, 163, 164, 165, 166, 167, 168, 169, 170, 171, 172, 173, 174, 175, 176, 177, 178, 179, 180, 181, 182, 183, 184, 185, 186, 187, 188, 189] (by decide +kernel) (by decide +kernel)) (goodIn_sub (fun _ h => List.mem_cons_of_mem _ (List.mem_append_left _ (List.mem_append_right _ h))) (by decide +kernel))) (goodIn_sub (fun _ h => List.mem_cons_of_mem _ (List.mem_append_right _ h)) (by decide +kernel))
set_option maxRecDepth 20000 in
theorem gL_punchAll_X6_punchAll : GoodIn wsL_punchAll (wsV RL 42 RX6 yX6_punchAll wsX6_punchAll) := goodIn_app (goodIn_of _ (by decide +kernel)) ggL_punchAll_X6_punchAll
theorem dL_punchAll_0 : decode cL_punchAll 0 = .ok (.aload_n 1, 1) := by decide +kernel
theorem dL_punchAll_1 : decode cL_punchAll 1 = .ok (.iconst 0, 1) := by decide +kernel
theorem dL_punchAll_2 : decode cL_punchAll 2 = .ok (.aload_n 0, 1) := by decide +kernel
theorem dL_punchAll_3 : decode cL_punchAll 3 = .ok (.invokevirtual 42, 3) := by decide +kernel
theorem dL_punchAll_6 : decode cL_punchAll 6 = .ok (.i2l, 1) := by decide +kernel
theorem dL_punchAll_7 : decode cL_punchAll 7 = .ok (.lastore, 1) := by decide +kernel
theorem dL_punchAll_8 : decode cL_punchAll 8 = .ok (.goto 9, 3) := by decide +kernel
theorem dL_punchAll_11 : decode cL_punchAll 11 = .ok (.astore_n 2, 1) := by decide +kernel
theorem dL_punchAll_12 : decode cL_punchAll 12 = .ok (.iconst 1, 1) := by decide +kernel
theorem dL_punchAll_13 : decode cL_punchAll 13 = .ok (.ireturn, 1) := by decide +kernel
theorem dL_punchAll_14 : decode cL_punchAll 14 = .ok (.astore_n 2, 1) := by decide +kernel
theorem dL_punchAll_15 : decode cL_punchAll 15 = .ok (.iconst 2, 1) := by decide +kernel
theorem dL_punchAll_16 : decode cL_punchAll 16 = .ok (.ireturn, 1) := by decide +kernel
theorem dL_punchAll_17 : decode cL_punchAll 17 = .ok (.iconst 0, 1) := by decide +kernel
theorem dL_punchAll_18 : decode cL_punchAll 18 = .ok (.ireturn, 1) := by decide +kernel
set_option maxRecDepth 20000 in
theorem ggL_undo_X6_undo : GoodIn wsL_undo wsX6_undo := goodIn_ca (goodIn_r _ [6, 7, 8, 9, 10, 11, 12, 13, 14, 15, 16, 17, 18, 19, 20, 21, 22, 23, 24, 25, 26, 27, 28, 29, 30, 31, 32, 33, 34, 35, 36, 37, 38, 39, 40, 41, 42, 43, 44, 45, 46, 47, 48, 49, 50, 51, 52, 53, 54, 55, 56, 57, 58, 59, 60, 5, 61, 62, 63, 64, 65, 66, 67, 68, 69, 70, 71, 72, 73, 74, 75, 76, 77, 78, 79, 80, 81, 82, 83, 84, 85, 86, 87, 88, 89, 90, 91, 92, 93, 94, 95, 96, 97, 98, 99, 100, 101, 102, 103, 104, 105, 106, 107, 108] (by decide +kernel) (by decide +kernel)) (goodIn_sub (fun _ h => List.mem_cons_of_mem _ (List.mem_append_right _ h)) (by decide +kernel))
set_option maxRecDepth 20000 in
theorem gL_undo_X6_undo : GoodIn wsL_undo (wsV RL 46 RX6 yX6_undo wsX6_undo) := goodIn_app (goodIn_of _ (by decide +kernel)) ggL_undo_X6_undo
theorem dL_undo_0 : decode cL_undo 0 = .ok (.aload_n 1, 1) := by decide +kernel
theorem dL_undo_1 : decode cL_undo 1 = .ok (.iconst 0, 1) := by decide +kernel
theorem dL_undo_2 : decode cL_undo 2 = .ok (.aload_n 0, 1) := by decide +kernel
theorem dL_undo_3 : decode cL_undo 3 = .ok (.invokevirtual 46, 3) := by decide +kernel
theorem dL_undo_6 : decode cL_undo 6 = .ok (.i2l, 1) := by decide +kernel
theorem dL_undo_7 : decode cL_undo 7 = .ok (.lastore, 1) := by decide +kernel
theorem dL_undo_8 : decode cL_undo 8 = .ok (.goto 6, 3) := by decide +kernel
theorem dL_undo_11 : decode cL_undo 11 = .ok (.astore_n 2, 1) := by decide +kernel
theorem dL_undo_12 : decode cL_undo 12 = .ok (.iconst 1, 1) := by decide +kernel
theorem dL_undo_13 : decode cL_undo 13 = .ok (.ireturn, 1) := by decide +kernel
theorem dL_undo_14 : decode cL_undo 14 = .ok (.iconst 0, 1) := by decide +kernel
theorem dL_undo_15 : decode cL_undo 15 = .ok (.ireturn, 1) := by decide +kernel
set_option maxRecDepth 20000 in
theorem ggL_place_X6_place : GoodIn wsL_place wsX6_place := goodIn_ca (goodIn_ca (goodIn_r _ [7, 8, 9, 10, 11, 12, 13, 14, 15, 16, 6, 17, 18, 19, 20, 21, 22, 23, 24, 25, 26, 27, 28, 29, 30, 31, 32, 33, 34, 35, 36, 37] (by decide +kernel) (by decide +kernel)) (goodIn_sub (fun _ h => List.mem_cons_of_mem _ (List.mem_append_left _ (List.mem_append_right _ h))) (by decide +kernel))) (goodIn_sub (fun _ h => List.mem_cons_of_mem _ (List.mem_append_right _ h)) (by decide +kernel))
set_option maxRecDepth 20000 in
theorem gL_place_X6_place : GoodIn wsL_place (wsV RL 49 RX6 yX6_place wsX6_place) := goodIn_app (goodIn_of _ (by decide +kernel)) ggL_place_X6_place
theorem dL_place_0 : decode cL_place 0 = .ok (.aload 4, 2) := by decide +kernel
theorem dL_place_2 : decode cL_place 2 = .ok (.iconst 0, 1) := by decide +kernel
theorem dL_place_3 : decode cL_place 3 = .ok (.aload_n 0, 1) := by decide +kernel
theorem dL_place_4 : decode cL_place 4 = .ok (.iload_n 1, 1) := by decide +kernel
theorem dL_place_5 : decode cL_place 5 = .ok (.iload_n 2, 1) := by decide +kernel
theorem dL_place_6 : decode cL_place 6 = .ok (.iload_n 3, 1) := by decide +kernel
theorem dL_place_7 : decode cL_place 7 = .ok (.invokevirtual 49, 3) := by decide +kernel
theorem dL_place_10 : decode cL_place 10 = .ok (.i2l, 1) := by decide +kernel
theorem dL_place_11 : decode cL_place 11 = .ok (.lastore, 1) := by decide +kernel
theorem dL_place_12 : decode cL_place 12 = .ok (.goto 11, 3) := by decide +kernel
theorem dL_place_15 : decode cL_place 15 = .ok (.astore 5, 2) := by decide +kernel
theorem dL_place_17 : decode cL_place 17 = .ok (.iconst 1, 1) := by decide +kernel
theorem dL_place_18 : decode cL_place 18 = .ok (.ireturn, 1) := by decide +kernel
theorem dL_place_19 : decode cL_place 19 = .ok (.astore 5, 2) := by decide +kernel
theorem dL_place_21 : decode cL_place 21 = .ok (.iconst 2, 1) := by decide +kernel
theorem dL_place_22 : decode cL_place 22 = .ok (.ireturn, 1) := by decide +kernel
theorem dL_place_23 : decode cL_place 23 = .ok (.iconst 0, 1) := by decide +kernel
theorem dL_place_24 : decode cL_place 24 = .ok (.ireturn, 1) := by decide +kernel
set_option maxRecDepth 20000 in
theorem ggL_step_X6_step : GoodIn wsL_step wsX6_step := goodIn_ca (goodIn_ca (goodIn_r _ [7, 8, 9, 10, 11, 6, 12, 13, 14, 15, 16, 17, 18, 19, 20, 21, 22, 23, 24, 25, 26, 27, 28, 29, 30, 31, 32, 33, 34, 35, 36, 37, 38, 39, 40, 41, 42, 43, 44, 45, 46, 47, 48, 49, 50, 51, 52, 53, 54, 55, 56, 57, 58, 59, 60, 61, 62, 63] (by decide +kernel) (by decide +kernel)) (goodIn_sub (fun _ h => List.mem_cons_of_mem _ (List.mem_append_left _ (List.mem_append_right _ h))) (by decide +kernel))) (goodIn_sub (fun _ h => List.mem_cons_of_mem _ (List.mem_append_right _ h)) (by decide +kernel))
set_option maxRecDepth 20000 in
theorem gL_step_X6_step : GoodIn wsL_step (wsV RL 52 RX6 yX6_step wsX6_step) := goodIn_app (goodIn_of _ (by decide +kernel)) ggL_step_X6_step
theorem dL_step_0 : decode cL_step 0 = .ok (.aload_n 3, 1) := by decide +kernel
theorem dL_step_1 : decode cL_step 1 = .ok (.iconst 0, 1) := by decide +kernel
theorem dL_step_2 : decode cL_step 2 = .ok (.aload_n 0, 1) := by decide +kernel
theorem dL_step_3 : decode cL_step 3 = .ok (.iload_n 1, 1) := by decide +kernel
theorem dL_step_4 : decode cL_step 4 = .ok (.iload_n 2, 1) := by decide +kernel
theorem dL_step_5 : decode cL_step 5 = .ok (.invokevirtual 52, 3) := by decide +kernel
theorem dL_step_8 : decode cL_step 8 = .ok (.i2l, 1) := by decide +kernel
theorem dL_step_9 : decode cL_step 9 = .ok (.lastore, 1) := by decide +kernel
theorem dL_step_10 : decode cL_step 10 = .ok (.goto 11, 3) := by decide +kernel
theorem dL_step_13 : decode cL_step 13 = .ok (.astore 4, 2) := by decide +kernel
theorem dL_step_15 : decode cL_step 15 = .ok (.iconst 1, 1) := by decide +kernel
theorem dL_step_16 : decode cL_step 16 = .ok (.ireturn, 1) := by decide +kernel
theorem dL_step_17 : decode cL_step 17 = .ok (.astore 4, 2) := by decide +kernel
theorem dL_step_19 : decode cL_step 19 = .ok (.iconst 2, 1) := by decide +kernel
theorem dL_step_20 : decode cL_step 20 = .ok (.ireturn, 1) := by decide +kernel
theorem dL_step_21 : decode cL_step 21 = .ok (.iconst 0, 1) := by decide +kernel
theorem dL_step_22 : decode cL_step 22 = .ok (.ireturn, 1) := by decide +kernel
set_option maxRecDepth 20000 in
theorem ggL_played_X6_played : GoodIn wsL_played wsX6_played := goodIn_ca (goodIn_ca (goodIn_r _ [7, 8, 9, 10, 11, 12, 13, 14, 15, 16, 17, 18, 19, 20, 21, 22, 23, 24, 25, 26, 27, 6, 28, 29, 30, 31, 32, 33, 34, 35, 36, 37, 38, 39, 40, 41, 42, 43, 44, 45, 46, 47, 48, 49, 50, 51, 52, 53, 54, 55, 56, 57, 58, 59, 60, 61, 62, 63, 64, 65, 66, 67, 68, 69, 70, 71, 72, 73, 74, 75, 76, 77, 78, 79, 80, 81, 82, 83, 84, 85, 86, 87, 88] (by decide +kernel) (by decide +kernel)) (goodIn_sub (fun _ h => List.mem_cons_of_mem _ (List.mem_append_left _ (List.mem_append_right _ h))) (by decide +kernel))) (goodIn_sub (fun _ h => List.mem_cons_of_mem _ (List.mem_append_right _ h)) (by decide +kernel))
set_option maxRecDepth 20000 in
theorem gL_played_X6_played : GoodIn wsL_played (wsV RL 55 RX6 yX6_played wsX6_played) := goodIn_app (goodIn_of _ (by decide +kernel)) ggL_played_X6_played
theorem dL_played_0 : decode cL_played 0 = .ok (.aload_n 3, 1) := by decide +kernel
theorem dL_played_1 : decode cL_played 1 = .ok (.iconst 0, 1) := by decide +kernel
theorem dL_played_2 : decode cL_played 2 = .ok (.aload_n 0, 1) := by decide +kernel
theorem dL_played_3 : decode cL_played 3 = .ok (.iload_n 1, 1) := by decide +kernel
theorem dL_played_4 : decode cL_played 4 = .ok (.iload_n 2, 1) := by decide +kernel
theorem dL_played_5 : decode cL_played 5 = .ok (.invokevirtual 55, 3) := by decide +kernel
theorem dL_played_8 : decode cL_played 8 = .ok (.i2l, 1) := by decide +kernel
theorem dL_played_9 : decode cL_played 9 = .ok (.lastore, 1) := by decide +kernel
theorem dL_played_10 : decode cL_played 10 = .ok (.goto 11, 3) := by decide +kernel
theorem dL_played_13 : decode cL_played 13 = .ok (.astore 4, 2) := by decide +kernel
theorem dL_played_15 : decode cL_played 15 = .ok (.iconst 1, 1) := by decide +kernel
theorem dL_played_16 : decode cL_played 16 = .ok (.ireturn, 1) := by decide +kernel
theorem dL_played_17 : decode cL_played 17 = .ok (.astore 4, 2) := by decide +kernel
theorem dL_played_19 : decode cL_played 19 = .ok (.iconst 2, 1) := by decide +kernel
theorem dL_played_20 : decode cL_played 20 = .ok (.ireturn, 1) := by decide +kernel
theorem dL_played_21 : decode cL_played 21 = .ok (.iconst 0, 1) := by decide +kernel
theorem dL_played_22 : decode cL_played 22 = .ok (.ireturn, 1) := by decide +kernel
set_option maxRecDepth 20000 in
theorem ggL_tune_X6_tune : GoodIn wsL_tune wsX6_tune := goodIn_ca (goodIn_ca (goodIn_r _ [7, 8, 9, 10, 11, 12, 13, 14, 15, 16, 17, 18, 19, 20, 21, 22, 23, 24, 25, 26, 27, 6, 28, 29, 30, 31, 32, 33, 34, 35, 36, 37, 38, 39, 40, 41, 42, 43, 44, 45, 46, 47, 48, 49, 50, 51, 52, 53, 54, 55, 56, 57, 58, 59, 60, 61, 62, 63, 64, 65, 66, 67, 68, 69, 70, 71, 72, 73, 74, 75] (by decide +kernel) (by decide +kernel)) (goodIn_sub (fun _ h => List.mem_cons_of_mem _ (List.mem_append_left _ (List.mem_append_right _ h))) (by decide +kernel))) (goodIn_sub (fun _ h => List.mem_cons_of_mem _ (List.mem_append_right _ h)) (by decide +kernel))
set_option maxRecDepth 20000 in
theorem gL_tune_X6_tune : GoodIn wsL_tune (wsV RL 58 RX6 yX6_tune wsX6_tune) := goodIn_app (goodIn_of _ (by decide +kernel)) ggL_tune_X6_tune
theorem dL_tune_0 : decode cL_tune 0 = .ok (.aload_n 3, 1) := by decide +kernel
theorem dL_tune_1 : decode cL_tune 1 = .ok (.iconst 0, 1) := by decide +kernel
theorem dL_tune_2 : decode cL_tune 2 = .ok (.aload_n 0, 1) := by decide +kernel
theorem dL_tune_3 : decode cL_tune 3 = .ok (.iload_n 1, 1) := by decide +kernel
theorem dL_tune_4 : decode cL_tune 4 = .ok (.iload_n 2, 1) := by decide +kernel
theorem dL_tune_5 : decode cL_tune 5 = .ok (.invokevirtual 58, 3) := by decide +kernel
theorem dL_tune_8 : decode cL_tune 8 = .ok (.i2l, 1) := by decide +kernel
theorem dL_tune_9 : decode cL_tune 9 = .ok (.lastore, 1) := by decide +kernel
theorem dL_tune_10 : decode cL_tune 10 = .ok (.goto 11, 3) := by decide +kernel
theorem dL_tune_13 : decode cL_tune 13 = .ok (.astore 4, 2) := by decide +kernel
theorem dL_tune_15 : decode cL_tune 15 = .ok (.iconst 1, 1) := by decide +kernel
theorem dL_tune_16 : decode cL_tune 16 = .ok (.ireturn, 1) := by decide +kernel
theorem dL_tune_17 : decode cL_tune 17 = .ok (.astore 4, 2) := by decide +kernel
theorem dL_tune_19 : decode cL_tune 19 = .ok (.iconst 2, 1) := by decide +kernel
theorem dL_tune_20 : decode cL_tune 20 = .ok (.ireturn, 1) := by decide +kernel
theorem dL_tune_21 : decode cL_tune 21 = .ok (.iconst 0, 1) := by decide +kernel
theorem dL_tune_22 : decode cL_tune 22 = .ok (.ireturn, 1) := by decide +kernel
set_option maxRecDepth 20000 in
theorem ggL_count_X6_count : GoodIn wsL_count wsX6_count := goodIn_ca (goodIn_r _ [6, 7, 8, 5, 9, 10, 11, 12, 13, 14, 15, 16, 17, 18, 19, 20, 21, 22, 23, 24, 25, 26, 27, 28, 29, 30, 31, 32, 33, 34, 35, 36, 37, 38, 39, 40, 41, 42, 43, 44, 45, 46, 47, 48, 49, 50, 51, 52, 53, 54, 55, 56, 57, 58, 59, 60, 61, 62, 63, 64, 65, 66, 67, 68, 69, 70, 71, 72, 73, 74, 75, 76, 77, 78, 79, 80, 81, 82, 83, 84, 85, 86, 87, 88, 89, 90, 91, 92, 93, 94, 95, 96, 97, 98, 99, 100, 101, 102, 103, 104, 105, 106, 107, 108, 109, 110, 111, 112, 113, 114, 115, 116, 117, 118, 119, 120, 121, 122, 123, 124, 125, 126, 127, 128, 129, 130, 131, 132, 133, 134, 135, 136] (by decide +kernel) (by decide +kernel)) (goodIn_sub (fun _ h => List.mem_cons_of_mem _ (List.mem_append_right _ h)) (by decide +kernel))
set_option maxRecDepth 20000 in
theorem gL_count_X6_count : GoodIn wsL_count (wsV RL 61 RX6 yX6_count wsX6_count) := goodIn_app (goodIn_of _ (by decide +kernel)) ggL_count_X6_count
theorem dL_count_0 : decode cL_count 0 = .ok (.aload_n 2, 1) := by decide +kernel
theorem dL_count_1 : decode cL_count 1 = .ok (.iconst 0, 1) := by decide +kernel
theorem dL_count_2 : decode cL_count 2 = .ok (.aload_n 0, 1) := by decide +kernel
theorem dL_count_3 : decode cL_count 3 = .ok (.iload_n 1, 1) := by decide +kernel
theorem dL_count_4 : decode cL_count 4 = .ok (.invokevirtual 61, 3) := by decide +kernel
theorem dL_count_7 : decode cL_count 7 = .ok (.i2l, 1) := by decide +kernel
theorem dL_count_8 : decode cL_count 8 = .ok (.lastore, 1) := by decide +kernel
theorem dL_count_9 : decode cL_count 9 = .ok (.goto 6, 3) := by decide +kernel
theorem dL_count_12 : decode cL_count 12 = .ok (.astore_n 3, 1) := by decide +kernel
theorem dL_count_13 : decode cL_count 13 = .ok (.iconst 1, 1) := by decide +kernel
theorem dL_count_14 : decode cL_count 14 = .ok (.ireturn, 1) := by decide +kernel
theorem dL_count_15 : decode cL_count 15 = .ok (.iconst 0, 1) := by decide +kernel
theorem dL_count_16 : decode cL_count 16 = .ok (.ireturn, 1) := by decide +kernel
set_option maxRecDepth 20000 in
theorem ggL_setting_X6_setting : GoodIn wsL_setting wsX6_setting := goodIn_ca (goodIn_r _ [6, 7, 8, 5, 9, 10, 11, 12, 13, 14, 15, 16, 17, 18, 19, 20, 21, 22, 23, 24, 25, 26, 27, 28, 29, 30] (by decide +kernel) (by decide +kernel)) (goodIn_sub (fun _ h => List.mem_cons_of_mem _ (List.mem_append_right _ h)) (by decide +kernel))
set_option maxRecDepth 20000 in
theorem gL_setting_X6_setting : GoodIn wsL_setting (wsV RL 64 RX6 yX6_setting wsX6_setting) := goodIn_app (goodIn_of _ (by decide +kernel)) ggL_setting_X6_setting
theorem dL_setting_0 : decode cL_setting 0 = .ok (.aload_n 2, 1) := by decide +kernel
theorem dL_setting_1 : decode cL_setting 1 = .ok (.iconst 0, 1) := by decide +kernel
theorem dL_setting_2 : decode cL_setting 2 = .ok (.aload_n 0, 1) := by decide +kernel
theorem dL_setting_3 : decode cL_setting 3 = .ok (.iload_n 1, 1) := by decide +kernel
theorem dL_setting_4 : decode cL_setting 4 = .ok (.invokevirtual 64, 3) := by decide +kernel
theorem dL_setting_7 : decode cL_setting 7 = .ok (.i2l, 1) := by decide +kernel
theorem dL_setting_8 : decode cL_setting 8 = .ok (.lastore, 1) := by decide +kernel
theorem dL_setting_9 : decode cL_setting 9 = .ok (.goto 6, 3) := by decide +kernel
theorem dL_setting_12 : decode cL_setting 12 = .ok (.astore_n 3, 1) := by decide +kernel
theorem dL_setting_13 : decode cL_setting 13 = .ok (.iconst 1, 1) := by decide +kernel
theorem dL_setting_14 : decode cL_setting 14 = .ok (.ireturn, 1) := by decide +kernel
theorem dL_setting_15 : decode cL_setting 15 = .ok (.iconst 0, 1) := by decide +kernel
theorem dL_setting_16 : decode cL_setting 16 = .ok (.ireturn, 1) := by decide +kernel
set_option maxRecDepth 20000 in
theorem ggL_bestSteer_X6_bestSteer : GoodIn wsL_bestSteer wsX6_bestSteer := goodIn_ca (goodIn_ca (goodIn_r _ [7, 8, 9, 10, 11, 12, 13, 14, 6, 15, 16, 17, 18, 19, 20, 21, 22, 23, 24, 25, 26, 27, 28, 29, 30, 31, 32, 33, 34, 35, 36, 37, 38, 39, 40, 41, 42, 43, 44, 45, 46, 47, 48, 49, 50, 51, 52, 53, 54, 55, 56, 57, 58, 59, 60, 61, 62, 63, 64, 65, 66, 67, 68, 69, 70, 71, 72, 73, 74, 75, 76, 77, 78, 79, 80, 81, 82, 83, 84, 85, 86, 87, 88, 89, 90, 91, 92, 93, 94, 95, 96, 97, 98, 99, 100, 101, 102] (by decide +kernel) (by decide +kernel)) (goodIn_sub (fun _ h => List.mem_cons_of_mem _ (List.mem_append_left _ (List.mem_append_right _ h))) (by decide +kernel))) (goodIn_sub (fun _ h => List.mem_cons_of_mem _ (List.mem_append_right _ h)) (by decide +kernel))
set_option maxRecDepth 20000 in
theorem gL_bestSteer_X6_bestSteer : GoodIn wsL_bestSteer (wsV RL 67 RX6 yX6_bestSteer wsX6_bestSteer) := goodIn_app (goodIn_of _ (by decide +kernel)) ggL_bestSteer_X6_bestSteer
theorem dL_bestSteer_0 : decode cL_bestSteer 0 = .ok (.aload 4, 2) := by decide +kernel
theorem dL_bestSteer_2 : decode cL_bestSteer 2 = .ok (.iconst 0, 1) := by decide +kernel
theorem dL_bestSteer_3 : decode cL_bestSteer 3 = .ok (.aload_n 0, 1) := by decide +kernel
theorem dL_bestSteer_4 : decode cL_bestSteer 4 = .ok (.iload_n 1, 1) := by decide +kernel
theorem dL_bestSteer_5 : decode cL_bestSteer 5 = .ok (.iload_n 2, 1) := by decide +kernel
theorem dL_bestSteer_6 : decode cL_bestSteer 6 = .ok (.iload_n 3, 1) := by decide +kernel
theorem dL_bestSteer_7 : decode cL_bestSteer 7 = .ok (.invokevirtual 67, 3) := by decide +kernel
theorem dL_bestSteer_10 : decode cL_bestSteer 10 = .ok (.i2l, 1) := by decide +kernel
theorem dL_bestSteer_11 : decode cL_bestSteer 11 = .ok (.lastore, 1) := by decide +kernel
theorem dL_bestSteer_12 : decode cL_bestSteer 12 = .ok (.goto 11, 3) := by decide +kernel
theorem dL_bestSteer_15 : decode cL_bestSteer 15 = .ok (.astore 5, 2) := by decide +kernel
theorem dL_bestSteer_17 : decode cL_bestSteer 17 = .ok (.iconst 1, 1) := by decide +kernel
theorem dL_bestSteer_18 : decode cL_bestSteer 18 = .ok (.ireturn, 1) := by decide +kernel
theorem dL_bestSteer_19 : decode cL_bestSteer 19 = .ok (.astore 5, 2) := by decide +kernel
theorem dL_bestSteer_21 : decode cL_bestSteer 21 = .ok (.iconst 2, 1) := by decide +kernel
theorem dL_bestSteer_22 : decode cL_bestSteer 22 = .ok (.ireturn, 1) := by decide +kernel
theorem dL_bestSteer_23 : decode cL_bestSteer 23 = .ok (.iconst 0, 1) := by decide +kernel
theorem dL_bestSteer_24 : decode cL_bestSteer 24 = .ok (.ireturn, 1) := by decide +kernel
set_option maxRecDepth 20000 in
theorem ggL_bestBreak_X6_bestBreak : GoodIn wsL_bestBreak wsX6_bestBreak := goodIn_ca (goodIn_r _ [6, 7, 8, 9, 10, 11, 12, 13, 5, 14, 15, 16, 17, 18, 19, 20, 21, 22, 23, 24, 25, 26, 27, 28, 29, 30, 31, 32, 33, 34, 35, 36, 37, 38, 39, 40, 41, 42, 43, 44, 45, 46, 47, 48, 49, 50, 51, 52, 53, 54, 55, 56, 57, 58, 59, 60, 61, 62, 63, 64, 65, 66, 67, 68, 69, 70, 71, 72, 73, 74, 75, 76, 77, 78, 79, 80, 81, 82, 83, 84, 85, 86, 87, 88, 89, 90, 91, 92, 93, 94, 95, 96, 97, 98, 99, 100, 101, 102, 103, 104, 105, 106, 107, 108] (by decide +kernel) (by decide +kernel)) (goodIn_sub (fun _ h => List.mem_cons_of_mem _ (List.mem_append_right _ h)) (by decide +kernel))
set_option maxRecDepth 20000 in
theorem gL_bestBreak_X6_bestBreak : GoodIn wsL_bestBreak (wsV RL 70 RX6 yX6_bestBreak wsX6_bestBreak) := goodIn_app (goodIn_of _ (by decide +kernel)) ggL_bestBreak_X6_bestBreak
theorem dL_bestBreak_0 : decode cL_bestBreak 0 = .ok (.aload_n 3, 1) := by decide +kernel
theorem dL_bestBreak_1 : decode cL_bestBreak 1 = .ok (.iconst 0, 1) := by decide +kernel
theorem dL_bestBreak_2 : decode cL_bestBreak 2 = .ok (.aload_n 0, 1) := by decide +kernel
theorem dL_bestBreak_3 : decode cL_bestBreak 3 = .ok (.iload_n 1, 1) := by decide +kernel
theorem dL_bestBreak_4 : decode cL_bestBreak 4 = .ok (.iload_n 2, 1) := by decide +kernel
theorem dL_bestBreak_5 : decode cL_bestBreak 5 = .ok (.invokevirtual 70, 3) := by decide +kernel
theorem dL_bestBreak_8 : decode cL_bestBreak 8 = .ok (.i2l, 1) := by decide +kernel
theorem dL_bestBreak_9 : decode cL_bestBreak 9 = .ok (.lastore, 1) := by decide +kernel
theorem dL_bestBreak_10 : decode cL_bestBreak 10 = .ok (.goto 7, 3) := by decide +kernel
theorem dL_bestBreak_13 : decode cL_bestBreak 13 = .ok (.astore 4, 2) := by decide +kernel
theorem dL_bestBreak_15 : decode cL_bestBreak 15 = .ok (.iconst 1, 1) := by decide +kernel
theorem dL_bestBreak_16 : decode cL_bestBreak 16 = .ok (.ireturn, 1) := by decide +kernel
theorem dL_bestBreak_17 : decode cL_bestBreak 17 = .ok (.iconst 0, 1) := by decide +kernel
theorem dL_bestBreak_18 : decode cL_bestBreak 18 = .ok (.ireturn, 1) := by decide +kernel
set_option maxRecDepth 20000 in
theorem ggL_holesFor_X6_holesFor : GoodIn wsL_holesFor wsX6_holesFor := goodIn_ca (goodIn_r _ [6, 7, 8, 9, 5, 10, 11, 12, 13, 14, 15, 16, 17, 18, 19, 20, 21, 22, 23, 24, 25, 26, 27, 28, 29, 30] (by decide +kernel) (by decide +kernel)) (goodIn_sub (fun _ h => List.mem_cons_of_mem _ (List.mem_append_right _ h)) (by decide +kernel))
set_option maxRecDepth 20000 in
theorem gL_holesFor_X6_holesFor : GoodIn wsL_holesFor (wsV RL 73 RX6 yX6_holesFor wsX6_holesFor) := goodIn_app (goodIn_of _ (by decide +kernel)) ggL_holesFor_X6_holesFor
theorem dL_holesFor_0 : decode cL_holesFor 0 = .ok (.aload_n 2, 1) := by decide +kernel
theorem dL_holesFor_1 : decode cL_holesFor 1 = .ok (.iconst 0, 1) := by decide +kernel
theorem dL_holesFor_2 : decode cL_holesFor 2 = .ok (.aload_n 0, 1) := by decide +kernel
theorem dL_holesFor_3 : decode cL_holesFor 3 = .ok (.iload_n 1, 1) := by decide +kernel
theorem dL_holesFor_4 : decode cL_holesFor 4 = .ok (.invokevirtual 73, 3) := by decide +kernel
theorem dL_holesFor_7 : decode cL_holesFor 7 = .ok (.i2l, 1) := by decide +kernel
theorem dL_holesFor_8 : decode cL_holesFor 8 = .ok (.lastore, 1) := by decide +kernel
theorem dL_holesFor_9 : decode cL_holesFor 9 = .ok (.goto 6, 3) := by decide +kernel
theorem dL_holesFor_12 : decode cL_holesFor 12 = .ok (.astore_n 3, 1) := by decide +kernel
theorem dL_holesFor_13 : decode cL_holesFor 13 = .ok (.iconst 1, 1) := by decide +kernel
theorem dL_holesFor_14 : decode cL_holesFor 14 = .ok (.ireturn, 1) := by decide +kernel
theorem dL_holesFor_15 : decode cL_holesFor 15 = .ok (.iconst 0, 1) := by decide +kernel
theorem dL_holesFor_16 : decode cL_holesFor 16 = .ok (.ireturn, 1) := by decide +kernel
set_option maxRecDepth 20000 in
theorem ggL_law_X6_init : GoodIn wsL_law wsX6_init := goodIn_r _ [9, 10, 11, 12, 13, 14, 15, 16, 17, 18, 19, 20, 21, 22, 23, 24, 25, 26, 27, 28, 29, 30, 31, 32, 33, 34, 35, 36, 37, 38, 39, 40, 41, 42, 43, 44, 45, 46, 47, 48, 49, 50, 51, 52, 53, 54, 55, 56, 57, 58, 59, 60, 61, 62, 63, 64, 65, 66, 67, 68, 69, 70, 71, 72, 73, 74, 75, 76, 77, 78, 79, 80, 81, 82, 83, 84, 85, 86, 87, 1010, 1011, 1012, 1013, 1014, 1015, 1016, 986, 987, 988, 989, 990, 1017, 1018, 1019, 1020, 1021, 1022, 1023, 1024, 1025, 1026, 1027, 1028, 1029, 1030, 1031, 1032, 1033, 1034, 1035, 1036, 1037, 1038] (by decide +kernel) (by decide +kernel)
set_option maxRecDepth 20000 in
theorem gL_law_X6_init : GoodIn wsL_law (wsX6_init) := ggL_law_X6_init
set_option maxRecDepth 20000 in
theorem ggL_law_X7_init : GoodIn wsL_law wsX7_init := goodIn_r _ [90, 91, 11, 12, 36, 92, 93, 94, 95, 96, 97, 98, 99, 100, 101, 102, 103, 991, 992, 993, 994, 995, 996, 997, 998, 999, 1000, 1001, 1002, 1003, 1004, 1005, 1006, 1007, 1008, 1009] (by decide +kernel) (by decide +kernel)
set_option maxRecDepth 20000 in
theorem gL_law_X7_init : GoodIn wsL_law (wsX7_init) := ggL_law_X7_init
set_option maxRecDepth 20000 in
theorem ggL_law_L_punch : GoodIn wsL_law wsL_punch := goodIn_ca (goodIn_ca (goodIn_ca (goodIn_r _ [107, 108, 109, 110, 111, 112, 113, 2, 114, 115, 116, 117, 118, 24, 16, 20, 119, 120, 121, 122, 123, 124, 125, 126, 127, 128, 129, 130, 131, 132, 23, 133, 66, 65, 134, 135, 136, 137, 138, 139, 140, 15, 141, 37, 142, 143, 144, 145, 38, 39, 40, 44, 45, 46, 146, 147, 148, 43, 149, 50, 150, 51, 151, 152, 153, 154, 155, 156, 157, 158, 159, 160, 161, 19, 162, 55, 163, 57, 164, 165, 166, 167, 168, 169, 170, 171, 172, 173, 174, 175, 176, 177, 178, 179, 180, 181, 182, 183, 184, 185, 186, 187, 188, 58, 189, 190, 191, 192, 193, 59, 986, 987, 988, 989, 990, 1021, 1022, 1010, 1011, 1012, 1013, 1014, 1015, 1016, 1037, 1038, 1017, 1018, 1019, 1020] (by decide +kernel) (by decide +kernel)) (goodIn_sub (fun _ h => List.mem_append_left _ (List.mem_append_left _ (List.mem_append_right _ h))) (by decide +kernel))) (goodIn_sub (fun _ h => List.mem_append_left _ (List.mem_append_right _ h)) (by decide +kernel))) (goodIn_sub (fun _ h => List.mem_append_right _ h) (by decide +kernel))
set_option maxRecDepth 20000 in
theorem gL_law_L_punch : GoodIn wsL_law (va_wsS RL 80 yL_punch wsL_punch) := goodIn_app (goodIn_of _ (by decide +kernel)) ggL_law_L_punch
set_option maxRecDepth 20000 in
theorem ggL_law_X7_punch : GoodIn wsL_law wsX7_punch := goodIn_r _ [197, 198, 199, 200, 5, 201, 202, 203, 204, 205, 206, 207, 208, 209, 93, 92, 210, 211, 212, 213, 214, 215, 216, 217, 991, 992, 993, 994, 995, 996, 997, 998, 999, 1000, 1001, 1002, 1003, 1004, 1005, 1006, 1007, 1008, 1009] (by decide +kernel) (by decide +kernel)
set_option maxRecDepth 20000 in
theorem gL_law_X7_punch : GoodIn wsL_law (wsV RL 85 RX7 yX7_punch wsX7_punch) := goodIn_app (goodIn_of _ (by decide +kernel)) ggL_law_X7_punch
set_option maxRecDepth 20000 in
theorem ggL_law_X7_thrown : GoodIn wsL_law wsX7_thrown := goodIn_r _ [221, 198, 991, 992, 993, 994, 995, 996, 997, 998, 999, 1000, 1001, 1002, 1003, 1004, 1005, 1006, 1007, 1008, 1009] (by decide +kernel) (by decide +kernel)
set_option maxRecDepth 20000 in
theorem gL_law_X7_thrown : GoodIn wsL_law (wsV RL 86 RX7 yX7_thrown wsX7_thrown) := goodIn_app (goodIn_of _ (by decide +kernel)) ggL_law_X7_thrown
set_option maxRecDepth 20000 in
theorem ggL_law_L_patch : GoodIn wsL_law wsL_patch := goodIn_ca (goodIn_ca (goodIn_r _ [224, 108, 109, 225, 226, 227, 2, 228, 24, 16, 20, 229, 230, 231, 115, 116, 232, 233, 234, 125, 126, 119, 120, 121, 130, 131, 132, 23, 133, 66, 65, 134, 135, 136, 137, 138, 139, 140, 15, 141, 37, 142, 143, 144, 145, 38, 39, 40, 44, 45, 46, 146, 147, 148, 43, 149, 50, 150, 51, 235, 236, 237, 238, 169, 170, 171, 172, 159, 160, 161, 19, 162, 55, 163, 57, 164, 165, 166, 167, 168, 173, 174, 175, 176, 177, 178, 179, 180, 181, 182, 183, 184, 185, 186, 187, 188, 58, 189, 190, 191, 192, 193, 59, 986, 987, 988, 989, 990, 1021, 1022, 1010, 1011, 1012, 1013, 1014, 1015, 1016, 1037, 1038, 1017, 1018, 1019, 1020] (by decide +kernel) (by decide +kernel)) (goodIn_sub (fun _ h => List.mem_append_left _ (List.mem_append_left _ (List.mem_append_right _ h))) (by decide +kernel))) (goodIn_sub (fun _ h => List.mem_append_right _ h) (by decide +kernel))
set_option maxRecDepth 20000 in
theorem gL_law_L_patch : GoodIn wsL_law (va_wsS RL 89 yL_patch wsL_patch) := goodIn_app (goodIn_of _ (by decide +kernel)) ggL_law_L_patch
set_option maxRecDepth 20000 in
theorem ggL_law_X7_patch : GoodIn wsL_law wsX7_patch := goodIn_r _ [242, 198, 92, 243, 244, 5, 245, 199, 200, 201, 246, 247, 248, 202, 203, 204, 205, 206, 207, 208, 209, 93, 249, 250, 251, 252, 991, 992, 993, 994, 995, 996, 997, 998, 999, 1000, 1001, 1002, 1003, 1004, 1005, 1006, 1007, 1008, 1009] (by decide +kernel) (by decide +kernel)
set_option maxRecDepth 20000 in
theorem gL_law_X7_patch : GoodIn wsL_law (wsV RL 91 RX7 yX7_patch wsX7_patch) := goodIn_app (goodIn_of _ (by decide +kernel)) ggL_law_X7_patch
set_option maxRecDepth 20000 in
theorem ggL_law_L_peel : GoodIn wsL_law wsL_peel := goodIn_ca (goodIn_ca (goodIn_r _ [255, 108, 109, 256, 257, 258, 2, 259, 24, 16, 20, 229, 230, 231, 115, 116, 232, 233, 234, 125, 126, 119, 120, 121, 130, 131, 132, 23, 133, 66, 65, 134, 135, 136, 137, 138, 139, 140, 15, 141, 37, 142, 143, 144, 145, 38, 39, 40, 44, 45, 46, 146, 147, 148, 43, 149, 50, 150, 51, 260, 261, 262, 263, 159, 160, 161, 19, 162, 55, 163, 57, 164, 165, 166, 167, 168, 169, 170, 171, 172, 173, 174, 175, 176, 177, 178, 179, 180, 181, 182, 183, 184, 185, 186, 187, 188, 58, 189, 190, 191, 192, 193, 59, 986, 987, 988, 989, 990, 1021, 1022, 1010, 1011, 1012, 1013, 1014, 1015, 1016, 1037, 1038, 1017, 1018, 1019, 1020] (by decide +kernel) (by decide +kernel)) (goodIn_sub (fun _ h => List.mem_append_left _ (List.mem_append_left _ (List.mem_append_right _ h))) (by decide +kernel))) (goodIn_sub (fun _ h => List.mem_append_right _ h) (by decide +kernel))
set_option maxRecDepth 20000 in
theorem gL_law_L_peel : GoodIn wsL_law (va_wsS RL 92 yL_peel wsL_peel) := goodIn_app (goodIn_of _ (by decide +kernel)) ggL_law_L_peel
set_option maxRecDepth 20000 in
theorem ggL_law_X7_peel : GoodIn wsL_law wsX7_peel := goodIn_r _ [267, 198, 92, 243, 244, 5, 245, 199, 200, 201, 246, 247, 248, 202, 203, 204, 205, 206, 207, 208, 209, 93, 991, 992, 993, 994, 995, 996, 997, 998, 999, 1000, 1001, 1002, 1003, 1004, 1005, 1006, 1007, 1008, 1009] (by decide +kernel) (by decide +kernel)
set_option maxRecDepth 20000 in
theorem gL_law_X7_peel : GoodIn wsL_law (wsV RL 94 RX7 yX7_peel wsX7_peel) := goodIn_app (goodIn_of _ (by decide +kernel)) ggL_law_X7_peel
set_option maxRecDepth 20000 in
theorem ggL_law_L_shift : GoodIn wsL_law wsL_shift := goodIn_ca (goodIn_ca (goodIn_r _ [270, 109, 110, 271, 272, 273, 2, 274, 117, 118, 16, 24, 20, 275, 276, 277, 125, 126, 278, 279, 280, 15, 281, 37, 38, 282, 177, 178, 179, 130, 131, 132, 23, 133, 66, 65, 134, 135, 136, 137, 138, 139, 140, 141, 142, 143, 144, 145, 39, 40, 44, 45, 46, 146, 147, 148, 43, 149, 50, 150, 51, 283, 284, 285, 286, 159, 160, 161, 19, 162, 55, 163, 57, 164, 165, 166, 167, 168, 120, 121, 169, 170, 171, 172, 173, 174, 175, 176, 180, 181, 182, 183, 184, 185, 186, 187, 188, 58, 189, 190, 191, 192, 193, 59, 287, 288, 289, 290, 291, 292, 293, 294, 295, 296, 297, 298, 299, 300, 301, 302, 303, 986, 987, 988, 989, 990, 1010, 1011, 1012, 1013, 1014, 1015, 1016, 1021, 1022, 1037, 1038, 1017, 1018, 1019, 1020] (by decide +kernel) (by decide +kernel)) (goodIn_sub (fun _ h => List.mem_append_left _ (List.mem_append_right _ h)) (by decide +kernel))) (goodIn_sub (fun _ h => List.mem_append_right _ h) (by decide +kernel))
set_option maxRecDepth 20000 in
theorem gL_law_L_shift : GoodIn wsL_law (va_wsS RL 95 yL_shift wsL_shift) := goodIn_app (goodIn_of _ (by decide +kernel)) ggL_law_L_shift
set_option maxRecDepth 20000 in
theorem ggL_law_X7_shift : GoodIn wsL_law wsX7_shift := goodIn_r _ [307, 198, 92, 308, 309, 5, 310, 199, 200, 201, 311, 312, 313, 314, 243, 244, 245, 205, 206, 207, 208, 209, 93, 315, 316, 317, 318, 319, 320, 321, 322, 323, 324, 325, 326, 96, 99, 100, 101, 97, 327, 328, 329, 330, 95, 98, 249, 250, 251, 252, 331, 332, 333, 334, 335, 336, 337, 338, 339, 340, 341, 342, 343, 344, 345, 346, 347, 348, 349, 350, 351, 352, 353, 354, 355, 356, 357, 991, 992, 993, 994, 995, 996, 997, 998, 999, 1000, 1001, 1002, 1003, 1004, 1005, 1006, 1007, 1008, 1009] (by decide +kernel) (by decide +kernel)
set_option maxRecDepth 20000 in
theorem gL_law_X7_shift : GoodIn wsL_law (wsV RL 98 RX7 yX7_shift wsX7_shift) := goodIn_app (goodIn_of _ (by decide +kernel)) ggL_law_X7_shift
set_option maxRecDepth 20000 in
theorem ggL_law_L_tear : GoodIn wsL_law wsL_tear := goodIn_ca (goodIn_ca (goodIn_ca (goodIn_r _ [360, 108, 109, 110, 361, 362, 363, 2, 364, 117, 118, 16, 24, 20, 232, 233, 234, 115, 116, 125, 126, 119, 120, 121, 275, 276, 277, 365, 366, 367, 15, 368, 39, 369, 370, 371, 372, 373, 374, 375, 376, 377, 378, 130, 131, 132, 23, 133, 66, 65, 134, 135, 136, 137, 138, 139, 140, 141, 37, 142, 143, 144, 145, 38, 40, 44, 45, 46, 146, 147, 148, 43, 149, 50, 150, 51, 379, 380, 381, 382, 159, 160, 161, 19, 162, 55, 163, 57, 164, 165, 166, 167, 168, 169, 170, 171, 172, 173, 174, 175, 176, 177, 178, 179, 180, 181, 182, 183, 184, 185, 186, 187, 188, 58, 189, 190, 191, 192, 193, 59, 287, 288, 289, 290, 291, 292, 293, 294, 295, 296, 297, 298, 299, 300, 301, 302, 303, 986, 987, 988, 989, 990, 1010, 1011, 1012, 1013, 1014, 1015, 1016, 1021, 1022, 1037, 1038, 1017, 1018, 1019, 1020] (by decide +kernel) (by decide +kernel)) (goodIn_sub (fun _ h => List.mem_append_left _ (List.mem_append_right _ h)) (by decide +kernel))) (goodIn_sub (fun _ h => List.mem_append_left _ (List.mem_append_left _ (List.mem_append_right _ h))) (by decide +kernel))) (goodIn_sub (fun _ h => List.mem_append_right _ h) (by decide +kernel))
set_option maxRecDepth 20000 in
theorem gL_law_L_tear : GoodIn wsL_law (va_wsS RL 99 yL_tear wsL_tear) := goodIn_app (goodIn_of _ (by decide +kernel)) ggL_law_L_tear
set_option maxRecDepth 20000 in
theorem ggL_law_X7_tear : GoodIn wsL_law wsX7_tear := goodIn_r _ [386, 198, 92, 246, 247, 5, 248, 202, 203, 204, 199, 200, 201, 308, 309, 310, 387, 388, 389, 390, 205, 206, 207, 208, 209, 93, 318, 319, 320, 321, 322, 323, 324, 325, 326, 96, 99, 100, 101, 97, 327, 328, 329, 330, 95, 98, 249, 250, 251, 252, 331, 332, 333, 334, 243, 244, 245, 335, 336, 337, 338, 339, 340, 341, 342, 343, 344, 345, 346, 347, 348, 349, 350, 351, 352, 353, 354, 355, 356, 357, 991, 992, 993, 994, 995, 996, 997, 998, 999, 1000, 1001, 1002, 1003, 1004, 1005, 1006, 1007, 1008, 1009] (by decide +kernel) (by decide +kernel)
set_option maxRecDepth 20000 in
theorem gL_law_X7_tear : GoodIn wsL_law (wsV RL 101 RX7 yX7_tear wsX7_tear) := goodIn_app (goodIn_of _ (by decide +kernel)) ggL_law_X7_tear
set_option maxRecDepth 20000 in
theorem ggL_law_L_steer : GoodIn wsL_law wsL_steer := goodIn_ca (goodIn_ca (goodIn_r _ [393, 108, 109, 394, 395, 396, 2, 397, 24, 16, 20, 232, 233, 234, 115, 116, 125, 126, 119, 120, 121, 275, 276, 277, 130, 131, 132, 23, 133, 66, 65, 134, 135, 136, 137, 138, 139, 140, 15, 141, 37, 142, 143, 144, 145, 38, 39, 40, 44, 45, 46, 146, 147, 148, 43, 149, 50, 150, 51, 398, 399, 400, 401, 159, 160, 161, 19, 162, 55, 163, 57, 164, 165, 166, 167, 168, 169, 170, 171, 172, 173, 174, 175, 176, 177, 178, 179, 180, 181, 182, 183, 184, 185, 186, 187, 188, 58, 189, 190, 191, 192, 193, 59, 287, 288, 289, 290, 291, 292, 293, 294, 295, 296, 297, 298, 299, 300, 301, 302, 303, 986, 987, 988, 989, 990, 1021, 1022, 1010, 1011, 1012, 1013, 1014, 1015, 1016, 1037, 1038, 1017, 1018, 1019, 1020] (by decide +kernel) (by decide +kernel)) (goodIn_sub (fun _ h => List.mem_append_left _ (List.mem_append_left _ (List.mem_append_right _ h))) (by decide +kernel))) (goodIn_sub (fun _ h => List.mem_append_right _ h) (by decide +kernel))
set_option maxRecDepth 20000 in
theorem gL_law_L_steer : GoodIn wsL_law (va_wsS RL 102 yL_steer wsL_steer) := goodIn_app (goodIn_of _ (by decide +kernel)) ggL_law_L_steer
set_option maxRecDepth 20000 in
theorem ggL_law_X7_steer : GoodIn wsL_law wsX7_steer := goodIn_r _ [405, 198, 92, 246, 247, 5, 248, 202, 203, 204, 199, 200, 201, 308, 309, 310, 205, 206, 207, 208, 209, 93, 318, 319, 320, 321, 322, 323, 324, 325, 326, 96, 99, 100, 101, 97, 327, 328, 329, 330, 95, 98, 249, 250, 251, 252, 331, 332, 333, 334, 243, 244, 245, 335, 336, 337, 338, 339, 340, 341, 342, 343, 344, 345, 346, 347, 348, 349, 350, 351, 352, 353, 354, 355, 356, 357, 991, 992, 993, 994, 995, 996, 997, 998, 999, 1000, 1001, 1002, 1003, 1004, 1005, 1006, 1007, 1008, 1009] (by decide +kernel) (by decide +kernel)
set_option maxRecDepth 20000 in
theorem gL_law_X7_steer : GoodIn wsL_law (wsV RL 104 RX7 yX7_steer wsX7_steer) := goodIn_app (goodIn_of _ (by decide +kernel)) ggL_law_X7_steer
set_option maxRecDepth 20000 in
theorem ggL_law_L_set : GoodIn wsL_law wsL_set := goodIn_ca (goodIn_ca (goodIn_r _ [408, 108, 109, 409, 410, 411, 2, 412, 125, 126, 24, 16, 413, 414, 20, 415, 416, 417, 115, 116, 130, 131, 132, 23, 133, 66, 65, 134, 135, 136, 137, 138, 139, 140, 15, 141, 37, 142, 143, 144, 145, 38, 39, 40, 44, 45, 46, 146, 147, 148, 43, 149, 50, 150, 51, 418, 419, 420, 421, 159, 160, 161, 19, 162, 55, 163, 57, 164, 165, 166, 167, 168, 120, 121, 169, 170, 171, 172, 173, 174, 175, 176, 177, 178, 179, 180, 181, 182, 183, 184, 185, 186, 187, 188, 58, 189, 190, 191, 192, 193, 59, 986, 987, 988, 989, 990, 1010, 1011, 1012, 1013, 1014, 1015, 1016, 1021, 1022, 1037, 1038, 1017, 1018, 1019, 1020] (by decide +kernel) (by decide +kernel)) (goodIn_sub (fun _ h => List.mem_append_right _ h) (by decide +kernel))) (goodIn_sub (fun _ h => List.mem_append_left _ (List.mem_append_left _ (List.mem_append_right _ h))) (by decide +kernel))
set_option maxRecDepth 20000 in
theorem gL_law_L_set : GoodIn wsL_law (va_wsS RL 105 yL_set wsL_set) := goodIn_app (goodIn_of _ (by decide +kernel)) ggL_law_L_set
set_option maxRecDepth 20000 in
theorem ggL_law_X7_set : GoodIn wsL_law wsX7_set := goodIn_r _ [425, 198, 92, 426, 427, 5, 428, 199, 200, 201, 205, 206, 207, 208, 209, 93, 991, 992, 993, 994, 995, 996, 997, 998, 999, 1000, 1001, 1002, 1003, 1004, 1005, 1006, 1007, 1008, 1009] (by decide +kernel) (by decide +kernel)
set_option maxRecDepth 20000 in
theorem gL_law_X7_set : GoodIn wsL_law (wsV RL 108 RX7 yX7_set wsX7_set) := goodIn_app (goodIn_of _ (by decide +kernel)) ggL_law_X7_set
set_option maxRecDepth 20000 in
theorem ggL_law_X6_learn : GoodIn wsL_law wsX6_learn := goodIn_r _ [432, 24, 16, 292, 20, 291, 130, 131, 132, 23, 133, 66, 65, 134, 135, 136, 137, 138, 139, 140, 15, 141, 37, 142, 143, 144, 145, 38, 39, 40, 44, 45, 46, 146, 147, 148, 43, 149, 50, 150, 51, 433, 434, 435, 436, 437, 438, 2, 439, 440, 298, 299, 300, 301, 302, 303, 986, 987, 988, 989, 990, 1010, 1011, 1012, 1013, 1014, 1015, 1016, 1017, 1018, 1019, 1020, 1021, 1022, 1037, 1038] (by decide +kernel) (by decide +kernel)
set_option maxRecDepth 20000 in
theorem gL_law_X6_learn : GoodIn wsL_law (wsV RL 109 RX6 yX6_learn wsX6_learn) := goodIn_app (goodIn_of _ (by decide +kernel)) ggL_law_X6_learn
set_option maxRecDepth 20000 in
theorem ggL_law_X7_learn : GoodIn wsL_law wsX7_learn := goodIn_r _ [444, 198, 445, 92, 96, 97, 326, 205, 206, 207, 5, 208, 209, 93, 322, 323, 324, 325, 99, 100, 101, 327, 328, 329, 330, 95, 98, 249, 250, 251, 252, 331, 332, 333, 334, 243, 244, 245, 199, 200, 201, 335, 336, 337, 338, 339, 340, 341, 342, 343, 344, 345, 991, 992, 993, 994, 995, 996, 997, 998, 999, 1000, 1001, 1002, 1003, 1004, 1005, 1006, 1007, 1008, 1009] (by decide +kernel) (by decide +kernel)
set_option maxRecDepth 20000 in
theorem gL_law_X7_learn : GoodIn wsL_law (wsV RL 112 RX7 yX7_learn wsX7_learn) := goodIn_app (goodIn_of _ (by decide +kernel)) ggL_law_X7_learn
set_option maxRecDepth 20000 in
theorem ggL_law_L_append : GoodIn wsL_law wsL_append := goodIn_ca (goodIn_ca (goodIn_r _ [448, 109, 110, 449, 450, 451, 2, 452, 125, 126, 117, 118, 28, 453, 454, 455, 27, 456, 71, 70, 457, 458, 459, 460, 986, 987, 988, 989, 990, 1023, 1024, 1025, 1026, 1027, 1028, 1029, 1030, 1031, 1032] (by decide +kernel) (by decide +kernel)) (goodIn_sub (fun _ h => List.mem_append_right _ h) (by decide +kernel))) (goodIn_sub (fun _ h => List.mem_append_left _ (List.mem_append_right _ h)) (by decide +kernel))
set_option maxRecDepth 20000 in
theorem gL_law_L_append : GoodIn wsL_law (va_wsS RL 113 yL_append wsL_append) := goodIn_app (goodIn_of _ (by decide +kernel)) ggL_law_L_append
set_option maxRecDepth 20000 in
theorem ggL_law_X7_append : GoodIn wsL_law wsX7_append := goodIn_r _ [464, 465, 198, 94, 199, 200, 5, 201, 991, 992, 993, 994, 995, 996, 997, 998, 999, 1000, 1001, 1002, 1003, 1004, 1005, 1006, 1007, 1008, 1009] (by decide +kernel) (by decide +kernel)
set_option maxRecDepth 20000 in
theorem gL_law_X7_append : GoodIn wsL_law (wsV RL 115 RX7 yX7_append wsX7_append) := goodIn_app (goodIn_of _ (by decide +kernel)) ggL_law_X7_append
set_option maxRecDepth 20000 in
theorem ggL_law_X6_clearBuffer : GoodIn wsL_law wsX6_clearBuffer := goodIn_r _ [469, 28, 470, 471, 472, 27, 473, 71, 986, 987, 988, 989, 990, 1023, 1024, 1025, 1026, 1027, 1028, 1029, 1030, 1031, 1032] (by decide +kernel) (by decide +kernel)
set_option maxRecDepth 20000 in
theorem gL_law_X6_clearBuffer : GoodIn wsL_law (wsV RL 116 RX6 yX6_clearBuffer wsX6_clearBuffer) := goodIn_app (goodIn_of _ (by decide +kernel)) ggL_law_X6_clearBuffer
set_option maxRecDepth 20000 in
theorem ggL_law_X7_clearBuffer : GoodIn wsL_law wsX7_clearBuffer := goodIn_r _ [477, 198, 465, 991, 992, 993, 994, 995, 996, 997, 998, 999, 1000, 1001, 1002, 1003, 1004, 1005, 1006, 1007, 1008, 1009] (by decide +kernel) (by decide +kernel)
set_option maxRecDepth 20000 in
theorem gL_law_X7_clearBuffer : GoodIn wsL_law (wsV RL 119 RX7 yX7_clearBuffer wsX7_clearBuffer) := goodIn_app (goodIn_of _ (by decide +kernel)) ggL_law_X7_clearBuffer
set_option maxRecDepth 20000 in
theorem ggL_law_X6_firstError : GoodIn wsL_law wsX6_firstError := goodIn_r _ [481, 28, 482, 483, 484, 27, 485, 75, 76, 77, 71, 70, 486, 487, 488, 489, 490, 491, 492, 493, 494, 495, 496, 497, 498, 499, 500, 501, 502, 503, 504, 505, 506, 507, 78, 79, 508, 509, 510, 511, 74, 72, 73, 986, 987, 988, 989, 990, 1023, 1024, 1025, 1026, 1027, 1028, 1029, 1030, 1031, 1032] (by decide +kernel) (by decide +kernel)
set_option maxRecDepth 20000 in
theorem gL_law_X6_firstError : GoodIn wsL_law (wsV RL 120 RX6 yX6_firstError wsX6_firstError) := goodIn_app (goodIn_of _ (by decide +kernel)) ggL_law_X6_firstError
set_option maxRecDepth 20000 in
theorem ggL_law_X7_firstError : GoodIn wsL_law wsX7_firstError := goodIn_r _ [515, 198, 516, 517, 518, 5, 519, 520, 521, 465, 94, 522, 523, 524, 525, 102, 526, 527, 528, 529, 530, 531, 532, 533, 199, 200, 201, 991, 992, 993, 994, 995, 996, 997, 998, 999, 1000, 1001, 1002, 1003, 1004, 1005, 1006, 1007, 1008, 1009] (by decide +kernel) (by decide +kernel)
set_option maxRecDepth 20000 in
theorem gL_law_X7_firstError : GoodIn wsL_law (wsV RL 123 RX7 yX7_firstError wsX7_firstError) := goodIn_app (goodIn_of _ (by decide +kernel)) ggL_law_X7_firstError
set_option maxRecDepth 20000 in
theorem ggL_law_L_punchAll : GoodIn wsL_law wsL_punchAll := goodIn_ca (goodIn_ca (goodIn_r _ [536, 109, 110, 537, 538, 539, 2, 540, 125, 126, 117, 118, 28, 24, 16, 20, 541, 542, 543, 27, 544, 71, 76, 77, 545, 483, 484, 485, 75, 70, 486, 487, 488, 489, 490, 491, 492, 493, 494, 495, 496, 497, 498, 499, 500, 501, 502, 503, 504, 505, 506, 507, 78, 79, 508, 509, 510, 511, 74, 72, 73, 546, 547, 548, 549, 128, 129, 130, 131, 132, 23, 133, 66, 65, 134, 135, 136, 137, 138, 139, 140, 15, 141, 37, 142, 143, 144, 145, 38, 39, 40, 44, 45, 46, 146, 147, 148, 43, 149, 50, 150, 51, 550, 551, 552, 553, 554, 152, 153, 154, 155, 156, 157, 158, 120, 121, 470, 471, 472, 473, 159, 160, 161, 19, 162, 55, 163, 57, 164, 165, 166, 167, 168, 169, 170, 171, 172, 173, 174, 175, 176, 177, 178, 179, 180, 181, 182, 183, 184, 185, 186, 187, 188, 58, 189, 190, 191, 192, 193, 59, 986, 987, 988, 989, 990, 1023, 1024, 1025, 1026, 1027, 1028, 1029, 1030, 1031, 1032, 1021, 1022, 1010, 1011, 1012, 1013, 1014, 1015, 1016, 1037, 1038, 1017, 1018, 1019, 1020] (by decide +kernel) (by decide +kernel)) (goodIn_sub (fun _ h => List.mem_append_right _ h) (by decide +kernel))) (goodIn_sub (fun _ h => List.mem_append_left _ (List.mem_append_right _ h)) (by decide +kernel))
set_option maxRecDepth 20000 in
theorem gL_law_L_punchAll : GoodIn wsL_law (va_wsS RL 124 yL_punchAll wsL_punchAll) := goodIn_app (goodIn_of _ (by decide +kernel)) ggL_law_L_punchAll
set_option maxRecDepth 20000 in
theorem ggL_law_X7_punchAll : GoodIn wsL_law wsX7_punchAll := goodIn_r _ [558, 465, 521, 198, 520, 102, 516, 517, 518, 5, 519, 94, 522, 523, 524, 525, 526, 527, 528, 529, 530, 531, 532, 533, 199, 200, 201, 559, 560, 561, 562, 205, 206, 207, 208, 209, 93, 92, 210, 211, 212, 213, 214, 215, 216, 217, 991, 992, 993, 994, 995, 996, 997, 998, 999, 1000, 1001, 1002, 1003, 1004, 1005, 1006, 1007, 1008, 1009] (by decide +kernel) (by decide +kernel)
set_option maxRecDepth 20000 in
theorem gL_law_X7_punchAll : GoodIn wsL_law (wsV RL 127 RX7 yX7_punchAll wsX7_punchAll) := goodIn_app (goodIn_of _ (by decide +kernel)) ggL_law_X7_punchAll
set_option maxRecDepth 20000 in
theorem ggL_law_L_undo : GoodIn wsL_law wsL_undo := goodIn_ca (goodIn_r _ [565, 110, 566, 567, 568, 2, 569, 117, 118, 24, 16, 20, 570, 571, 572, 23, 573, 66, 574, 575, 576, 577, 65, 138, 139, 140, 15, 141, 37, 142, 143, 144, 145, 38, 39, 40, 44, 45, 46, 146, 147, 148, 43, 149, 50, 150, 51, 159, 160, 161, 19, 162, 55, 163, 57, 164, 165, 166, 167, 168, 120, 121, 169, 170, 171, 172, 173, 174, 175, 176, 177, 178, 179, 180, 181, 182, 183, 184, 185, 186, 187, 188, 58, 189, 190, 191, 192, 193, 59, 986, 987, 988, 989, 990, 1021, 1022, 1010, 1011, 1012, 1013, 1014, 1015, 1016, 1037, 1038, 1017, 1018, 1019, 1020] (by decide +kernel) (by decide +kernel)) (goodIn_sub (fun _ h => List.mem_append_left _ (List.mem_append_right _ h)) (by decide +kernel))
set_option maxRecDepth 20000 in
theorem gL_law_L_undo : GoodIn wsL_law (va_wsS RL 128 yL_undo wsL_undo) := goodIn_app (goodIn_of _ (by decide +kernel)) ggL_law_L_undo
set_option maxRecDepth 20000 in
theorem ggL_law_X7_undo : GoodIn wsL_law wsX7_undo := goodIn_r _ [581, 209, 198, 92, 93, 991, 992, 993, 994, 995, 996, 997, 998, 999, 1000, 1001, 1002, 1003, 1004, 1005, 1006, 1007, 1008, 1009] (by decide +kernel) (by decide +kernel)
set_option maxRecDepth 20000 in
theorem gL_law_X7_undo : GoodIn wsL_law (wsV RL 130 RX7 yX7_undo wsX7_undo) := goodIn_app (goodIn_of _ (by decide +kernel)) ggL_law_X7_undo
set_option maxRecDepth 20000 in
theorem ggL_law_L_place : GoodIn wsL_law wsL_place := goodIn_ca (goodIn_ca (goodIn_r _ [584, 108, 109, 585, 586, 587, 2, 588, 115, 116, 16, 589, 590, 591, 592, 119, 120, 121, 229, 230, 231, 593, 594, 595, 125, 126, 986, 987, 988, 989, 990, 1010, 1011, 1012, 1013, 1014, 1015, 1016] (by decide +kernel) (by decide +kernel)) (goodIn_sub (fun _ h => List.mem_append_left _ (List.mem_append_left _ (List.mem_append_right _ h))) (by decide +kernel))) (goodIn_sub (fun _ h => List.mem_append_right _ h) (by decide +kernel))
set_option maxRecDepth 20000 in
theorem gL_law_L_place : GoodIn wsL_law (va_wsS RL 131 yL_place wsL_place) := goodIn_app (goodIn_of _ (by decide +kernel)) ggL_law_L_place
set_option maxRecDepth 20000 in
theorem ggL_law_X7_place : GoodIn wsL_law wsX7_place := goodIn_r _ [599, 198, 92, 202, 203, 5, 204, 199, 200, 201, 243, 244, 245, 600, 601, 602, 603, 331, 332, 333, 334, 991, 992, 993, 994, 995, 996, 997, 998, 999, 1000, 1001, 1002, 1003, 1004, 1005, 1006, 1007, 1008, 1009] (by decide +kernel) (by decide +kernel)
set_option maxRecDepth 20000 in
theorem gL_law_X7_place : GoodIn wsL_law (wsV RL 133 RX7 yX7_place wsX7_place) := goodIn_app (goodIn_of _ (by decide +kernel)) ggL_law_X7_place
set_option maxRecDepth 20000 in
theorem ggL_law_L_step : GoodIn wsL_law wsL_step := goodIn_ca (goodIn_ca (goodIn_r _ [606, 108, 109, 607, 608, 609, 2, 610, 115, 116, 119, 120, 121, 593, 594, 595, 125, 126, 611, 612, 613, 614, 16, 591, 592, 20, 615, 616, 617, 414, 618, 619, 620, 19, 621, 58, 622, 57, 188, 623, 170, 171, 15, 172, 37, 38, 986, 987, 988, 989, 990, 1010, 1011, 1012, 1013, 1014, 1015, 1016, 1017, 1018, 1019, 1020, 1037, 1038] (by decide +kernel) (by decide +kernel)) (goodIn_sub (fun _ h => List.mem_append_left _ (List.mem_append_left _ (List.mem_append_right _ h))) (by decide +kernel))) (goodIn_sub (fun _ h => List.mem_append_right _ h) (by decide +kernel))
set_option maxRecDepth 20000 in
theorem gL_law_L_step : GoodIn wsL_law (va_wsS RL 134 yL_step wsL_step) := goodIn_app (goodIn_of _ (by decide +kernel)) ggL_law_L_step
set_option maxRecDepth 20000 in
theorem ggL_law_X7_step : GoodIn wsL_law wsX7_step := goodIn_r _ [627, 198, 202, 203, 5, 204, 199, 200, 201, 322, 323, 324, 325, 326, 96, 99, 100, 101, 97, 327, 328, 329, 330, 95, 98, 249, 250, 251, 252, 92, 331, 332, 333, 334, 243, 244, 245, 335, 336, 337, 338, 339, 340, 341, 342, 343, 344, 345, 628, 629, 630, 631, 445, 632, 633, 634, 635, 636, 637, 638, 639, 640, 641, 642, 643, 644, 645, 646, 647, 991, 992, 993, 994, 995, 996, 997, 998, 999, 1000, 1001, 1002, 1003, 1004, 1005, 1006, 1007, 1008, 1009] (by decide +kernel) (by decide +kernel)
set_option maxRecDepth 20000 in
theorem gL_law_X7_step : GoodIn wsL_law (wsV RL 136 RX7 yX7_step wsX7_step) := goodIn_app (goodIn_of _ (by decide +kernel)) ggL_law_X7_step
set_option maxRecDepth 20000 in
theorem ggL_law_L_played : GoodIn wsL_law wsL_played := goodIn_ca (goodIn_ca (goodIn_r _ [650, 108, 109, 651, 652, 653, 2, 654, 115, 116, 20, 291, 655, 656, 657, 43, 658, 50, 150, 297, 298, 299, 300, 301, 302, 303, 593, 594, 595, 125, 126, 659, 660, 661, 662, 663, 664, 665, 666, 667, 120, 121, 668, 669, 670, 671, 16, 292, 672, 673, 674, 675, 51, 676, 677, 678, 19, 679, 59, 57, 680, 681, 682, 683, 684, 55, 685, 686, 687, 688, 689, 986, 987, 988, 989, 990, 1017, 1018, 1019, 1020, 1037, 1038, 1010, 1011, 1012, 1013, 1014, 1015, 1016] (by decide +kernel) (by decide +kernel)) (goodIn_sub (fun _ h => List.mem_append_left _ (List.mem_append_left _ (List.mem_append_right _ h))) (by decide +kernel))) (goodIn_sub (fun _ h => List.mem_append_right _ h) (by decide +kernel))
set_option maxRecDepth 20000 in
theorem gL_law_L_played : GoodIn wsL_law (va_wsS RL 137 yL_played wsL_played) := goodIn_app (goodIn_of _ (by decide +kernel)) ggL_law_L_played
set_option maxRecDepth 20000 in
theorem ggL_law_X7_played : GoodIn wsL_law wsX7_played := goodIn_r _ [693, 326, 198, 322, 323, 324, 5, 325, 96, 99, 100, 101, 97, 327, 328, 329, 330, 95, 98, 249, 250, 251, 252, 92, 331, 332, 333, 334, 243, 244, 245, 199, 200, 201, 335, 336, 337, 338, 339, 340, 341, 342, 343, 344, 345, 694, 695, 696, 697, 636, 637, 638, 639, 640, 641, 642, 643, 698, 699, 700, 701, 350, 351, 352, 353, 354, 355, 356, 357, 991, 992, 993, 994, 995, 996, 997, 998, 999, 1000, 1001, 1002, 1003, 1004, 1005, 1006, 1007, 1008, 1009] (by decide +kernel) (by decide +kernel)
set_option maxRecDepth 20000 in
theorem gL_law_X7_played : GoodIn wsL_law (wsV RL 139 RX7 yX7_played wsX7_played) := goodIn_app (goodIn_of _ (by decide +kernel)) ggL_law_X7_played
set_option maxRecDepth 20000 in
theorem ggL_law_L_tune : GoodIn wsL_law wsL_tune := goodIn_ca (goodIn_ca (goodIn_r _ [704, 108, 109, 705, 706, 707, 2, 708, 115, 116, 16, 292, 655, 656, 657, 43, 658, 50, 150, 297, 298, 299, 300, 301, 302, 303, 593, 594, 595, 125, 126, 659, 660, 661, 662, 663, 664, 665, 666, 667, 120, 121, 709, 710, 711, 712, 20, 291, 672, 673, 674, 675, 51, 685, 686, 687, 688, 689, 986, 987, 988, 989, 990, 1010, 1011, 1012, 1013, 1014, 1015, 1016, 1037, 1038, 1017, 1018, 1019, 1020] (by decide +kernel) (by decide +kernel)) (goodIn_sub (fun _ h => List.mem_append_left _ (List.mem_append_left _ (List.mem_append_right _ h))) (by decide +kernel))) (goodIn_sub (fun _ h => List.mem_append_right _ h) (by decide +kernel))
set_option maxRecDepth 20000 in
theorem gL_law_L_tune : GoodIn wsL_law (va_wsS RL 140 yL_tune wsL_tune) := goodIn_app (goodIn_of _ (by decide +kernel)) ggL_law_L_tune
set_option maxRecDepth 20000 in
theorem ggL_law_X7_tune : GoodIn wsL_law wsX7_tune := goodIn_r _ [716, 198, 717, 718, 719, 5, 720, 92, 721, 722, 723, 199, 200, 201, 322, 323, 324, 325, 326, 96, 99, 100, 101, 97, 327, 328, 329, 330, 95, 98, 249, 250, 251, 252, 331, 332, 333, 334, 243, 244, 245, 335, 336, 337, 338, 339, 340, 341, 342, 343, 344, 345, 724, 725, 726, 727, 728, 729, 730, 731, 354, 355, 356, 357, 732, 733, 734, 735, 991, 992, 993, 994, 995, 996, 997, 998, 999, 1000, 1001, 1002, 1003, 1004, 1005, 1006, 1007, 1008, 1009] (by decide +kernel) (by decide +kernel)
set_option maxRecDepth 20000 in
theorem gL_law_X7_tune : GoodIn wsL_law (wsV RL 142 RX7 yX7_tune wsX7_tune) := goodIn_app (goodIn_of _ (by decide +kernel)) ggL_law_X7_tune
set_option maxRecDepth 20000 in
theorem ggL_law_L_count : GoodIn wsL_law wsL_count := goodIn_ca (goodIn_r _ [738, 109, 739, 740, 741, 2, 742, 593, 594, 595, 125, 126, 743, 744, 745, 746, 16, 589, 747, 590, 20, 291, 292, 748, 615, 414, 749, 750, 24, 751, 438, 439, 440, 298, 299, 300, 301, 302, 303, 752, 753, 754, 15, 755, 169, 170, 171, 172, 37, 38, 120, 121, 756, 434, 435, 436, 43, 437, 50, 150, 287, 288, 289, 290, 293, 294, 295, 296, 51, 297, 757, 758, 759, 19, 760, 761, 619, 620, 621, 58, 622, 57, 188, 762, 763, 764, 765, 680, 665, 666, 667, 766, 673, 674, 675, 767, 686, 687, 688, 664, 689, 768, 682, 683, 684, 55, 769, 770, 771, 772, 39, 570, 571, 572, 23, 573, 66, 986, 987, 988, 989, 990, 1010, 1011, 1012, 1013, 1014, 1015, 1016, 1017, 1018, 1019, 1020, 1037, 1038, 1021, 1022] (by decide +kernel) (by decide +kernel)) (goodIn_sub (fun _ h => List.mem_append_right _ h) (by decide +kernel))
set_option maxRecDepth 20000 in
theorem gL_law_L_count : GoodIn wsL_law (va_wsS RL 143 yL_count wsL_count) := goodIn_app (goodIn_of _ (by decide +kernel)) ggL_law_L_count
set_option maxRecDepth 20000 in
theorem ggL_law_X7_count : GoodIn wsL_law wsX7_count := goodIn_r _ [776, 198, 199, 200, 5, 201, 322, 323, 324, 325, 326, 96, 99, 100, 101, 97, 327, 328, 329, 330, 95, 98, 249, 250, 251, 252, 92, 331, 332, 333, 334, 243, 244, 245, 335, 336, 337, 338, 339, 340, 341, 342, 343, 344, 345, 777, 778, 779, 780, 209, 781, 782, 783, 784, 721, 722, 723, 785, 786, 787, 788, 717, 718, 719, 720, 346, 347, 348, 349, 350, 351, 352, 353, 354, 355, 356, 357, 789, 790, 791, 792, 640, 641, 642, 643, 644, 645, 646, 647, 445, 202, 203, 204, 793, 794, 795, 796, 698, 699, 700, 701, 991, 992, 993, 994, 995, 996, 997, 998, 999, 1000, 1001, 1002, 1003, 1004, 1005, 1006, 1007, 1008, 1009] (by decide +kernel) (by decide +kernel)
set_option maxRecDepth 20000 in
theorem gL_law_X7_count : GoodIn wsL_law (wsV RL 145 RX7 yX7_count wsX7_count) := goodIn_app (goodIn_of _ (by decide +kernel)) ggL_law_X7_count
set_option maxRecDepth 20000 in
theorem ggL_law_L_setting : GoodIn wsL_law wsL_setting := goodIn_ca (goodIn_r _ [799, 108, 800, 801, 802, 2, 803, 415, 416, 417, 115, 116, 418, 419, 420, 421, 16, 413, 414, 986, 987, 988, 989, 990, 1010, 1011, 1012, 1013, 1014, 1015, 1016] (by decide +kernel) (by decide +kernel)) (goodIn_sub (fun _ h => List.mem_append_left _ (List.mem_append_left _ (List.mem_append_right _ h))) (by decide +kernel))
set_option maxRecDepth 20000 in
theorem gL_law_L_setting : GoodIn wsL_law (va_wsS RL 146 yL_setting wsL_setting) := goodIn_app (goodIn_of _ (by decide +kernel)) ggL_law_L_setting
set_option maxRecDepth 20000 in
theorem ggL_law_X7_setting : GoodIn wsL_law wsX7_setting := goodIn_r _ [807, 198, 92, 426, 427, 5, 428, 199, 200, 201, 991, 992, 993, 994, 995, 996, 997, 998, 999, 1000, 1001, 1002, 1003, 1004, 1005, 1006, 1007, 1008, 1009] (by decide +kernel) (by decide +kernel)
set_option maxRecDepth 20000 in
theorem gL_law_X7_setting : GoodIn wsL_law (wsV RL 148 RX7 yX7_setting wsX7_setting) := goodIn_app (goodIn_of _ (by decide +kernel)) ggL_law_X7_setting
set_option maxRecDepth 20000 in
theorem ggL_law_L_bestSteer : GoodIn wsL_law wsL_bestSteer := goodIn_ca (goodIn_ca (goodIn_r _ [810, 108, 109, 811, 812, 813, 2, 814, 32, 16, 20, 815, 816, 232, 233, 234, 115, 116, 125, 126, 119, 120, 121, 593, 594, 595, 817, 818, 819, 31, 820, 87, 821, 83, 822, 823, 824, 825, 166, 167, 15, 168, 39, 169, 170, 171, 172, 37, 38, 173, 174, 175, 176, 177, 178, 179, 826, 827, 828, 829, 85, 86, 830, 181, 182, 43, 183, 50, 51, 831, 294, 295, 296, 150, 297, 298, 299, 300, 301, 302, 303, 986, 987, 988, 989, 990, 1033, 1034, 1035, 1036, 1017, 1018, 1019, 1020, 1010, 1011, 1012, 1013, 1014, 1015, 1016, 1037, 1038] (by decide +kernel) (by decide +kernel)) (goodIn_sub (fun _ h => List.mem_append_left _ (List.mem_append_left _ (List.mem_append_right _ h))) (by decide +kernel))) (goodIn_sub (fun _ h => List.mem_append_right _ h) (by decide +kernel))
set_option maxRecDepth 20000 in
theorem gL_law_L_bestSteer : GoodIn wsL_law (va_wsS RL 149 yL_bestSteer wsL_bestSteer) := goodIn_app (goodIn_of _ (by decide +kernel)) ggL_law_L_bestSteer
set_option maxRecDepth 20000 in
theorem ggL_law_X7_bestSteer : GoodIn wsL_law wsX7_bestSteer := goodIn_r _ [835, 198, 246, 247, 5, 248, 202, 203, 204, 199, 200, 201, 836, 837, 838, 839, 92, 840, 841, 842, 843, 103, 318, 319, 320, 321, 322, 323, 324, 325, 326, 96, 99, 100, 101, 97, 327, 328, 329, 330, 95, 98, 249, 250, 251, 252, 331, 332, 333, 334, 243, 244, 245, 335, 336, 337, 338, 339, 340, 341, 342, 343, 344, 345, 346, 347, 348, 349, 350, 351, 352, 353, 354, 355, 356, 357, 844, 845, 846, 847, 991, 992, 993, 994, 995, 996, 997, 998, 999, 1000, 1001, 1002, 1003, 1004, 1005, 1006, 1007, 1008, 1009] (by decide +kernel) (by decide +kernel)
set_option maxRecDepth 20000 in
theorem gL_law_X7_bestSteer : GoodIn wsL_law (wsV RL 151 RX7 yX7_bestSteer wsX7_bestSteer) := goodIn_app (goodIn_of _ (by decide +kernel)) ggL_law_X7_bestSteer
set_option maxRecDepth 20000 in
theorem ggL_law_X6_bestBridge : GoodIn wsL_law wsX6_bestBridge := goodIn_r _ [851, 32, 16, 20, 815, 852, 853, 854, 31, 855, 87, 822, 824, 826, 827, 828, 829, 85, 86, 830, 181, 182, 43, 183, 50, 51, 831, 294, 295, 296, 150, 297, 298, 299, 300, 301, 302, 303, 986, 987, 988, 989, 990, 1033, 1034, 1035, 1036, 1017, 1018, 1019, 1020, 1010, 1011, 1012, 1013, 1014, 1015, 1016, 1037, 1038] (by decide +kernel) (by decide +kernel)
set_option maxRecDepth 20000 in
theorem gL_law_X6_bestBridge : GoodIn wsL_law (wsV RL 152 RX6 yX6_bestBridge wsX6_bestBridge) := goodIn_app (goodIn_of _ (by decide +kernel)) ggL_law_X6_bestBridge
set_option maxRecDepth 20000 in
theorem ggL_law_X7_bestBridge : GoodIn wsL_law wsX7_bestBridge := goodIn_r _ [859, 198, 860, 861, 862, 5, 863, 92, 318, 319, 320, 321, 322, 323, 324, 325, 326, 96, 99, 100, 101, 97, 327, 328, 329, 330, 95, 98, 249, 250, 251, 252, 331, 332, 333, 334, 243, 244, 245, 199, 200, 201, 335, 336, 337, 338, 339, 340, 341, 342, 343, 344, 345, 346, 347, 348, 349, 350, 351, 352, 353, 354, 355, 356, 357, 991, 992, 993, 994, 995, 996, 997, 998, 999, 1000, 1001, 1002, 1003, 1004, 1005, 1006, 1007, 1008, 1009] (by decide +kernel) (by decide +kernel)
set_option maxRecDepth 20000 in
theorem gL_law_X7_bestBridge : GoodIn wsL_law (wsV RL 155 RX7 yX7_bestBridge wsX7_bestBridge) := goodIn_app (goodIn_of _ (by decide +kernel)) ggL_law_X7_bestBridge
set_option maxRecDepth 20000 in
theorem ggL_law_L_bestBreak : GoodIn wsL_law wsL_bestBreak := goodIn_ca (goodIn_r _ [866, 109, 867, 868, 869, 2, 870, 32, 16, 20, 815, 816, 275, 276, 277, 125, 126, 593, 594, 595, 871, 872, 873, 31, 874, 87, 83, 875, 823, 824, 822, 876, 370, 15, 371, 372, 373, 374, 375, 376, 377, 378, 825, 166, 167, 168, 39, 120, 121, 169, 170, 171, 172, 37, 38, 173, 174, 175, 176, 177, 178, 179, 826, 827, 828, 829, 85, 86, 830, 181, 182, 43, 183, 50, 51, 831, 294, 295, 296, 150, 297, 298, 299, 300, 301, 302, 303, 986, 987, 988, 989, 990, 1033, 1034, 1035, 1036, 1010, 1011, 1012, 1013, 1014, 1015, 1016, 1017, 1018, 1019, 1020, 1037, 1038] (by decide +kernel) (by decide +kernel)) (goodIn_sub (fun _ h => List.mem_append_right _ h) (by decide +kernel))
set_option maxRecDepth 20000 in
theorem gL_law_L_bestBreak : GoodIn wsL_law (va_wsS RL 156 yL_bestBreak wsL_bestBreak) := goodIn_app (goodIn_of _ (by decide +kernel)) ggL_law_L_bestBreak
set_option maxRecDepth 20000 in
theorem ggL_law_X7_bestBreak : GoodIn wsL_law wsX7_bestBreak := goodIn_r _ [880, 198, 308, 309, 5, 310, 199, 200, 201, 881, 882, 883, 884, 92, 103, 840, 841, 842, 843, 885, 886, 887, 318, 319, 320, 321, 322, 323, 324, 325, 326, 96, 99, 100, 101, 97, 327, 328, 329, 330, 95, 98, 249, 250, 251, 252, 331, 332, 333, 334, 243, 244, 245, 335, 336, 337, 338, 339, 340, 341, 342, 343, 344, 345, 346, 347, 348, 349, 350, 351, 352, 353, 354, 355, 356, 357, 844, 845, 846, 847, 991, 992, 993, 994, 995, 996, 997, 998, 999, 1000, 1001, 1002, 1003, 1004, 1005, 1006, 1007, 1008, 1009] (by decide +kernel) (by decide +kernel)
set_option maxRecDepth 20000 in
theorem gL_law_X7_bestBreak : GoodIn wsL_law (wsV RL 158 RX7 yX7_bestBreak wsX7_bestBreak) := goodIn_app (goodIn_of _ (by decide +kernel)) ggL_law_X7_bestBreak
set_option maxRecDepth 20000 in
theorem ggL_law_L_holesFor : GoodIn wsL_law wsL_holesFor := goodIn_ca (goodIn_r _ [890, 109, 891, 892, 893, 2, 894, 16, 122, 123, 124, 125, 126, 895, 896, 897, 15, 898, 45, 986, 987, 988, 989, 990, 1010, 1011, 1012, 1013, 1014, 1015, 1016] (by decide +kernel) (by decide +kernel)) (goodIn_sub (fun _ h => List.mem_append_right _ h) (by decide +kernel))
set_option maxRecDepth 20000 in
theorem gL_law_L_holesFor : GoodIn wsL_law (va_wsS RL 159 yL_holesFor wsL_holesFor) := goodIn_app (goodIn_of _ (by decide +kernel)) ggL_law_L_holesFor
set_option maxRecDepth 20000 in
theorem ggL_law_X7_holesFor : GoodIn wsL_law wsX7_holesFor := goodIn_r _ [902, 198, 92, 199, 200, 5, 201, 991, 992, 993, 994, 995, 996, 997, 998, 999, 1000, 1001, 1002, 1003, 1004, 1005, 1006, 1007, 1008, 1009] (by decide +kernel) (by decide +kernel)
set_option maxRecDepth 20000 in
theorem gL_law_X7_holesFor : GoodIn wsL_law (wsV RL 161 RX7 yX7_holesFor wsX7_holesFor) := goodIn_app (goodIn_of _ (by decide +kernel)) ggL_law_X7_holesFor
set_option maxRecDepth 20000 in
theorem ggL_law_X6_tuneShare : GoodIn wsL_law wsX6_tuneShare := goodIn_r _ [906, 907, 908, 909, 2, 910, 16, 292, 434, 435, 436, 43, 437, 50, 150, 438, 439, 440, 298, 299, 300, 301, 302, 303, 287, 288, 289, 290, 20, 291, 293, 294, 295, 296, 51, 297, 986, 987, 988, 989, 990, 1010, 1011, 1012, 1013, 1014, 1015, 1016, 1037, 1038, 1017, 1018, 1019, 1020] (by decide +kernel) (by decide +kernel)
set_option maxRecDepth 20000 in
theorem gL_law_X6_tuneShare : GoodIn wsL_law (wsV RL 162 RX6 yX6_tuneShare wsX6_tuneShare) := goodIn_app (goodIn_of _ (by decide +kernel)) ggL_law_X6_tuneShare
set_option maxRecDepth 20000 in
theorem ggL_law_X7_tuneShare : GoodIn wsL_law wsX7_tuneShare := goodIn_r _ [914, 198, 322, 323, 324, 5, 325, 326, 96, 99, 100, 101, 97, 327, 328, 329, 330, 95, 98, 249, 250, 251, 252, 92, 331, 332, 333, 334, 243, 244, 245, 199, 200, 201, 335, 336, 337, 338, 339, 340, 341, 342, 343, 344, 345, 915, 916, 917, 918, 717, 718, 719, 720, 721, 722, 723, 346, 347, 348, 349, 350, 351, 352, 353, 354, 355, 356, 357, 991, 992, 993, 994, 995, 996, 997, 998, 999, 1000, 1001, 1002, 1003, 1004, 1005, 1006, 1007, 1008, 1009] (by decide +kernel) (by decide +kernel)
set_option maxRecDepth 20000 in
theorem gL_law_X7_tuneShare : GoodIn wsL_law (wsV RL 166 RX7 yX7_tuneShare wsX7_tuneShare) := goodIn_app (goodIn_of _ (by decide +kernel)) ggL_law_X7_tuneShare
set_option maxRecDepth 20000 in
theorem ggL_law_X6_digest : GoodIn wsL_law wsX6_digest := goodIn_r _ [922, 923, 16, 413, 414, 28, 743, 744, 745, 2, 746, 589, 747, 590, 20, 291, 292, 748, 615, 749, 750, 24, 751, 438, 439, 440, 298, 299, 300, 301, 302, 303, 752, 753, 754, 15, 755, 169, 170, 171, 172, 37, 38, 120, 121, 756, 434, 435, 436, 43, 437, 50, 150, 287, 288, 289, 290, 293, 294, 295, 296, 51, 297, 757, 758, 759, 19, 760, 761, 619, 620, 621, 58, 622, 57, 188, 762, 763, 764, 765, 680, 665, 666, 667, 766, 673, 674, 675, 767, 686, 687, 688, 664, 689, 768, 682, 683, 684, 55, 769, 770, 771, 772, 39, 570, 571, 572, 23, 573, 66, 924, 925, 926, 927, 928, 929, 930, 931, 611, 612, 613, 614, 591, 592, 616, 617, 119, 618, 623, 932, 933, 934, 935, 936, 709, 710, 711, 712, 672, 685, 668, 669, 670, 671, 676, 677, 678, 679, 59, 681, 937, 938, 939, 940, 32, 815, 941, 942, 943, 944, 816, 817, 818, 819, 31, 820, 87, 821, 83, 822, 823, 824, 825, 166, 167, 168, 173, 174, 175, 176, 177, 178, 179, 826, 827, 828, 829, 85, 86, 830, 181, 182, 183, 831, 852, 853, 854, 855, 945, 946, 947, 948, 871, 872, 873, 874, 875, 876, 370, 371, 372, 373, 374, 375, 376, 377, 378, 907, 908, 909, 910, 949, 950, 951, 952, 953, 954, 955, 956, 957, 27, 958, 71, 70, 986, 987, 988, 989, 990, 1010, 1011, 1012, 1013, 1014, 1015, 1016, 1017, 1018, 1019, 1020, 1037, 1038, 1021, 1022, 1033, 1034, 1035, 1036, 1023, 1024, 1025, 1026, 1027, 1028, 1029, 1030, 1031, 1032] (by decide +kernel) (by decide +kernel)
set_option maxRecDepth 20000 in
theorem gL_law_X6_digest : GoodIn wsL_law (wsV RL 167 RX6 yX6_digest wsX6_digest) := goodIn_app (goodIn_of _ (by decide +kernel)) ggL_law_X6_digest
set_option maxRecDepth 20000 in
theorem ggL_law_X7_digest : GoodIn wsL_law wsX7_digest := goodIn_r _ [962, 198, 963, 964, 92, 326, 465, 94, 322, 323, 324, 5, 325, 96, 99, 100, 101, 97, 327, 328, 329, 330, 95, 98, 249, 250, 251, 252, 331, 332, 333, 334, 243, 244, 245, 199, 200, 201, 335, 336, 337, 338, 339, 340, 341, 342, 343, 344, 345, 777, 778, 779, 780, 209, 781, 782, 783, 784, 721, 722, 723, 785, 786, 787, 788, 717, 718, 719, 720, 346, 347, 348, 349, 350, 351, 352, 353, 354, 355, 356, 357, 789, 790, 791, 792, 640, 641, 642, 643, 644, 645, 646, 647, 445, 202, 203, 204, 793, 794, 795, 796, 698, 699, 700, 701, 965, 966, 967, 968, 969, 628, 629, 630, 631, 632, 633, 634, 635, 636, 637, 638, 639, 694, 695, 696, 697, 724, 725, 726, 727, 728, 729, 730, 731, 732, 733, 734, 735, 970, 971, 972, 973, 836, 837, 838, 839, 840, 841, 842, 843, 103, 318, 319, 320, 321, 844, 845, 846, 847, 860, 861, 862, 863, 881, 882, 883, 884, 885, 886, 887, 915, 916, 917, 918, 974, 975, 976, 977, 978, 979, 980, 981, 982, 983, 984, 985, 991, 992, 993, 994, 995, 996, 997, 998, 999, 1000, 1001, 1002, 1003, 1004, 1005, 1006, 1007, 1008, 1009] (by decide +kernel) (by decide +kernel)
set_option maxRecDepth 20000 in
theorem gL_law_X7_digest : GoodIn wsL_law (wsV RL 171 RX7 yX7_digest wsX7_digest) := goodIn_app (goodIn_of _ (by decide +kernel)) ggL_law_X7_digest

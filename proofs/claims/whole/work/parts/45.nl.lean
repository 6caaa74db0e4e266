set_option maxRecDepth 20000 in
theorem ggL_points_X8_points : GoodIn wsL_points wsX8_points := goodIn_ca (goodIn_r _ [6, 7, 8, 9, 10, 11, 12, 13, 14, 15, 16, 17, 18, 19, 5, 20, 21, 22, 23, 24, 25, 26, 27, 28, 29, 30, 31, 32, 33, 34, 35, 36, 37, 38, 39, 40, 41, 42, 43, 44, 45, 46, 47, 48, 49, 50, 51, 52, 53, 54, 55] (by decide +kernel) (by decide +kernel)) (goodIn_sub (fun _ h => List.mem_cons_of_mem _ (List.mem_append_right _ h)) (by decide +kernel))
set_option maxRecDepth 20000 in
theorem gL_points_X8_points : GoodIn wsL_points (wsV RL 7 RX8 yX8_points wsX8_points) := goodIn_app (goodIn_of _ (by decide +kernel)) ggL_points_X8_points
theorem dL_points_0 : decode cL_points 0 = .ok (.aload_n 2, 1) := by decide +kernel
theorem dL_points_1 : decode cL_points 1 = .ok (.iconst 0, 1) := by decide +kernel
theorem dL_points_2 : decode cL_points 2 = .ok (.aload_n 0, 1) := by decide +kernel
theorem dL_points_3 : decode cL_points 3 = .ok (.iload_n 1, 1) := by decide +kernel
theorem dL_points_4 : decode cL_points 4 = .ok (.invokevirtual 7, 3) := by decide +kernel
theorem dL_points_7 : decode cL_points 7 = .ok (.i2l, 1) := by decide +kernel
theorem dL_points_8 : decode cL_points 8 = .ok (.lastore, 1) := by decide +kernel
theorem dL_points_9 : decode cL_points 9 = .ok (.goto 6, 3) := by decide +kernel
theorem dL_points_12 : decode cL_points 12 = .ok (.astore_n 3, 1) := by decide +kernel
theorem dL_points_13 : decode cL_points 13 = .ok (.iconst 1, 1) := by decide +kernel
theorem dL_points_14 : decode cL_points 14 = .ok (.ireturn, 1) := by decide +kernel
theorem dL_points_15 : decode cL_points 15 = .ok (.iconst 0, 1) := by decide +kernel
theorem dL_points_16 : decode cL_points 16 = .ok (.ireturn, 1) := by decide +kernel
set_option maxRecDepth 20000 in
theorem ggL_concept_X8_concept : GoodIn wsL_concept wsX8_concept := goodIn_ca (goodIn_ca (goodIn_ca (goodIn_r _ [8, 9, 10, 11, 12, 13, 14, 15, 16, 17, 18, 19, 20, 21, 22, 23, 24, 25, 26, 27, 28, 29, 30, 31, 32, 33, 7, 34, 35, 36, 37, 38, 39, 40, 41, 42, 43, 44, 45, 46, 47, 48, 49, 50, 51, 52, 53, 54, 55, 56, 57, 58, 59, 60, 61, 62, 63] (by decide +kernel) (by decide +kernel)) (goodIn_sub (fun _ h => List.mem_cons_of_mem _ (List.mem_append_left _ (List.mem_append_left _ (List.mem_append_right _ h)))) (by decide +kernel))) (goodIn_sub (fun _ h => List.mem_cons_of_mem _ (List.mem_append_left _ (List.mem_append_right _ h))) (by decide +kernel))) (goodIn_sub (fun _ h => List.mem_cons_of_mem _ (List.mem_append_right _ h)) (by decide +kernel))
set_option maxRecDepth 20000 in
theorem gL_concept_X8_concept : GoodIn wsL_concept (wsV RL 15 RX8 yX8_concept wsX8_concept) := goodIn_app (goodIn_of _ (by decide +kernel)) ggL_concept_X8_concept
theorem dL_concept_0 : decode cL_concept 0 = .ok (.aload_n 2, 1) := by decide +kernel
theorem dL_concept_1 : decode cL_concept 1 = .ok (.iconst 0, 1) := by decide +kernel
theorem dL_concept_2 : decode cL_concept 2 = .ok (.aload_n 0, 1) := by decide +kernel
theorem dL_concept_3 : decode cL_concept 3 = .ok (.iload_n 1, 1) := by decide +kernel
theorem dL_concept_4 : decode cL_concept 4 = .ok (.invokevirtual 15, 3) := by decide +kernel
theorem dL_concept_7 : decode cL_concept 7 = .ok (.i2l, 1) := by decide +kernel
theorem dL_concept_8 : decode cL_concept 8 = .ok (.lastore, 1) := by decide +kernel
theorem dL_concept_9 : decode cL_concept 9 = .ok (.goto 12, 3) := by decide +kernel
theorem dL_concept_12 : decode cL_concept 12 = .ok (.astore_n 3, 1) := by decide +kernel
theorem dL_concept_13 : decode cL_concept 13 = .ok (.iconst 1, 1) := by decide +kernel
theorem dL_concept_14 : decode cL_concept 14 = .ok (.ireturn, 1) := by decide +kernel
theorem dL_concept_15 : decode cL_concept 15 = .ok (.astore_n 3, 1) := by decide +kernel
theorem dL_concept_16 : decode cL_concept 16 = .ok (.iconst 2, 1) := by decide +kernel
theorem dL_concept_17 : decode cL_concept 17 = .ok (.ireturn, 1) := by decide +kernel
theorem dL_concept_18 : decode cL_concept 18 = .ok (.astore_n 3, 1) := by decide +kernel
theorem dL_concept_19 : decode cL_concept 19 = .ok (.iconst 3, 1) := by decide +kernel
theorem dL_concept_20 : decode cL_concept 20 = .ok (.ireturn, 1) := by decide +kernel
theorem dL_concept_21 : decode cL_concept 21 = .ok (.iconst 0, 1) := by decide +kernel
theorem dL_concept_22 : decode cL_concept 22 = .ok (.ireturn, 1) := by decide +kernel
set_option maxRecDepth 20000 in
theorem ggL_family_X8_family : GoodIn wsL_family wsX8_family := goodIn_ca (goodIn_ca (goodIn_ca (goodIn_r _ [8, 9, 10, 11, 12, 13, 14, 15, 16, 17, 18, 19, 20, 21, 22, 23, 24, 25, 26, 27, 28, 29, 30, 31, 32, 33, 34, 35, 36, 37, 38, 39, 40, 41, 42, 43, 44, 45, 46, 7, 47, 48, 49, 50, 51, 52, 53, 54, 55, 56, 57, 58, 59, 60, 61, 62, 63, 64, 65, 66, 67, 68, 69, 70, 71, 72, 73, 74, 75, 76, 77, 78, 79, 80] (by decide +kernel) (by decide +kernel)) (goodIn_sub (fun _ h => List.mem_cons_of_mem _ (List.mem_append_left _ (List.mem_append_left _ (List.mem_append_right _ h)))) (by decide +kernel))) (goodIn_sub (fun _ h => List.mem_cons_of_mem _ (List.mem_append_left _ (List.mem_append_right _ h))) (by decide +kernel))) (goodIn_sub (fun _ h => List.mem_cons_of_mem _ (List.mem_append_right _ h)) (by decide +kernel))
set_option maxRecDepth 20000 in
theorem gL_family_X8_family : GoodIn wsL_family (wsV RL 22 RX8 yX8_family wsX8_family) := goodIn_app (goodIn_of _ (by decide +kernel)) ggL_family_X8_family
theorem dL_family_0 : decode cL_family 0 = .ok (.aload_n 2, 1) := by decide +kernel
theorem dL_family_1 : decode cL_family 1 = .ok (.iconst 0, 1) := by decide +kernel
theorem dL_family_2 : decode cL_family 2 = .ok (.aload_n 0, 1) := by decide +kernel
theorem dL_family_3 : decode cL_family 3 = .ok (.iload_n 1, 1) := by decide +kernel
theorem dL_family_4 : decode cL_family 4 = .ok (.invokevirtual 22, 3) := by decide +kernel
theorem dL_family_7 : decode cL_family 7 = .ok (.i2l, 1) := by decide +kernel
theorem dL_family_8 : decode cL_family 8 = .ok (.lastore, 1) := by decide +kernel
theorem dL_family_9 : decode cL_family 9 = .ok (.goto 12, 3) := by decide +kernel
theorem dL_family_12 : decode cL_family 12 = .ok (.astore_n 3, 1) := by decide +kernel
theorem dL_family_13 : decode cL_family 13 = .ok (.iconst 1, 1) := by decide +kernel
theorem dL_family_14 : decode cL_family 14 = .ok (.ireturn, 1) := by decide +kernel
theorem dL_family_15 : decode cL_family 15 = .ok (.astore_n 3, 1) := by decide +kernel
theorem dL_family_16 : decode cL_family 16 = .ok (.iconst 2, 1) := by decide +kernel
theorem dL_family_17 : decode cL_family 17 = .ok (.ireturn, 1) := by decide +kernel
theorem dL_family_18 : decode cL_family 18 = .ok (.astore_n 3, 1) := by decide +kernel
theorem dL_family_19 : decode cL_family 19 = .ok (.iconst 3, 1) := by decide +kernel
theorem dL_family_20 : decode cL_family 20 = .ok (.ireturn, 1) := by decide +kernel
theorem dL_family_21 : decode cL_family 21 = .ok (.iconst 0, 1) := by decide +kernel
theorem dL_family_22 : decode cL_family 22 = .ok (.ireturn, 1) := by decide +kernel
set_option maxRecDepth 20000 in
theorem ggL_setOf_X8_setOf : GoodIn wsL_setOf wsX8_setOf := goodIn_ca (goodIn_r _ [6, 7, 8, 9, 10, 11, 12, 13, 14, 15, 16, 17, 18, 19, 20, 21, 5, 22, 23, 24, 25, 26, 27, 28, 29, 30, 31, 32, 33, 34] (by decide +kernel) (by decide +kernel)) (goodIn_sub (fun _ h => List.mem_cons_of_mem _ (List.mem_append_right _ h)) (by decide +kernel))
set_option maxRecDepth 20000 in
theorem gL_setOf_X8_setOf : GoodIn wsL_setOf (wsV RL 26 RX8 yX8_setOf wsX8_setOf) := goodIn_app (goodIn_of _ (by decide +kernel)) ggL_setOf_X8_setOf
theorem dL_setOf_0 : decode cL_setOf 0 = .ok (.aload_n 2, 1) := by decide +kernel
theorem dL_setOf_1 : decode cL_setOf 1 = .ok (.iconst 0, 1) := by decide +kernel
theorem dL_setOf_2 : decode cL_setOf 2 = .ok (.aload_n 0, 1) := by decide +kernel
theorem dL_setOf_3 : decode cL_setOf 3 = .ok (.iload_n 1, 1) := by decide +kernel
theorem dL_setOf_4 : decode cL_setOf 4 = .ok (.invokevirtual 26, 3) := by decide +kernel
theorem dL_setOf_7 : decode cL_setOf 7 = .ok (.i2l, 1) := by decide +kernel
theorem dL_setOf_8 : decode cL_setOf 8 = .ok (.lastore, 1) := by decide +kernel
theorem dL_setOf_9 : decode cL_setOf 9 = .ok (.goto 6, 3) := by decide +kernel
theorem dL_setOf_12 : decode cL_setOf 12 = .ok (.astore_n 3, 1) := by decide +kernel
theorem dL_setOf_13 : decode cL_setOf 13 = .ok (.iconst 1, 1) := by decide +kernel
theorem dL_setOf_14 : decode cL_setOf 14 = .ok (.ireturn, 1) := by decide +kernel
theorem dL_setOf_15 : decode cL_setOf 15 = .ok (.iconst 0, 1) := by decide +kernel
theorem dL_setOf_16 : decode cL_setOf 16 = .ok (.ireturn, 1) := by decide +kernel
set_option maxRecDepth 20000 in
theorem ggL_teach_X8_teach : GoodIn wsL_teach wsX8_teach := goodIn_ca (goodIn_ca (goodIn_ca (goodIn_r _ [8, 9, 10, 11, 12, 13, 14, 15, 16, 17, 18, 19, 20, 21, 22, 23, 24, 25, 26, 27, 28, 29, 30, 31, 32, 33, 34, 35, 36, 37, 38, 39, 40, 41, 7, 42, 43, 44, 45, 46, 47, 48, 49, 50, 51, 52, 53, 54, 55, 56, 57, 58, 59, 60, 61, 62] (by decide +kernel) (by decide +kernel)) (goodIn_sub (fun _ h => List.mem_cons_of_mem _ (List.mem_append_left _ (List.mem_append_left _ (List.mem_append_right _ h)))) (by decide +kernel))) (goodIn_sub (fun _ h => List.mem_cons_of_mem _ (List.mem_append_left _ (List.mem_append_right _ h))) (by decide +kernel))) (goodIn_sub (fun _ h => List.mem_cons_of_mem _ (List.mem_append_right _ h)) (by decide +kernel))
set_option maxRecDepth 20000 in
theorem gL_teach_X8_teach : GoodIn wsL_teach (wsV RL 31 RX8 yX8_teach wsX8_teach) := goodIn_app (goodIn_of _ (by decide +kernel)) ggL_teach_X8_teach
theorem dL_teach_0 : decode cL_teach 0 = .ok (.aload 4, 2) := by decide +kernel
theorem dL_teach_2 : decode cL_teach 2 = .ok (.iconst 0, 1) := by decide +kernel
theorem dL_teach_3 : decode cL_teach 3 = .ok (.aload_n 0, 1) := by decide +kernel
theorem dL_teach_4 : decode cL_teach 4 = .ok (.iload_n 1, 1) := by decide +kernel
theorem dL_teach_5 : decode cL_teach 5 = .ok (.iload_n 2, 1) := by decide +kernel
theorem dL_teach_6 : decode cL_teach 6 = .ok (.iload_n 3, 1) := by decide +kernel
theorem dL_teach_7 : decode cL_teach 7 = .ok (.invokevirtual 31, 3) := by decide +kernel
theorem dL_teach_10 : decode cL_teach 10 = .ok (.ifCond .eq 7, 3) := by decide +kernel
theorem dL_teach_13 : decode cL_teach 13 = .ok (.lconst 1, 1) := by decide +kernel
theorem dL_teach_14 : decode cL_teach 14 = .ok (.goto 4, 3) := by decide +kernel
theorem dL_teach_17 : decode cL_teach 17 = .ok (.lconst 0, 1) := by decide +kernel
theorem dL_teach_18 : decode cL_teach 18 = .ok (.lastore, 1) := by decide +kernel
theorem dL_teach_19 : decode cL_teach 19 = .ok (.goto 15, 3) := by decide +kernel
theorem dL_teach_22 : decode cL_teach 22 = .ok (.astore 5, 2) := by decide +kernel
theorem dL_teach_24 : decode cL_teach 24 = .ok (.iconst 1, 1) := by decide +kernel
theorem dL_teach_25 : decode cL_teach 25 = .ok (.ireturn, 1) := by decide +kernel
theorem dL_teach_26 : decode cL_teach 26 = .ok (.astore 5, 2) := by decide +kernel
theorem dL_teach_28 : decode cL_teach 28 = .ok (.iconst 2, 1) := by decide +kernel
theorem dL_teach_29 : decode cL_teach 29 = .ok (.ireturn, 1) := by decide +kernel
theorem dL_teach_30 : decode cL_teach 30 = .ok (.astore 5, 2) := by decide +kernel
theorem dL_teach_32 : decode cL_teach 32 = .ok (.iconst 3, 1) := by decide +kernel
theorem dL_teach_33 : decode cL_teach 33 = .ok (.ireturn, 1) := by decide +kernel
theorem dL_teach_34 : decode cL_teach 34 = .ok (.iconst 0, 1) := by decide +kernel
theorem dL_teach_35 : decode cL_teach 35 = .ok (.ireturn, 1) := by decide +kernel
set_option maxRecDepth 20000 in
theorem ggL_seed_X8_seed : GoodIn wsL_seed wsX8_seed := goodIn_ca (goodIn_r _ [6, 7, 8, 9, 10, 11, 12, 13, 14, 15, 16, 17, 18, 19, 20, 21, 22, 23, 24, 25, 26] (by decide +kernel) (by decide +kernel)) (goodIn_sub (fun _ h => List.mem_cons_of_mem _ (List.mem_append_right _ h)) (by decide +kernel))
set_option maxRecDepth 20000 in
theorem gL_seed_X8_seed : GoodIn wsL_seed (wsV RL 35 RX8 yX8_seed wsX8_seed) := goodIn_app (goodIn_of _ (by decide +kernel)) ggL_seed_X8_seed
theorem dL_seed_0 : decode cL_seed 0 = .ok (.aload_n 2, 1) := by decide +kernel
theorem dL_seed_1 : decode cL_seed 1 = .ok (.iconst 0, 1) := by decide +kernel
theorem dL_seed_2 : decode cL_seed 2 = .ok (.aload_n 0, 1) := by decide +kernel
theorem dL_seed_3 : decode cL_seed 3 = .ok (.iload_n 1, 1) := by decide +kernel
theorem dL_seed_4 : decode cL_seed 4 = .ok (.invokevirtual 35, 3) := by decide +kernel
theorem dL_seed_7 : decode cL_seed 7 = .ok (.i2l, 1) := by decide +kernel
theorem dL_seed_8 : decode cL_seed 8 = .ok (.lastore, 1) := by decide +kernel
theorem dL_seed_9 : decode cL_seed 9 = .ok (.goto 6, 3) := by decide +kernel
theorem dL_seed_12 : decode cL_seed 12 = .ok (.astore_n 3, 1) := by decide +kernel
theorem dL_seed_13 : decode cL_seed 13 = .ok (.iconst 1, 1) := by decide +kernel
theorem dL_seed_14 : decode cL_seed 14 = .ok (.ireturn, 1) := by decide +kernel
theorem dL_seed_15 : decode cL_seed 15 = .ok (.iconst 0, 1) := by decide +kernel
theorem dL_seed_16 : decode cL_seed 16 = .ok (.ireturn, 1) := by decide +kernel
set_option maxRecDepth 20000 in
theorem ggL_ask_X8_ask : GoodIn wsL_ask wsX8_ask := goodIn_ca (goodIn_ca (goodIn_ca (goodIn_r _ [8, 9, 10, 11, 12, 13, 14, 15, 16, 17, 18, 19, 20, 21, 22, 23, 24, 25, 26, 27, 28, 29, 30, 31, 32, 33, 34, 35, 36, 37, 38, 39, 40, 41, 42, 43, 44, 45, 46, 47, 48, 49, 7, 50, 51, 52, 53, 54, 55, 56, 57, 58, 59, 60, 61, 62, 63, 64, 65, 66, 67, 68, 69, 70, 71, 72, 73, 74, 75, 76, 77, 78, 79, 80, 81, 82, 83, 84, 85, 86, 87, 88, 89, 90, 91, 92, 93, 94, 95, 96, 97, 98, 99, 100, 101, 102, 103, 104, 105, 106, 107, 108, 109, 110, 111, 112, 113, 114, 115, 116, 117, 118, 119, 120, 121, 122, 123] (by decide +kernel) (by decide +kernel)) (goodIn_sub (fun _ h => List.mem_cons_of_mem _ (List.mem_append_left _ (List.mem_append_left _ (List.mem_append_right _ h)))) (by decide +kernel))) (goodIn_sub (fun _ h => List.mem_cons_of_mem _ (List.mem_append_left _ (List.mem_append_right _ h))) (by decide +kernel))) (goodIn_sub (fun _ h => List.mem_cons_of_mem _ (List.mem_append_right _ h)) (by decide +kernel))
set_option maxRecDepth 20000 in
theorem gL_ask_X8_ask : GoodIn wsL_ask (wsV RL 38 RX8 yX8_ask wsX8_ask) := goodIn_app (goodIn_of _ (by decide +kernel)) ggL_ask_X8_ask
theorem dL_ask_0 : decode cL_ask 0 = .ok (.aload_n 2, 1) := by decide +kernel
theorem dL_ask_1 : decode cL_ask 1 = .ok (.iconst 0, 1) := by decide +kernel
theorem dL_ask_2 : decode cL_ask 2 = .ok (.aload_n 0, 1) := by decide +kernel
theorem dL_ask_3 : decode cL_ask 3 = .ok (.iload_n 1, 1) := by decide +kernel
theorem dL_ask_4 : decode cL_ask 4 = .ok (.invokevirtual 38, 3) := by decide +kernel
theorem dL_ask_7 : decode cL_ask 7 = .ok (.ifCond .eq 7, 3) := by decide +kernel
theorem dL_ask_10 : decode cL_ask 10 = .ok (.lconst 1, 1) := by decide +kernel
theorem dL_ask_11 : decode cL_ask 11 = .ok (.goto 4, 3) := by decide +kernel
theorem dL_ask_14 : decode cL_ask 14 = .ok (.lconst 0, 1) := by decide +kernel
theorem dL_ask_15 : decode cL_ask 15 = .ok (.lastore, 1) := by decide +kernel
theorem dL_ask_16 : decode cL_ask 16 = .ok (.goto 12, 3) := by decide +kernel
theorem dL_ask_19 : decode cL_ask 19 = .ok (.astore_n 3, 1) := by decide +kernel
theorem dL_ask_20 : decode cL_ask 20 = .ok (.iconst 1, 1) := by decide +kernel
theorem dL_ask_21 : decode cL_ask 21 = .ok (.ireturn, 1) := by decide +kernel
theorem dL_ask_22 : decode cL_ask 22 = .ok (.astore_n 3, 1) := by decide +kernel
theorem dL_ask_23 : decode cL_ask 23 = .ok (.iconst 2, 1) := by decide +kernel
theorem dL_ask_24 : decode cL_ask 24 = .ok (.ireturn, 1) := by decide +kernel
theorem dL_ask_25 : decode cL_ask 25 = .ok (.astore_n 3, 1) := by decide +kernel
theorem dL_ask_26 : decode cL_ask 26 = .ok (.iconst 3, 1) := by decide +kernel
theorem dL_ask_27 : decode cL_ask 27 = .ok (.ireturn, 1) := by decide +kernel
theorem dL_ask_28 : decode cL_ask 28 = .ok (.iconst 0, 1) := by decide +kernel
theorem dL_ask_29 : decode cL_ask 29 = .ok (.ireturn, 1) := by decide +kernel
set_option maxRecDepth 20000 in
theorem ggL_equal_X8_equal : GoodIn wsL_equal wsX8_equal := goodIn_ca (goodIn_ca (goodIn_ca (goodIn_r _ [8, 9, 10, 11, 12, 13, 14, 15, 16, 17, 18, 19, 20, 21, 22, 23, 24, 25, 26, 27, 28, 29, 30, 31, 32, 33, 34, 35, 36, 37, 38, 39, 40, 41, 42, 43, 44, 45, 46, 47, 48, 49, 50, 51, 52, 53, 54, 7, 55, 56, 57, 58, 59, 60, 61, 62, 63, 64, 65, 66, 67, 68, 69, 70, 71, 72, 73, 74, 75, 76, 77, 78, 79, 80, 81, 82, 83, 84, 85, 86, 87, 88, 89, 90, 91, 92, 93, 94, 95, 96, 97, 98, 99, 100, 101, 102, 103, 104, 105, 106, 107, 108, 109, 110, 111, 112, 113, 114, 115, 116, 117, 118, 119, 120, 121, 122, 123, 124, 125, 126] (by decide +kernel) (by decide +kernel)) (goodIn_sub (fun _ h => List.mem_cons_of_mem _ (List.mem_append_left _ (List.mem_append_left _ (List.mem_append_right _ h)))) (by decide +kernel))) (goodIn_sub (fun _ h => List.mem_cons_of_mem _ (List.mem_append_left _ (List.mem_append_right _ h))) (by decide +kernel))) (goodIn_sub (fun _ h => List.mem_cons_of_mem _ (List.mem_append_right _ h)) (by decide +kernel))
set_option maxRecDepth 20000 in
theorem gL_equal_X8_equal : GoodIn wsL_equal (wsV RL 42 RX8 yX8_equal wsX8_equal) := goodIn_app (goodIn_of _ (by decide +kernel)) ggL_equal_X8_equal
theorem dL_equal_0 : decode cL_equal 0 = .ok (.aload_n 2, 1) := by decide +kernel
theorem dL_equal_1 : decode cL_equal 1 = .ok (.iconst 0, 1) := by decide +kernel
theorem dL_equal_2 : decode cL_equal 2 = .ok (.aload_n 0, 1) := by decide +kernel
theorem dL_equal_3 : decode cL_equal 3 = .ok (.iload_n 1, 1) := by decide +kernel
theorem dL_equal_4 : decode cL_equal 4 = .ok (.invokevirtual 42, 3) := by decide +kernel
theorem dL_equal_7 : decode cL_equal 7 = .ok (.i2l, 1) := by decide +kernel
theorem dL_equal_8 : decode cL_equal 8 = .ok (.lastore, 1) := by decide +kernel
theorem dL_equal_9 : decode cL_equal 9 = .ok (.goto 12, 3) := by decide +kernel
theorem dL_equal_12 : decode cL_equal 12 = .ok (.astore_n 3, 1) := by decide +kernel
theorem dL_equal_13 : decode cL_equal 13 = .ok (.iconst 1, 1) := by decide +kernel
theorem dL_equal_14 : decode cL_equal 14 = .ok (.ireturn, 1) := by decide +kernel
theorem dL_equal_15 : decode cL_equal 15 = .ok (.astore_n 3, 1) := by decide +kernel
theorem dL_equal_16 : decode cL_equal 16 = .ok (.iconst 2, 1) := by decide +kernel
theorem dL_equal_17 : decode cL_equal 17 = .ok (.ireturn, 1) := by decide +kernel
theorem dL_equal_18 : decode cL_equal 18 = .ok (.astore_n 3, 1) := by decide +kernel
theorem dL_equal_19 : decode cL_equal 19 = .ok (.iconst 3, 1) := by decide +kernel
theorem dL_equal_20 : decode cL_equal 20 = .ok (.ireturn, 1) := by decide +kernel
theorem dL_equal_21 : decode cL_equal 21 = .ok (.iconst 0, 1) := by decide +kernel
theorem dL_equal_22 : decode cL_equal 22 = .ok (.ireturn, 1) := by decide +kernel
set_option maxRecDepth 20000 in
theorem ggL_conflicts_X8_conflicts : GoodIn wsL_conflicts wsX8_conflicts := goodIn_ca (goodIn_r _ [6, 7, 8, 9, 10, 11, 12, 13, 14, 15, 16, 17, 18, 19, 20, 21, 22, 23, 5, 24, 25, 26, 27, 28, 29, 30, 31, 32, 33, 34, 35, 36, 37, 38, 39, 40, 41, 42, 43, 44] (by decide +kernel) (by decide +kernel)) (goodIn_sub (fun _ h => List.mem_cons_of_mem _ (List.mem_append_right _ h)) (by decide +kernel))
set_option maxRecDepth 20000 in
theorem gL_conflicts_X8_conflicts : GoodIn wsL_conflicts (wsV RL 45 RX8 yX8_conflicts wsX8_conflicts) := goodIn_app (goodIn_of _ (by decide +kernel)) ggL_conflicts_X8_conflicts
theorem dL_conflicts_0 : decode cL_conflicts 0 = .ok (.aload_n 2, 1) := by decide +kernel
theorem dL_conflicts_1 : decode cL_conflicts 1 = .ok (.iconst 0, 1) := by decide +kernel
theorem dL_conflicts_2 : decode cL_conflicts 2 = .ok (.aload_n 0, 1) := by decide +kernel
theorem dL_conflicts_3 : decode cL_conflicts 3 = .ok (.iload_n 1, 1) := by decide +kernel
theorem dL_conflicts_4 : decode cL_conflicts 4 = .ok (.invokevirtual 45, 3) := by decide +kernel
theorem dL_conflicts_7 : decode cL_conflicts 7 = .ok (.i2l, 1) := by decide +kernel
theorem dL_conflicts_8 : decode cL_conflicts 8 = .ok (.lastore, 1) := by decide +kernel
theorem dL_conflicts_9 : decode cL_conflicts 9 = .ok (.goto 6, 3) := by decide +kernel
theorem dL_conflicts_12 : decode cL_conflicts 12 = .ok (.astore_n 3, 1) := by decide +kernel
theorem dL_conflicts_13 : decode cL_conflicts 13 = .ok (.iconst 1, 1) := by decide +kernel
theorem dL_conflicts_14 : decode cL_conflicts 14 = .ok (.ireturn, 1) := by decide +kernel
theorem dL_conflicts_15 : decode cL_conflicts 15 = .ok (.iconst 0, 1) := by decide +kernel
theorem dL_conflicts_16 : decode cL_conflicts 16 = .ok (.ireturn, 1) := by decide +kernel
set_option maxRecDepth 20000 in
theorem ggL_isAlive_X8_isAlive : GoodIn wsL_isAlive wsX8_isAlive := goodIn_ca (goodIn_r _ [6, 7, 8, 9, 10, 11, 12, 13, 14, 15, 16, 17, 18, 19, 20, 21, 22, 23, 24, 25, 26, 27, 28, 5, 29, 30, 31, 32, 33, 34, 35, 36, 37, 38, 39, 40, 41, 42, 43, 44, 45, 46, 47, 48, 49] (by decide +kernel) (by decide +kernel)) (goodIn_sub (fun _ h => List.mem_cons_of_mem _ (List.mem_append_right _ h)) (by decide +kernel))
set_option maxRecDepth 20000 in
theorem gL_isAlive_X8_isAlive : GoodIn wsL_isAlive (wsV RL 48 RX8 yX8_isAlive wsX8_isAlive) := goodIn_app (goodIn_of _ (by decide +kernel)) ggL_isAlive_X8_isAlive
theorem dL_isAlive_0 : decode cL_isAlive 0 = .ok (.aload_n 2, 1) := by decide +kernel
theorem dL_isAlive_1 : decode cL_isAlive 1 = .ok (.iconst 0, 1) := by decide +kernel
theorem dL_isAlive_2 : decode cL_isAlive 2 = .ok (.aload_n 0, 1) := by decide +kernel
theorem dL_isAlive_3 : decode cL_isAlive 3 = .ok (.iload_n 1, 1) := by decide +kernel
theorem dL_isAlive_4 : decode cL_isAlive 4 = .ok (.invokevirtual 48, 3) := by decide +kernel
theorem dL_isAlive_7 : decode cL_isAlive 7 = .ok (.ifCond .eq 7, 3) := by decide +kernel
theorem dL_isAlive_10 : decode cL_isAlive 10 = .ok (.lconst 1, 1) := by decide +kernel
theorem dL_isAlive_11 : decode cL_isAlive 11 = .ok (.goto 4, 3) := by decide +kernel
theorem dL_isAlive_14 : decode cL_isAlive 14 = .ok (.lconst 0, 1) := by decide +kernel
theorem dL_isAlive_15 : decode cL_isAlive 15 = .ok (.lastore, 1) := by decide +kernel
theorem dL_isAlive_16 : decode cL_isAlive 16 = .ok (.goto 6, 3) := by decide +kernel
theorem dL_isAlive_19 : decode cL_isAlive 19 = .ok (.astore_n 3, 1) := by decide +kernel
theorem dL_isAlive_20 : decode cL_isAlive 20 = .ok (.iconst 1, 1) := by decide +kernel
theorem dL_isAlive_21 : decode cL_isAlive 21 = .ok (.ireturn, 1) := by decide +kernel
theorem dL_isAlive_22 : decode cL_isAlive 22 = .ok (.iconst 0, 1) := by decide +kernel
theorem dL_isAlive_23 : decode cL_isAlive 23 = .ok (.ireturn, 1) := by decide +kernel
set_option maxRecDepth 20000 in
theorem ggL_sure_X8_sure : GoodIn wsL_sure wsX8_sure := goodIn_ca (goodIn_r _ [6, 7, 8, 9, 10, 11, 12, 13, 14, 15, 16, 17, 18, 19, 20, 21, 22, 23, 24, 25, 26, 27, 28, 29, 30, 31, 32, 33, 5, 34, 35, 36, 37, 38, 39, 40, 41, 42, 43, 44, 45, 46, 47, 48, 49, 50, 51, 52, 53, 54, 55, 56, 57, 58, 59, 60, 61, 62, 63] (by decide +kernel) (by decide +kernel)) (goodIn_sub (fun _ h => List.mem_cons_of_mem _ (List.mem_append_right _ h)) (by decide +kernel))
set_option maxRecDepth 20000 in
theorem gL_sure_X8_sure : GoodIn wsL_sure (wsV RL 51 RX8 yX8_sure wsX8_sure) := goodIn_app (goodIn_of _ (by decide +kernel)) ggL_sure_X8_sure
theorem dL_sure_0 : decode cL_sure 0 = .ok (.aload_n 2, 1) := by decide +kernel
theorem dL_sure_1 : decode cL_sure 1 = .ok (.iconst 0, 1) := by decide +kernel
theorem dL_sure_2 : decode cL_sure 2 = .ok (.aload_n 0, 1) := by decide +kernel
theorem dL_sure_3 : decode cL_sure 3 = .ok (.iload_n 1, 1) := by decide +kernel
theorem dL_sure_4 : decode cL_sure 4 = .ok (.invokevirtual 51, 3) := by decide +kernel
theorem dL_sure_7 : decode cL_sure 7 = .ok (.i2l, 1) := by decide +kernel
theorem dL_sure_8 : decode cL_sure 8 = .ok (.lastore, 1) := by decide +kernel
theorem dL_sure_9 : decode cL_sure 9 = .ok (.goto 6, 3) := by decide +kernel
theorem dL_sure_12 : decode cL_sure 12 = .ok (.astore_n 3, 1) := by decide +kernel
theorem dL_sure_13 : decode cL_sure 13 = .ok (.iconst 1, 1) := by decide +kernel
theorem dL_sure_14 : decode cL_sure 14 = .ok (.ireturn, 1) := by decide +kernel
theorem dL_sure_15 : decode cL_sure 15 = .ok (.iconst 0, 1) := by decide +kernel
theorem dL_sure_16 : decode cL_sure 16 = .ok (.ireturn, 1) := by decide +kernel
set_option maxRecDepth 20000 in
theorem ggL_best_X8_best : GoodIn wsL_best wsX8_best := goodIn_ca (goodIn_r _ [6, 7, 8, 9, 10, 11, 12, 13, 14, 15, 16, 17, 18, 19, 20, 21, 22, 23, 24, 25, 26, 27, 5, 28, 29, 30, 31, 32, 33, 34, 35, 36, 37, 38, 39, 40, 41, 42, 43, 44, 45, 46, 47, 48, 49, 50, 51, 52, 53, 54, 55, 56, 57, 58, 59, 60, 61, 62, 63, 64, 65, 66, 67, 68, 69, 70, 71, 72, 73, 74, 75, 76, 77, 78, 79, 80] (by decide +kernel) (by decide +kernel)) (goodIn_sub (fun _ h => List.mem_cons_of_mem _ (List.mem_append_right _ h)) (by decide +kernel))
set_option maxRecDepth 20000 in
theorem gL_best_X8_best : GoodIn wsL_best (wsV RL 55 RX8 yX8_best wsX8_best) := goodIn_app (goodIn_of _ (by decide +kernel)) ggL_best_X8_best
theorem dL_best_0 : decode cL_best 0 = .ok (.aload_n 1, 1) := by decide +kernel
theorem dL_best_1 : decode cL_best 1 = .ok (.iconst 0, 1) := by decide +kernel
theorem dL_best_2 : decode cL_best 2 = .ok (.aload_n 0, 1) := by decide +kernel
theorem dL_best_3 : decode cL_best 3 = .ok (.invokevirtual 55, 3) := by decide +kernel
theorem dL_best_6 : decode cL_best 6 = .ok (.i2l, 1) := by decide +kernel
theorem dL_best_7 : decode cL_best 7 = .ok (.lastore, 1) := by decide +kernel
theorem dL_best_8 : decode cL_best 8 = .ok (.goto 6, 3) := by decide +kernel
theorem dL_best_11 : decode cL_best 11 = .ok (.astore_n 2, 1) := by decide +kernel
theorem dL_best_12 : decode cL_best 12 = .ok (.iconst 1, 1) := by decide +kernel
theorem dL_best_13 : decode cL_best 13 = .ok (.ireturn, 1) := by decide +kernel
theorem dL_best_14 : decode cL_best 14 = .ok (.iconst 0, 1) := by decide +kernel
theorem dL_best_15 : decode cL_best 15 = .ok (.ireturn, 1) := by decide +kernel
set_option maxRecDepth 20000 in
theorem ggL_learn_X8_learn : GoodIn wsL_learn wsX8_learn := goodIn_ca (goodIn_r _ [6, 7, 8, 9, 10, 11, 12, 13, 14, 15, 16, 17, 18, 19, 20, 21, 22, 23, 24, 25, 26, 27, 28, 29, 30, 31, 32, 33, 34, 35, 36, 5, 37, 38, 39, 40, 41, 42, 43, 44, 45, 46, 47, 48, 49, 50, 51, 52, 53, 54, 55, 56, 57, 58, 59, 60, 61, 62, 63, 64, 65, 66, 67, 68, 69, 70, 71, 72, 73, 74, 75, 76, 77, 78, 79, 80, 81, 82, 83, 84, 85, 86, 87, 88, 89, 90, 91, 92, 93, 94, 95, 96, 97, 98, 99, 100, 101, 102, 103, 104, 105, 106, 107, 108, 109, 110, 111, 112, 113, 114, 115, 116, 117, 118, 119, 120, 121, 122, 123, 124, 125] (by decide +kernel) (by decide +kernel)) (goodIn_sub (fun _ h => List.mem_cons_of_mem _ (List.mem_append_right _ h)) (by decide +kernel))
set_option maxRecDepth 20000 in
theorem gL_learn_X8_learn : GoodIn wsL_learn (wsV RL 61 RX8 yX8_learn wsX8_learn) := goodIn_app (goodIn_of _ (by decide +kernel)) ggL_learn_X8_learn
theorem dL_learn_0 : decode cL_learn 0 = .ok (.aload_n 1, 1) := by decide +kernel
theorem dL_learn_1 : decode cL_learn 1 = .ok (.iconst 0, 1) := by decide +kernel
theorem dL_learn_2 : decode cL_learn 2 = .ok (.aload_n 0, 1) := by decide +kernel
theorem dL_learn_3 : decode cL_learn 3 = .ok (.invokevirtual 61, 3) := by decide +kernel
theorem dL_learn_6 : decode cL_learn 6 = .ok (.i2l, 1) := by decide +kernel
theorem dL_learn_7 : decode cL_learn 7 = .ok (.lastore, 1) := by decide +kernel
theorem dL_learn_8 : decode cL_learn 8 = .ok (.goto 6, 3) := by decide +kernel
theorem dL_learn_11 : decode cL_learn 11 = .ok (.astore_n 2, 1) := by decide +kernel
theorem dL_learn_12 : decode cL_learn 12 = .ok (.iconst 1, 1) := by decide +kernel
theorem dL_learn_13 : decode cL_learn 13 = .ok (.ireturn, 1) := by decide +kernel
theorem dL_learn_14 : decode cL_learn 14 = .ok (.iconst 0, 1) := by decide +kernel
theorem dL_learn_15 : decode cL_learn 15 = .ok (.ireturn, 1) := by decide +kernel
set_option maxRecDepth 20000 in
theorem ggL_found_X8_found : GoodIn wsL_found wsX8_found := goodIn_ca (goodIn_r _ [6, 7, 8, 9, 10, 11, 12, 13, 14, 15, 16, 17, 18, 19, 20, 21, 22, 23, 24, 25, 26, 5, 27, 28, 29, 30, 31, 32, 33, 34, 35, 36, 37, 38, 39, 40, 41, 42, 43, 44, 45, 46, 47, 48, 49, 50, 51, 52, 53, 54, 55, 56, 57, 58, 59, 60] (by decide +kernel) (by decide +kernel)) (goodIn_sub (fun _ h => List.mem_cons_of_mem _ (List.mem_append_right _ h)) (by decide +kernel))
set_option maxRecDepth 20000 in
theorem gL_found_X8_found : GoodIn wsL_found (wsV RL 64 RX8 yX8_found wsX8_found) := goodIn_app (goodIn_of _ (by decide +kernel)) ggL_found_X8_found
theorem dL_found_0 : decode cL_found 0 = .ok (.aload_n 1, 1) := by decide +kernel
theorem dL_found_1 : decode cL_found 1 = .ok (.iconst 0, 1) := by decide +kernel
theorem dL_found_2 : decode cL_found 2 = .ok (.aload_n 0, 1) := by decide +kernel
theorem dL_found_3 : decode cL_found 3 = .ok (.invokevirtual 64, 3) := by decide +kernel
theorem dL_found_6 : decode cL_found 6 = .ok (.i2l, 1) := by decide +kernel
theorem dL_found_7 : decode cL_found 7 = .ok (.lastore, 1) := by decide +kernel
theorem dL_found_8 : decode cL_found 8 = .ok (.goto 6, 3) := by decide +kernel
theorem dL_found_11 : decode cL_found 11 = .ok (.astore_n 2, 1) := by decide +kernel
theorem dL_found_12 : decode cL_found 12 = .ok (.iconst 1, 1) := by decide +kernel
theorem dL_found_13 : decode cL_found 13 = .ok (.ireturn, 1) := by decide +kernel
theorem dL_found_14 : decode cL_found 14 = .ok (.iconst 0, 1) := by decide +kernel
theorem dL_found_15 : decode cL_found 15 = .ok (.ireturn, 1) := by decide +kernel
set_option maxRecDepth 20000 in
theorem ggL_isShattered_X8_isShattered : GoodIn wsL_isShattered wsX8_isShattered := goodIn_ca (goodIn_r _ [6, 7, 8, 9, 10, 11, 12, 13, 14, 15, 16, 17, 18, 19, 20, 21, 22, 23, 24, 25, 26, 5, 27, 28, 29, 30, 31, 32, 33, 34, 35, 36, 37, 38, 39, 40, 41, 42, 43, 44, 45, 46, 47, 48, 49, 50, 51, 52, 53] (by decide +kernel) (by decide +kernel)) (goodIn_sub (fun _ h => List.mem_cons_of_mem _ (List.mem_append_right _ h)) (by decide +kernel))
set_option maxRecDepth 20000 in
theorem gL_isShattered_X8_isShattered : GoodIn wsL_isShattered (wsV RL 67 RX8 yX8_isShattered wsX8_isShattered) := goodIn_app (goodIn_of _ (by decide +kernel)) ggL_isShattered_X8_isShattered
theorem dL_isShattered_0 : decode cL_isShattered 0 = .ok (.aload_n 2, 1) := by decide +kernel
theorem dL_isShattered_1 : decode cL_isShattered 1 = .ok (.iconst 0, 1) := by decide +kernel
theorem dL_isShattered_2 : decode cL_isShattered 2 = .ok (.aload_n 0, 1) := by decide +kernel
theorem dL_isShattered_3 : decode cL_isShattered 3 = .ok (.iload_n 1, 1) := by decide +kernel
theorem dL_isShattered_4 : decode cL_isShattered 4 = .ok (.invokevirtual 67, 3) := by decide +kernel
theorem dL_isShattered_7 : decode cL_isShattered 7 = .ok (.ifCond .eq 7, 3) := by decide +kernel
theorem dL_isShattered_10 : decode cL_isShattered 10 = .ok (.lconst 1, 1) := by decide +kernel
theorem dL_isShattered_11 : decode cL_isShattered 11 = .ok (.goto 4, 3) := by decide +kernel
theorem dL_isShattered_14 : decode cL_isShattered 14 = .ok (.lconst 0, 1) := by decide +kernel
theorem dL_isShattered_15 : decode cL_isShattered 15 = .ok (.lastore, 1) := by decide +kernel
theorem dL_isShattered_16 : decode cL_isShattered 16 = .ok (.goto 6, 3) := by decide +kernel
theorem dL_isShattered_19 : decode cL_isShattered 19 = .ok (.astore_n 3, 1) := by decide +kernel
theorem dL_isShattered_20 : decode cL_isShattered 20 = .ok (.iconst 1, 1) := by decide +kernel
theorem dL_isShattered_21 : decode cL_isShattered 21 = .ok (.ireturn, 1) := by decide +kernel
theorem dL_isShattered_22 : decode cL_isShattered 22 = .ok (.iconst 0, 1) := by decide +kernel
theorem dL_isShattered_23 : decode cL_isShattered 23 = .ok (.ireturn, 1) := by decide +kernel
set_option maxRecDepth 20000 in
theorem ggL_lesson_X8_lesson : GoodIn wsL_lesson wsX8_lesson := goodIn_ca (goodIn_r _ [6, 7, 8, 9, 10, 11, 12, 13, 14, 15, 16, 17, 18, 19, 20, 21, 22, 23, 24, 25, 26, 27, 28, 29, 30, 31, 32, 33, 34, 35, 36, 37, 5, 38, 39, 40, 41, 42, 43, 44, 45, 46, 47, 48, 49, 50] (by decide +kernel) (by decide +kernel)) (goodIn_sub (fun _ h => List.mem_cons_of_mem _ (List.mem_append_right _ h)) (by decide +kernel))
set_option maxRecDepth 20000 in
theorem gL_lesson_X8_lesson : GoodIn wsL_lesson (wsV RL 70 RX8 yX8_lesson wsX8_lesson) := goodIn_app (goodIn_of _ (by decide +kernel)) ggL_lesson_X8_lesson
theorem dL_lesson_0 : decode cL_lesson 0 = .ok (.aload_n 2, 1) := by decide +kernel
theorem dL_lesson_1 : decode cL_lesson 1 = .ok (.iconst 0, 1) := by decide +kernel
theorem dL_lesson_2 : decode cL_lesson 2 = .ok (.aload_n 0, 1) := by decide +kernel
theorem dL_lesson_3 : decode cL_lesson 3 = .ok (.iload_n 1, 1) := by decide +kernel
theorem dL_lesson_4 : decode cL_lesson 4 = .ok (.invokevirtual 70, 3) := by decide +kernel
theorem dL_lesson_7 : decode cL_lesson 7 = .ok (.i2l, 1) := by decide +kernel
theorem dL_lesson_8 : decode cL_lesson 8 = .ok (.lastore, 1) := by decide +kernel
theorem dL_lesson_9 : decode cL_lesson 9 = .ok (.goto 6, 3) := by decide +kernel
theorem dL_lesson_12 : decode cL_lesson 12 = .ok (.astore_n 3, 1) := by decide +kernel
theorem dL_lesson_13 : decode cL_lesson 13 = .ok (.iconst 1, 1) := by decide +kernel
theorem dL_lesson_14 : decode cL_lesson 14 = .ok (.ireturn, 1) := by decide +kernel
theorem dL_lesson_15 : decode cL_lesson 15 = .ok (.iconst 0, 1) := by decide +kernel
theorem dL_lesson_16 : decode cL_lesson 16 = .ok (.ireturn, 1) := by decide +kernel
set_option maxRecDepth 20000 in
theorem ggL_halver_X8_halver : GoodIn wsL_halver wsX8_halver := goodIn_ca (goodIn_r _ [6, 7, 8, 9, 10, 11, 12, 13, 14, 15, 16, 17, 18, 19, 20, 21, 22, 23, 24, 25, 26, 5, 27, 28, 29, 30, 31, 32, 33, 34, 35, 36, 37, 38, 39, 40, 41, 42, 43, 44, 45, 46, 47, 48, 49, 50, 51, 52, 53, 54, 55, 56, 57, 58, 59, 60, 61, 62, 63, 64, 65, 66, 67, 68, 69] (by decide +kernel) (by decide +kernel)) (goodIn_sub (fun _ h => List.mem_cons_of_mem _ (List.mem_append_right _ h)) (by decide +kernel))
set_option maxRecDepth 20000 in
theorem gL_halver_X8_halver : GoodIn wsL_halver (wsV RL 73 RX8 yX8_halver wsX8_halver) := goodIn_app (goodIn_of _ (by decide +kernel)) ggL_halver_X8_halver
theorem dL_halver_0 : decode cL_halver 0 = .ok (.aload_n 2, 1) := by decide +kernel
theorem dL_halver_1 : decode cL_halver 1 = .ok (.iconst 0, 1) := by decide +kernel
theorem dL_halver_2 : decode cL_halver 2 = .ok (.aload_n 0, 1) := by decide +kernel
theorem dL_halver_3 : decode cL_halver 3 = .ok (.iload_n 1, 1) := by decide +kernel
theorem dL_halver_4 : decode cL_halver 4 = .ok (.invokevirtual 73, 3) := by decide +kernel
theorem dL_halver_7 : decode cL_halver 7 = .ok (.i2l, 1) := by decide +kernel
theorem dL_halver_8 : decode cL_halver 8 = .ok (.lastore, 1) := by decide +kernel
theorem dL_halver_9 : decode cL_halver 9 = .ok (.goto 6, 3) := by decide +kernel
theorem dL_halver_12 : decode cL_halver 12 = .ok (.astore_n 3, 1) := by decide +kernel
theorem dL_halver_13 : decode cL_halver 13 = .ok (.iconst 1, 1) := by decide +kernel
theorem dL_halver_14 : decode cL_halver 14 = .ok (.ireturn, 1) := by decide +kernel
theorem dL_halver_15 : decode cL_halver 15 = .ok (.iconst 0, 1) := by decide +kernel
theorem dL_halver_16 : decode cL_halver 16 = .ok (.ireturn, 1) := by decide +kernel
set_option maxRecDepth 20000 in
theorem ggL_experts_X8_experts : GoodIn wsL_experts wsX8_experts := goodIn_ca (goodIn_r _ [6, 7, 8, 9, 10, 11, 12, 13, 14, 15, 16, 17, 18, 19, 5, 20, 21, 22, 23, 24, 25, 26, 27, 28, 29, 30, 31, 32] (by decide +kernel) (by decide +kernel)) (goodIn_sub (fun _ h => List.mem_cons_of_mem _ (List.mem_append_right _ h)) (by decide +kernel))
set_option maxRecDepth 20000 in
theorem gL_experts_X8_experts : GoodIn wsL_experts (wsV RL 76 RX8 yX8_experts wsX8_experts) := goodIn_app (goodIn_of _ (by decide +kernel)) ggL_experts_X8_experts
theorem dL_experts_0 : decode cL_experts 0 = .ok (.aload_n 2, 1) := by decide +kernel
theorem dL_experts_1 : decode cL_experts 1 = .ok (.iconst 0, 1) := by decide +kernel
theorem dL_experts_2 : decode cL_experts 2 = .ok (.aload_n 0, 1) := by decide +kernel
theorem dL_experts_3 : decode cL_experts 3 = .ok (.iload_n 1, 1) := by decide +kernel
theorem dL_experts_4 : decode cL_experts 4 = .ok (.invokevirtual 76, 3) := by decide +kernel
theorem dL_experts_7 : decode cL_experts 7 = .ok (.i2l, 1) := by decide +kernel
theorem dL_experts_8 : decode cL_experts 8 = .ok (.lastore, 1) := by decide +kernel
theorem dL_experts_9 : decode cL_experts 9 = .ok (.goto 6, 3) := by decide +kernel
theorem dL_experts_12 : decode cL_experts 12 = .ok (.astore_n 3, 1) := by decide +kernel
theorem dL_experts_13 : decode cL_experts 13 = .ok (.iconst 1, 1) := by decide +kernel
theorem dL_experts_14 : decode cL_experts 14 = .ok (.ireturn, 1) := by decide +kernel
theorem dL_experts_15 : decode cL_experts 15 = .ok (.iconst 0, 1) := by decide +kernel
theorem dL_experts_16 : decode cL_experts 16 = .ok (.ireturn, 1) := by decide +kernel
set_option maxRecDepth 20000 in
theorem ggL_round_X8_round : GoodIn wsL_round wsX8_round := goodIn_ca (goodIn_ca (goodIn_r _ [7, 8, 9, 10, 11, 12, 13, 14, 15, 16, 17, 18, 19, 20, 21, 22, 23, 24, 25, 26, 27, 28, 29, 30, 6, 31, 32, 33, 34, 35, 36, 37, 38, 39, 40, 41, 42, 43, 44, 45, 46, 47, 48, 49, 50, 51] (by decide +kernel) (by decide +kernel)) (goodIn_sub (fun _ h => List.mem_cons_of_mem _ (List.mem_append_left _ (List.mem_append_right _ h))) (by decide +kernel))) (goodIn_sub (fun _ h => List.mem_cons_of_mem _ (List.mem_append_right _ h)) (by decide +kernel))
set_option maxRecDepth 20000 in
theorem gL_round_X8_round : GoodIn wsL_round (wsV RL 79 RX8 yX8_round wsX8_round) := goodIn_app (goodIn_of _ (by decide +kernel)) ggL_round_X8_round
theorem dL_round_0 : decode cL_round 0 = .ok (.aload_n 3, 1) := by decide +kernel
theorem dL_round_1 : decode cL_round 1 = .ok (.iconst 0, 1) := by decide +kernel
theorem dL_round_2 : decode cL_round 2 = .ok (.aload_n 0, 1) := by decide +kernel
theorem dL_round_3 : decode cL_round 3 = .ok (.iload_n 1, 1) := by decide +kernel
theorem dL_round_4 : decode cL_round 4 = .ok (.iload_n 2, 1) := by decide +kernel
theorem dL_round_5 : decode cL_round 5 = .ok (.invokevirtual 79, 3) := by decide +kernel
theorem dL_round_8 : decode cL_round 8 = .ok (.ifCond .eq 7, 3) := by decide +kernel
theorem dL_round_11 : decode cL_round 11 = .ok (.lconst 1, 1) := by decide +kernel
theorem dL_round_12 : decode cL_round 12 = .ok (.goto 4, 3) := by decide +kernel
theorem dL_round_15 : decode cL_round 15 = .ok (.lconst 0, 1) := by decide +kernel
theorem dL_round_16 : decode cL_round 16 = .ok (.lastore, 1) := by decide +kernel
theorem dL_round_17 : decode cL_round 17 = .ok (.goto 11, 3) := by decide +kernel
theorem dL_round_20 : decode cL_round 20 = .ok (.astore 4, 2) := by decide +kernel
theorem dL_round_22 : decode cL_round 22 = .ok (.iconst 1, 1) := by decide +kernel
theorem dL_round_23 : decode cL_round 23 = .ok (.ireturn, 1) := by decide +kernel
theorem dL_round_24 : decode cL_round 24 = .ok (.astore 4, 2) := by decide +kernel
theorem dL_round_26 : decode cL_round 26 = .ok (.iconst 2, 1) := by decide +kernel
theorem dL_round_27 : decode cL_round 27 = .ok (.ireturn, 1) := by decide +kernel
theorem dL_round_28 : decode cL_round 28 = .ok (.iconst 0, 1) := by decide +kernel
theorem dL_round_29 : decode cL_round 29 = .ok (.ireturn, 1) := by decide +kernel
set_option maxRecDepth 20000 in
theorem ggL_weight_X8_weight : GoodIn wsL_weight wsX8_weight := goodIn_ca (goodIn_r _ [6, 7, 8, 9, 10, 11, 12, 13, 14, 15, 16, 5, 17, 18, 19, 20, 21, 22, 23, 24, 25, 26, 27, 28, 29] (by decide +kernel) (by decide +kernel)) (goodIn_sub (fun _ h => List.mem_cons_of_mem _ (List.mem_append_right _ h)) (by decide +kernel))
set_option maxRecDepth 20000 in
theorem gL_weight_X8_weight : GoodIn wsL_weight (wsV RL 83 RX8 yX8_weight wsX8_weight) := goodIn_app (goodIn_of _ (by decide +kernel)) ggL_weight_X8_weight
theorem dL_weight_0 : decode cL_weight 0 = .ok (.aload_n 2, 1) := by decide +kernel
theorem dL_weight_1 : decode cL_weight 1 = .ok (.iconst 0, 1) := by decide +kernel
theorem dL_weight_2 : decode cL_weight 2 = .ok (.aload_n 0, 1) := by decide +kernel
theorem dL_weight_3 : decode cL_weight 3 = .ok (.iload_n 1, 1) := by decide +kernel
theorem dL_weight_4 : decode cL_weight 4 = .ok (.invokevirtual 83, 3) := by decide +kernel
theorem dL_weight_7 : decode cL_weight 7 = .ok (.i2l, 1) := by decide +kernel
theorem dL_weight_8 : decode cL_weight 8 = .ok (.lastore, 1) := by decide +kernel
theorem dL_weight_9 : decode cL_weight 9 = .ok (.goto 6, 3) := by decide +kernel
theorem dL_weight_12 : decode cL_weight 12 = .ok (.astore_n 3, 1) := by decide +kernel
theorem dL_weight_13 : decode cL_weight 13 = .ok (.iconst 1, 1) := by decide +kernel
theorem dL_weight_14 : decode cL_weight 14 = .ok (.ireturn, 1) := by decide +kernel
theorem dL_weight_15 : decode cL_weight 15 = .ok (.iconst 0, 1) := by decide +kernel
theorem dL_weight_16 : decode cL_weight 16 = .ok (.ireturn, 1) := by decide +kernel
set_option maxRecDepth 20000 in
theorem ggL_regret_X8_regret : GoodIn wsL_regret wsX8_regret := goodIn_ca (goodIn_r _ [6, 7, 8, 9, 10, 11, 12, 13, 14, 15, 16, 17, 18, 19, 20, 21, 5, 22, 23, 24, 25, 26, 27, 28, 29, 30, 31, 32, 33, 34] (by decide +kernel) (by decide +kernel)) (goodIn_sub (fun _ h => List.mem_cons_of_mem _ (List.mem_append_right _ h)) (by decide +kernel))
set_option maxRecDepth 20000 in
theorem gL_regret_X8_regret : GoodIn wsL_regret (wsV RL 86 RX8 yX8_regret wsX8_regret) := goodIn_app (goodIn_of _ (by decide +kernel)) ggL_regret_X8_regret
theorem dL_regret_0 : decode cL_regret 0 = .ok (.aload_n 1, 1) := by decide +kernel
theorem dL_regret_1 : decode cL_regret 1 = .ok (.iconst 0, 1) := by decide +kernel
theorem dL_regret_2 : decode cL_regret 2 = .ok (.aload_n 0, 1) := by decide +kernel
theorem dL_regret_3 : decode cL_regret 3 = .ok (.invokevirtual 86, 3) := by decide +kernel
theorem dL_regret_6 : decode cL_regret 6 = .ok (.i2l, 1) := by decide +kernel
theorem dL_regret_7 : decode cL_regret 7 = .ok (.lastore, 1) := by decide +kernel
theorem dL_regret_8 : decode cL_regret 8 = .ok (.goto 6, 3) := by decide +kernel
theorem dL_regret_11 : decode cL_regret 11 = .ok (.astore_n 2, 1) := by decide +kernel
theorem dL_regret_12 : decode cL_regret 12 = .ok (.iconst 1, 1) := by decide +kernel
theorem dL_regret_13 : decode cL_regret 13 = .ok (.ireturn, 1) := by decide +kernel
theorem dL_regret_14 : decode cL_regret 14 = .ok (.iconst 0, 1) := by decide +kernel
theorem dL_regret_15 : decode cL_regret 15 = .ok (.ireturn, 1) := by decide +kernel
set_option maxRecDepth 20000 in
theorem ggL_state_X8_state : GoodIn wsL_state wsX8_state := goodIn_ca (goodIn_r _ [6, 7, 8, 9, 10, 11, 12, 13, 14, 15, 16, 17, 18, 5, 19, 20, 21, 22, 23, 24, 25, 26, 27, 28, 29, 30] (by decide +kernel) (by decide +kernel)) (goodIn_sub (fun _ h => List.mem_cons_of_mem _ (List.mem_append_right _ h)) (by decide +kernel))
set_option maxRecDepth 20000 in
theorem gL_state_X8_state : GoodIn wsL_state (wsV RL 89 RX8 yX8_state wsX8_state) := goodIn_app (goodIn_of _ (by decide +kernel)) ggL_state_X8_state
theorem dL_state_0 : decode cL_state 0 = .ok (.aload_n 2, 1) := by decide +kernel
theorem dL_state_1 : decode cL_state 1 = .ok (.iconst 0, 1) := by decide +kernel
theorem dL_state_2 : decode cL_state 2 = .ok (.aload_n 0, 1) := by decide +kernel
theorem dL_state_3 : decode cL_state 3 = .ok (.iload_n 1, 1) := by decide +kernel
theorem dL_state_4 : decode cL_state 4 = .ok (.invokevirtual 89, 3) := by decide +kernel
theorem dL_state_7 : decode cL_state 7 = .ok (.i2l, 1) := by decide +kernel
theorem dL_state_8 : decode cL_state 8 = .ok (.lastore, 1) := by decide +kernel
theorem dL_state_9 : decode cL_state 9 = .ok (.goto 6, 3) := by decide +kernel
theorem dL_state_12 : decode cL_state 12 = .ok (.astore_n 3, 1) := by decide +kernel
theorem dL_state_13 : decode cL_state 13 = .ok (.iconst 1, 1) := by decide +kernel
theorem dL_state_14 : decode cL_state 14 = .ok (.ireturn, 1) := by decide +kernel
theorem dL_state_15 : decode cL_state 15 = .ok (.iconst 0, 1) := by decide +kernel
theorem dL_state_16 : decode cL_state 16 = .ok (.ireturn, 1) := by decide +kernel
set_option maxRecDepth 20000 in
theorem ggL_go_X8_go : GoodIn wsL_go wsX8_go := goodIn_ca (goodIn_ca (goodIn_r _ [7, 8, 9, 10, 11, 12, 13, 14, 15, 16, 17, 18, 19, 20, 21, 22, 23, 24, 6, 25, 26, 27, 28, 29, 30, 31, 32, 33, 34, 35, 36, 37, 38] (by decide +kernel) (by decide +kernel)) (goodIn_sub (fun _ h => List.mem_cons_of_mem _ (List.mem_append_left _ (List.mem_append_right _ h))) (by decide +kernel))) (goodIn_sub (fun _ h => List.mem_cons_of_mem _ (List.mem_append_right _ h)) (by decide +kernel))
set_option maxRecDepth 20000 in
theorem gL_go_X8_go : GoodIn wsL_go (wsV RL 93 RX8 yX8_go wsX8_go) := goodIn_app (goodIn_of _ (by decide +kernel)) ggL_go_X8_go
theorem dL_go_0 : decode cL_go 0 = .ok (.aload 4, 2) := by decide +kernel
theorem dL_go_2 : decode cL_go 2 = .ok (.iconst 0, 1) := by decide +kernel
theorem dL_go_3 : decode cL_go 3 = .ok (.aload_n 0, 1) := by decide +kernel
theorem dL_go_4 : decode cL_go 4 = .ok (.iload_n 1, 1) := by decide +kernel
theorem dL_go_5 : decode cL_go 5 = .ok (.iload_n 2, 1) := by decide +kernel
theorem dL_go_6 : decode cL_go 6 = .ok (.iload_n 3, 1) := by decide +kernel
theorem dL_go_7 : decode cL_go 7 = .ok (.invokevirtual 93, 3) := by decide +kernel
theorem dL_go_10 : decode cL_go 10 = .ok (.i2l, 1) := by decide +kernel
theorem dL_go_11 : decode cL_go 11 = .ok (.lastore, 1) := by decide +kernel
theorem dL_go_12 : decode cL_go 12 = .ok (.goto 11, 3) := by decide +kernel
theorem dL_go_15 : decode cL_go 15 = .ok (.astore 5, 2) := by decide +kernel
theorem dL_go_17 : decode cL_go 17 = .ok (.iconst 1, 1) := by decide +kernel
theorem dL_go_18 : decode cL_go 18 = .ok (.ireturn, 1) := by decide +kernel
theorem dL_go_19 : decode cL_go 19 = .ok (.astore 5, 2) := by decide +kernel
theorem dL_go_21 : decode cL_go 21 = .ok (.iconst 2, 1) := by decide +kernel
theorem dL_go_22 : decode cL_go 22 = .ok (.ireturn, 1) := by decide +kernel
theorem dL_go_23 : decode cL_go 23 = .ok (.iconst 0, 1) := by decide +kernel
theorem dL_go_24 : decode cL_go 24 = .ok (.ireturn, 1) := by decide +kernel
set_option maxRecDepth 20000 in
theorem ggL_accepts_X8_accepts : GoodIn wsL_accepts wsX8_accepts := goodIn_ca (goodIn_ca (goodIn_r _ [7, 8, 9, 10, 11, 12, 13, 14, 6, 15, 16, 17, 18, 19, 20, 21, 22, 23, 24, 25, 26, 27, 28, 29, 30, 31, 32, 33, 34, 35, 36, 37, 38, 39, 40] (by decide +kernel) (by decide +kernel)) (goodIn_sub (fun _ h => List.mem_cons_of_mem _ (List.mem_append_left _ (List.mem_append_right _ h))) (by decide +kernel))) (goodIn_sub (fun _ h => List.mem_cons_of_mem _ (List.mem_append_right _ h)) (by decide +kernel))
set_option maxRecDepth 20000 in
theorem gL_accepts_X8_accepts : GoodIn wsL_accepts (wsV RL 97 RX8 yX8_accepts wsX8_accepts) := goodIn_app (goodIn_of _ (by decide +kernel)) ggL_accepts_X8_accepts
theorem dL_accepts_0 : decode cL_accepts 0 = .ok (.aload_n 3, 1) := by decide +kernel
theorem dL_accepts_1 : decode cL_accepts 1 = .ok (.iconst 0, 1) := by decide +kernel
theorem dL_accepts_2 : decode cL_accepts 2 = .ok (.aload_n 0, 1) := by decide +kernel
theorem dL_accepts_3 : decode cL_accepts 3 = .ok (.iload_n 1, 1) := by decide +kernel
theorem dL_accepts_4 : decode cL_accepts 4 = .ok (.iload_n 2, 1) := by decide +kernel
theorem dL_accepts_5 : decode cL_accepts 5 = .ok (.invokevirtual 97, 3) := by decide +kernel
theorem dL_accepts_8 : decode cL_accepts 8 = .ok (.ifCond .eq 7, 3) := by decide +kernel
theorem dL_accepts_11 : decode cL_accepts 11 = .ok (.lconst 1, 1) := by decide +kernel
theorem dL_accepts_12 : decode cL_accepts 12 = .ok (.goto 4, 3) := by decide +kernel
theorem dL_accepts_15 : decode cL_accepts 15 = .ok (.lconst 0, 1) := by decide +kernel
theorem dL_accepts_16 : decode cL_accepts 16 = .ok (.lastore, 1) := by decide +kernel
theorem dL_accepts_17 : decode cL_accepts 17 = .ok (.goto 11, 3) := by decide +kernel
theorem dL_accepts_20 : decode cL_accepts 20 = .ok (.astore 4, 2) := by decide +kernel
theorem dL_accepts_22 : decode cL_accepts 22 = .ok (.iconst 1, 1) := by decide +kernel
theorem dL_accepts_23 : decode cL_accepts 23 = .ok (.ireturn, 1) := by decide +kernel
theorem dL_accepts_24 : decode cL_accepts 24 = .ok (.astore 4, 2) := by decide +kernel
theorem dL_accepts_26 : decode cL_accepts 26 = .ok (.iconst 2, 1) := by decide +kernel
theorem dL_accepts_27 : decode cL_accepts 27 = .ok (.ireturn, 1) := by decide +kernel
theorem dL_accepts_28 : decode cL_accepts 28 = .ok (.iconst 0, 1) := by decide +kernel
theorem dL_accepts_29 : decode cL_accepts 29 = .ok (.ireturn, 1) := by decide +kernel
set_option maxRecDepth 20000 in
theorem ggL_apart_X8_apart : GoodIn wsL_apart wsX8_apart := goodIn_ca (goodIn_ca (goodIn_r _ [7, 8, 9, 10, 11, 12, 13, 14, 15, 16, 17, 18, 19, 20, 21, 22, 23, 24, 25, 26, 27, 28, 29, 30, 31, 32, 6, 33, 34, 35, 36, 37, 38, 39, 40, 41, 42, 43, 44, 45, 46] (by decide +kernel) (by decide +kernel)) (goodIn_sub (fun _ h => List.mem_cons_of_mem _ (List.mem_append_left _ (List.mem_append_right _ h))) (by decide +kernel))) (goodIn_sub (fun _ h => List.mem_cons_of_mem _ (List.mem_append_right _ h)) (by decide +kernel))
set_option maxRecDepth 20000 in
theorem gL_apart_X8_apart : GoodIn wsL_apart (wsV RL 101 RX8 yX8_apart wsX8_apart) := goodIn_app (goodIn_of _ (by decide +kernel)) ggL_apart_X8_apart
theorem dL_apart_0 : decode cL_apart 0 = .ok (.aload_n 3, 1) := by decide +kernel
theorem dL_apart_1 : decode cL_apart 1 = .ok (.iconst 0, 1) := by decide +kernel
theorem dL_apart_2 : decode cL_apart 2 = .ok (.aload_n 0, 1) := by decide +kernel
theorem dL_apart_3 : decode cL_apart 3 = .ok (.iload_n 1, 1) := by decide +kernel
theorem dL_apart_4 : decode cL_apart 4 = .ok (.iload_n 2, 1) := by decide +kernel
theorem dL_apart_5 : decode cL_apart 5 = .ok (.invokevirtual 101, 3) := by decide +kernel
theorem dL_apart_8 : decode cL_apart 8 = .ok (.i2l, 1) := by decide +kernel
theorem dL_apart_9 : decode cL_apart 9 = .ok (.lastore, 1) := by decide +kernel
theorem dL_apart_10 : decode cL_apart 10 = .ok (.goto 11, 3) := by decide +kernel
theorem dL_apart_13 : decode cL_apart 13 = .ok (.astore 4, 2) := by decide +kernel
theorem dL_apart_15 : decode cL_apart 15 = .ok (.iconst 1, 1) := by decide +kernel
theorem dL_apart_16 : decode cL_apart 16 = .ok (.ireturn, 1) := by decide +kernel
theorem dL_apart_17 : decode cL_apart 17 = .ok (.astore 4, 2) := by decide +kernel
theorem dL_apart_19 : decode cL_apart 19 = .ok (.iconst 2, 1) := by decide +kernel
theorem dL_apart_20 : decode cL_apart 20 = .ok (.ireturn, 1) := by decide +kernel
theorem dL_apart_21 : decode cL_apart 21 = .ok (.iconst 0, 1) := by decide +kernel
theorem dL_apart_22 : decode cL_apart 22 = .ok (.ireturn, 1) := by decide +kernel
set_option maxRecDepth 20000 in
theorem ggL_leastStates_X8_leastStates : GoodIn wsL_leastStates wsX8_leastStates := goodIn_ca (goodIn_r _ [6, 7, 8, 9, 10, 11, 12, 13, 14, 15, 16, 17, 18, 19, 20, 21, 5, 22, 23, 24, 25, 26, 27, 28, 29, 30, 31, 32, 33, 34, 35, 36, 37, 38, 39, 40, 41, 42, 43, 44, 45, 46, 47, 48, 49, 50, 51] (by decide +kernel) (by decide +kernel)) (goodIn_sub (fun _ h => List.mem_cons_of_mem _ (List.mem_append_right _ h)) (by decide +kernel))
set_option maxRecDepth 20000 in
theorem gL_leastStates_X8_leastStates : GoodIn wsL_leastStates (wsV RL 105 RX8 yX8_leastStates wsX8_leastStates) := goodIn_app (goodIn_of _ (by decide +kernel)) ggL_leastStates_X8_leastStates
theorem dL_leastStates_0 : decode cL_leastStates 0 = .ok (.aload_n 1, 1) := by decide +kernel
theorem dL_leastStates_1 : decode cL_leastStates 1 = .ok (.iconst 0, 1) := by decide +kernel
theorem dL_leastStates_2 : decode cL_leastStates 2 = .ok (.aload_n 0, 1) := by decide +kernel
theorem dL_leastStates_3 : decode cL_leastStates 3 = .ok (.invokevirtual 105, 3) := by decide +kernel
theorem dL_leastStates_6 : decode cL_leastStates 6 = .ok (.i2l, 1) := by decide +kernel
theorem dL_leastStates_7 : decode cL_leastStates 7 = .ok (.lastore, 1) := by decide +kernel
theorem dL_leastStates_8 : decode cL_leastStates 8 = .ok (.goto 6, 3) := by decide +kernel
theorem dL_leastStates_11 : decode cL_leastStates 11 = .ok (.astore_n 2, 1) := by decide +kernel
theorem dL_leastStates_12 : decode cL_leastStates 12 = .ok (.iconst 1, 1) := by decide +kernel
theorem dL_leastStates_13 : decode cL_leastStates 13 = .ok (.ireturn, 1) := by decide +kernel
theorem dL_leastStates_14 : decode cL_leastStates 14 = .ok (.iconst 0, 1) := by decide +kernel
theorem dL_leastStates_15 : decode cL_leastStates 15 = .ok (.ireturn, 1) := by decide +kernel
set_option maxRecDepth 20000 in
theorem ggL_sample_X8_sample : GoodIn wsL_sample wsX8_sample := goodIn_ca (goodIn_ca (goodIn_ca (goodIn_r _ [8, 9, 10, 11, 12, 13, 14, 15, 16, 17, 7, 18, 19, 20, 21, 22, 23, 24, 25, 26, 27, 28, 29, 30, 31, 32, 33, 34, 35, 36, 37, 38, 39, 40, 41, 42, 43, 44, 45, 46, 47, 48, 49] (by decide +kernel) (by decide +kernel)) (goodIn_sub (fun _ h => List.mem_cons_of_mem _ (List.mem_append_left _ (List.mem_append_left _ (List.mem_append_right _ h)))) (by decide +kernel))) (goodIn_sub (fun _ h => List.mem_cons_of_mem _ (List.mem_append_left _ (List.mem_append_right _ h))) (by decide +kernel))) (goodIn_sub (fun _ h => List.mem_cons_of_mem _ (List.mem_append_right _ h)) (by decide +kernel))
set_option maxRecDepth 20000 in
theorem gL_sample_X8_sample : GoodIn wsL_sample (wsV RL 108 RX8 yX8_sample wsX8_sample) := goodIn_app (goodIn_of _ (by decide +kernel)) ggL_sample_X8_sample
theorem dL_sample_0 : decode cL_sample 0 = .ok (.aload 4, 2) := by decide +kernel
theorem dL_sample_2 : decode cL_sample 2 = .ok (.iconst 0, 1) := by decide +kernel
theorem dL_sample_3 : decode cL_sample 3 = .ok (.aload_n 0, 1) := by decide +kernel
theorem dL_sample_4 : decode cL_sample 4 = .ok (.iload_n 1, 1) := by decide +kernel
theorem dL_sample_5 : decode cL_sample 5 = .ok (.iload_n 2, 1) := by decide +kernel
theorem dL_sample_6 : decode cL_sample 6 = .ok (.iload_n 3, 1) := by decide +kernel
theorem dL_sample_7 : decode cL_sample 7 = .ok (.invokevirtual 108, 3) := by decide +kernel
theorem dL_sample_10 : decode cL_sample 10 = .ok (.i2l, 1) := by decide +kernel
theorem dL_sample_11 : decode cL_sample 11 = .ok (.lastore, 1) := by decide +kernel
theorem dL_sample_12 : decode cL_sample 12 = .ok (.goto 15, 3) := by decide +kernel
theorem dL_sample_15 : decode cL_sample 15 = .ok (.astore 5, 2) := by decide +kernel
theorem dL_sample_17 : decode cL_sample 17 = .ok (.iconst 1, 1) := by decide +kernel
theorem dL_sample_18 : decode cL_sample 18 = .ok (.ireturn, 1) := by decide +kernel
theorem dL_sample_19 : decode cL_sample 19 = .ok (.astore 5, 2) := by decide +kernel
theorem dL_sample_21 : decode cL_sample 21 = .ok (.iconst 2, 1) := by decide +kernel
theorem dL_sample_22 : decode cL_sample 22 = .ok (.ireturn, 1) := by decide +kernel
theorem dL_sample_23 : decode cL_sample 23 = .ok (.astore 5, 2) := by decide +kernel
theorem dL_sample_25 : decode cL_sample 25 = .ok (.iconst 3, 1) := by decide +kernel
theorem dL_sample_26 : decode cL_sample 26 = .ok (.ireturn, 1) := by decide +kernel
theorem dL_sample_27 : decode cL_sample 27 = .ok (.iconst 0, 1) := by decide +kernel
theorem dL_sample_28 : decode cL_sample 28 = .ok (.ireturn, 1) := by decide +kernel
set_option maxRecDepth 20000 in
theorem ggL_fits_X8_fits : GoodIn wsL_fits wsX8_fits := goodIn_ca (goodIn_r _ [6, 7, 8, 9, 10, 11, 12, 13, 14, 15, 16, 17, 18, 19, 20, 5, 21, 22, 23, 24, 25, 26, 27, 28, 29, 30, 31, 32, 33, 34, 35, 36, 37, 38, 39, 40, 41, 42, 43, 44, 45, 46, 47, 48, 49, 50] (by decide +kernel) (by decide +kernel)) (goodIn_sub (fun _ h => List.mem_cons_of_mem _ (List.mem_append_right _ h)) (by decide +kernel))
set_option maxRecDepth 20000 in
theorem gL_fits_X8_fits : GoodIn wsL_fits (wsV RL 112 RX8 yX8_fits wsX8_fits) := goodIn_app (goodIn_of _ (by decide +kernel)) ggL_fits_X8_fits
theorem dL_fits_0 : decode cL_fits 0 = .ok (.aload_n 1, 1) := by decide +kernel
theorem dL_fits_1 : decode cL_fits 1 = .ok (.iconst 0, 1) := by decide +kernel
theorem dL_fits_2 : decode cL_fits 2 = .ok (.aload_n 0, 1) := by decide +kernel
theorem dL_fits_3 : decode cL_fits 3 = .ok (.invokevirtual 112, 3) := by decide +kernel
theorem dL_fits_6 : decode cL_fits 6 = .ok (.ifCond .eq 7, 3) := by decide +kernel
theorem dL_fits_9 : decode cL_fits 9 = .ok (.lconst 1, 1) := by decide +kernel
theorem dL_fits_10 : decode cL_fits 10 = .ok (.goto 4, 3) := by decide +kernel
theorem dL_fits_13 : decode cL_fits 13 = .ok (.lconst 0, 1) := by decide +kernel
theorem dL_fits_14 : decode cL_fits 14 = .ok (.lastore, 1) := by decide +kernel
theorem dL_fits_15 : decode cL_fits 15 = .ok (.goto 6, 3) := by decide +kernel
theorem dL_fits_18 : decode cL_fits 18 = .ok (.astore_n 2, 1) := by decide +kernel
theorem dL_fits_19 : decode cL_fits 19 = .ok (.iconst 1, 1) := by decide +kernel
theorem dL_fits_20 : decode cL_fits 20 = .ok (.ireturn, 1) := by decide +kernel
theorem dL_fits_21 : decode cL_fits 21 = .ok (.iconst 0, 1) := by decide +kernel
theorem dL_fits_22 : decode cL_fits 22 = .ok (.ireturn, 1) := by decide +kernel
set_option maxRecDepth 20000 in
theorem ggL_fewest_X8_fewest : GoodIn wsL_fewest wsX8_fewest := goodIn_ca (goodIn_r _ [6, 7, 8, 9, 10, 11, 12, 13, 14, 15, 16, 17, 18, 19, 20, 21, 22, 23, 24, 25, 5, 26, 27, 28, 29, 30, 31, 32, 33, 34, 35, 36, 37, 38, 39, 40, 41, 42, 43, 44, 45, 46, 47, 48, 49, 50, 51, 52] (by decide +kernel) (by decide +kernel)) (goodIn_sub (fun _ h => List.mem_cons_of_mem _ (List.mem_append_right _ h)) (by decide +kernel))
set_option maxRecDepth 20000 in
theorem gL_fewest_X8_fewest : GoodIn wsL_fewest (wsV RL 116 RX8 yX8_fewest wsX8_fewest) := goodIn_app (goodIn_of _ (by decide +kernel)) ggL_fewest_X8_fewest
theorem dL_fewest_0 : decode cL_fewest 0 = .ok (.aload_n 1, 1) := by decide +kernel
theorem dL_fewest_1 : decode cL_fewest 1 = .ok (.iconst 0, 1) := by decide +kernel
theorem dL_fewest_2 : decode cL_fewest 2 = .ok (.aload_n 0, 1) := by decide +kernel
theorem dL_fewest_3 : decode cL_fewest 3 = .ok (.invokevirtual 116, 3) := by decide +kernel
theorem dL_fewest_6 : decode cL_fewest 6 = .ok (.i2l, 1) := by decide +kernel
theorem dL_fewest_7 : decode cL_fewest 7 = .ok (.lastore, 1) := by decide +kernel
theorem dL_fewest_8 : decode cL_fewest 8 = .ok (.goto 6, 3) := by decide +kernel
theorem dL_fewest_11 : decode cL_fewest 11 = .ok (.astore_n 2, 1) := by decide +kernel
theorem dL_fewest_12 : decode cL_fewest 12 = .ok (.iconst 1, 1) := by decide +kernel
theorem dL_fewest_13 : decode cL_fewest 13 = .ok (.ireturn, 1) := by decide +kernel
theorem dL_fewest_14 : decode cL_fewest 14 = .ok (.iconst 0, 1) := by decide +kernel
theorem dL_fewest_15 : decode cL_fewest 15 = .ok (.ireturn, 1) := by decide +kernel
set_option maxRecDepth 20000 in
theorem ggL_secret_X8_secret : GoodIn wsL_secret wsX8_secret := goodIn_ca (goodIn_r _ [6, 7, 8, 9, 10, 11, 12, 13, 14, 15, 16, 17, 18, 19, 20, 21, 22, 23, 24, 25, 26, 27, 28, 29, 30, 31, 32, 33, 34, 35] (by decide +kernel) (by decide +kernel)) (goodIn_sub (fun _ h => List.mem_cons_of_mem _ (List.mem_append_right _ h)) (by decide +kernel))
set_option maxRecDepth 20000 in
theorem gL_secret_X8_secret : GoodIn wsL_secret (wsV RL 119 RX8 yX8_secret wsX8_secret) := goodIn_app (goodIn_of _ (by decide +kernel)) ggL_secret_X8_secret
theorem dL_secret_0 : decode cL_secret 0 = .ok (.aload_n 2, 1) := by decide +kernel
theorem dL_secret_1 : decode cL_secret 1 = .ok (.iconst 0, 1) := by decide +kernel
theorem dL_secret_2 : decode cL_secret 2 = .ok (.aload_n 0, 1) := by decide +kernel
theorem dL_secret_3 : decode cL_secret 3 = .ok (.iload_n 1, 1) := by decide +kernel
theorem dL_secret_4 : decode cL_secret 4 = .ok (.invokevirtual 119, 3) := by decide +kernel
theorem dL_secret_7 : decode cL_secret 7 = .ok (.i2l, 1) := by decide +kernel
theorem dL_secret_8 : decode cL_secret 8 = .ok (.lastore, 1) := by decide +kernel
theorem dL_secret_9 : decode cL_secret 9 = .ok (.goto 6, 3) := by decide +kernel
theorem dL_secret_12 : decode cL_secret 12 = .ok (.astore_n 3, 1) := by decide +kernel
theorem dL_secret_13 : decode cL_secret 13 = .ok (.iconst 1, 1) := by decide +kernel
theorem dL_secret_14 : decode cL_secret 14 = .ok (.ireturn, 1) := by decide +kernel
theorem dL_secret_15 : decode cL_secret 15 = .ok (.iconst 0, 1) := by decide +kernel
theorem dL_secret_16 : decode cL_secret 16 = .ok (.ireturn, 1) := by decide +kernel
set_option maxRecDepth 20000 in
theorem ggL_guess_X8_guess : GoodIn wsL_guess wsX8_guess := goodIn_ca (goodIn_ca (goodIn_r _ [7, 8, 9, 10, 11, 12, 13, 14, 15, 16, 17, 18, 19, 20, 21, 22, 23, 24, 25, 26, 27, 28, 29, 30, 31, 32, 33, 34, 35, 36, 37, 38, 39, 40, 41, 42, 43, 44, 45, 46, 47, 48, 49, 50, 51] (by decide +kernel) (by decide +kernel)) (goodIn_sub (fun _ h => List.mem_cons_of_mem _ (List.mem_append_left _ (List.mem_append_right _ h))) (by decide +kernel))) (goodIn_sub (fun _ h => List.mem_cons_of_mem _ (List.mem_append_right _ h)) (by decide +kernel))
set_option maxRecDepth 20000 in
theorem gL_guess_X8_guess : GoodIn wsL_guess (wsV RL 122 RX8 yX8_guess wsX8_guess) := goodIn_app (goodIn_of _ (by decide +kernel)) ggL_guess_X8_guess
theorem dL_guess_0 : decode cL_guess 0 = .ok (.aload_n 2, 1) := by decide +kernel
theorem dL_guess_1 : decode cL_guess 1 = .ok (.iconst 0, 1) := by decide +kernel
theorem dL_guess_2 : decode cL_guess 2 = .ok (.aload_n 0, 1) := by decide +kernel
theorem dL_guess_3 : decode cL_guess 3 = .ok (.iload_n 1, 1) := by decide +kernel
theorem dL_guess_4 : decode cL_guess 4 = .ok (.invokevirtual 122, 3) := by decide +kernel
theorem dL_guess_7 : decode cL_guess 7 = .ok (.i2l, 1) := by decide +kernel
theorem dL_guess_8 : decode cL_guess 8 = .ok (.lastore, 1) := by decide +kernel
theorem dL_guess_9 : decode cL_guess 9 = .ok (.goto 9, 3) := by decide +kernel
theorem dL_guess_12 : decode cL_guess 12 = .ok (.astore_n 3, 1) := by decide +kernel
theorem dL_guess_13 : decode cL_guess 13 = .ok (.iconst 1, 1) := by decide +kernel
theorem dL_guess_14 : decode cL_guess 14 = .ok (.ireturn, 1) := by decide +kernel
theorem dL_guess_15 : decode cL_guess 15 = .ok (.astore_n 3, 1) := by decide +kernel
theorem dL_guess_16 : decode cL_guess 16 = .ok (.iconst 2, 1) := by decide +kernel
theorem dL_guess_17 : decode cL_guess 17 = .ok (.ireturn, 1) := by decide +kernel
theorem dL_guess_18 : decode cL_guess 18 = .ok (.iconst 0, 1) := by decide +kernel
theorem dL_guess_19 : decode cL_guess 19 = .ok (.ireturn, 1) := by decide +kernel
set_option maxRecDepth 20000 in
theorem ggL_things_X8_things : GoodIn wsL_things wsX8_things := goodIn_ca (goodIn_r _ [6, 7, 8, 9, 10, 11, 12, 13, 14, 15, 16, 17, 5, 18, 19, 20, 21, 22, 23, 24, 25, 26, 27, 28, 29] (by decide +kernel) (by decide +kernel)) (goodIn_sub (fun _ h => List.mem_cons_of_mem _ (List.mem_append_right _ h)) (by decide +kernel))
set_option maxRecDepth 20000 in
theorem gL_things_X8_things : GoodIn wsL_things (wsV RL 125 RX8 yX8_things wsX8_things) := goodIn_app (goodIn_of _ (by decide +kernel)) ggL_things_X8_things
theorem dL_things_0 : decode cL_things 0 = .ok (.aload_n 2, 1) := by decide +kernel
theorem dL_things_1 : decode cL_things 1 = .ok (.iconst 0, 1) := by decide +kernel
theorem dL_things_2 : decode cL_things 2 = .ok (.aload_n 0, 1) := by decide +kernel
theorem dL_things_3 : decode cL_things 3 = .ok (.iload_n 1, 1) := by decide +kernel
theorem dL_things_4 : decode cL_things 4 = .ok (.invokevirtual 125, 3) := by decide +kernel
theorem dL_things_7 : decode cL_things 7 = .ok (.i2l, 1) := by decide +kernel
theorem dL_things_8 : decode cL_things 8 = .ok (.lastore, 1) := by decide +kernel
theorem dL_things_9 : decode cL_things 9 = .ok (.goto 6, 3) := by decide +kernel
theorem dL_things_12 : decode cL_things 12 = .ok (.astore_n 3, 1) := by decide +kernel
theorem dL_things_13 : decode cL_things 13 = .ok (.iconst 1, 1) := by decide +kernel
theorem dL_things_14 : decode cL_things 14 = .ok (.ireturn, 1) := by decide +kernel
theorem dL_things_15 : decode cL_things 15 = .ok (.iconst 0, 1) := by decide +kernel
theorem dL_things_16 : decode cL_things 16 = .ok (.ireturn, 1) := by decide +kernel
set_option maxRecDepth 20000 in
theorem ggL_ahead_X8_ahead : GoodIn wsL_ahead wsX8_ahead := goodIn_ca (goodIn_ca (goodIn_r _ [7, 8, 9, 10, 11, 12, 13, 14, 15, 16, 17, 18, 19, 20, 21, 22, 23, 24, 6, 25, 26, 27, 28, 29, 30, 31, 32, 33, 34, 35, 36, 37, 38, 39, 40, 41, 42, 43, 44, 45, 46, 47, 48, 49, 50, 51, 52] (by decide +kernel) (by decide +kernel)) (goodIn_sub (fun _ h => List.mem_cons_of_mem _ (List.mem_append_left _ (List.mem_append_right _ h))) (by decide +kernel))) (goodIn_sub (fun _ h => List.mem_cons_of_mem _ (List.mem_append_right _ h)) (by decide +kernel))
set_option maxRecDepth 20000 in
theorem gL_ahead_X8_ahead : GoodIn wsL_ahead (wsV RL 128 RX8 yX8_ahead wsX8_ahead) := goodIn_app (goodIn_of _ (by decide +kernel)) ggL_ahead_X8_ahead
theorem dL_ahead_0 : decode cL_ahead 0 = .ok (.aload_n 3, 1) := by decide +kernel
theorem dL_ahead_1 : decode cL_ahead 1 = .ok (.iconst 0, 1) := by decide +kernel
theorem dL_ahead_2 : decode cL_ahead 2 = .ok (.aload_n 0, 1) := by decide +kernel
theorem dL_ahead_3 : decode cL_ahead 3 = .ok (.iload_n 1, 1) := by decide +kernel
theorem dL_ahead_4 : decode cL_ahead 4 = .ok (.iload_n 2, 1) := by decide +kernel
theorem dL_ahead_5 : decode cL_ahead 5 = .ok (.invokevirtual 128, 3) := by decide +kernel
theorem dL_ahead_8 : decode cL_ahead 8 = .ok (.i2l, 1) := by decide +kernel
theorem dL_ahead_9 : decode cL_ahead 9 = .ok (.lastore, 1) := by decide +kernel
theorem dL_ahead_10 : decode cL_ahead 10 = .ok (.goto 11, 3) := by decide +kernel
theorem dL_ahead_13 : decode cL_ahead 13 = .ok (.astore 4, 2) := by decide +kernel
theorem dL_ahead_15 : decode cL_ahead 15 = .ok (.iconst 1, 1) := by decide +kernel
theorem dL_ahead_16 : decode cL_ahead 16 = .ok (.ireturn, 1) := by decide +kernel
theorem dL_ahead_17 : decode cL_ahead 17 = .ok (.astore 4, 2) := by decide +kernel
theorem dL_ahead_19 : decode cL_ahead 19 = .ok (.iconst 2, 1) := by decide +kernel
theorem dL_ahead_20 : decode cL_ahead 20 = .ok (.ireturn, 1) := by decide +kernel
theorem dL_ahead_21 : decode cL_ahead 21 = .ok (.iconst 0, 1) := by decide +kernel
theorem dL_ahead_22 : decode cL_ahead 22 = .ok (.ireturn, 1) := by decide +kernel
set_option maxRecDepth 20000 in
theorem ggL_pair_X8_pair : GoodIn wsL_pair wsX8_pair := goodIn_ca (goodIn_r _ [6, 7, 8, 9, 10, 11, 12, 13, 14, 15, 16, 17, 5, 18, 19, 20, 21, 22, 23, 24, 25, 26, 27, 28, 29, 30, 31, 32, 33, 34, 35, 36, 37, 38, 39, 40, 41, 42, 43, 44, 45, 46, 47, 48, 49, 50, 51, 52, 53] (by decide +kernel) (by decide +kernel)) (goodIn_sub (fun _ h => List.mem_cons_of_mem _ (List.mem_append_right _ h)) (by decide +kernel))
set_option maxRecDepth 20000 in
theorem gL_pair_X8_pair : GoodIn wsL_pair (wsV RL 131 RX8 yX8_pair wsX8_pair) := goodIn_app (goodIn_of _ (by decide +kernel)) ggL_pair_X8_pair
theorem dL_pair_0 : decode cL_pair 0 = .ok (.aload_n 1, 1) := by decide +kernel
theorem dL_pair_1 : decode cL_pair 1 = .ok (.iconst 0, 1) := by decide +kernel
theorem dL_pair_2 : decode cL_pair 2 = .ok (.aload_n 0, 1) := by decide +kernel
theorem dL_pair_3 : decode cL_pair 3 = .ok (.invokevirtual 131, 3) := by decide +kernel
theorem dL_pair_6 : decode cL_pair 6 = .ok (.i2l, 1) := by decide +kernel
theorem dL_pair_7 : decode cL_pair 7 = .ok (.lastore, 1) := by decide +kernel
theorem dL_pair_8 : decode cL_pair 8 = .ok (.goto 6, 3) := by decide +kernel
theorem dL_pair_11 : decode cL_pair 11 = .ok (.astore_n 2, 1) := by decide +kernel
theorem dL_pair_12 : decode cL_pair 12 = .ok (.iconst 1, 1) := by decide +kernel
theorem dL_pair_13 : decode cL_pair 13 = .ok (.ireturn, 1) := by decide +kernel
theorem dL_pair_14 : decode cL_pair 14 = .ok (.iconst 0, 1) := by decide +kernel
theorem dL_pair_15 : decode cL_pair 15 = .ok (.ireturn, 1) := by decide +kernel
set_option maxRecDepth 20000 in
theorem ggL_aliveShare_X8_aliveShare : GoodIn wsL_aliveShare wsX8_aliveShare := goodIn_ca (goodIn_r _ [6, 7, 8, 9, 10, 11, 12, 13, 14, 15, 16, 17, 18, 19, 20, 21, 22, 23, 24, 25, 26, 27, 5, 28, 29, 30, 31, 32, 33, 34, 35, 36, 37, 38, 39, 40, 41, 42, 43, 44, 45, 46, 47, 48, 49, 50, 51, 52, 53, 54, 55] (by decide +kernel) (by decide +kernel)) (goodIn_sub (fun _ h => List.mem_cons_of_mem _ (List.mem_append_right _ h)) (by decide +kernel))
set_option maxRecDepth 20000 in
theorem gL_aliveShare_X8_aliveShare : GoodIn wsL_aliveShare (wsV RL 134 RX8 yX8_aliveShare wsX8_aliveShare) := goodIn_app (goodIn_of _ (by decide +kernel)) ggL_aliveShare_X8_aliveShare
theorem dL_aliveShare_0 : decode cL_aliveShare 0 = .ok (.aload_n 1, 1) := by decide +kernel
theorem dL_aliveShare_1 : decode cL_aliveShare 1 = .ok (.iconst 0, 1) := by decide +kernel
theorem dL_aliveShare_2 : decode cL_aliveShare 2 = .ok (.aload_n 0, 1) := by decide +kernel
theorem dL_aliveShare_3 : decode cL_aliveShare 3 = .ok (.invokevirtual 134, 3) := by decide +kernel
theorem dL_aliveShare_6 : decode cL_aliveShare 6 = .ok (.f2d, 1) := by decide +kernel
theorem dL_aliveShare_7 : decode cL_aliveShare 7 = .ok (.dastore, 1) := by decide +kernel
theorem dL_aliveShare_8 : decode cL_aliveShare 8 = .ok (.goto 6, 3) := by decide +kernel
theorem dL_aliveShare_11 : decode cL_aliveShare 11 = .ok (.astore_n 2, 1) := by decide +kernel
theorem dL_aliveShare_12 : decode cL_aliveShare 12 = .ok (.iconst 1, 1) := by decide +kernel
theorem dL_aliveShare_13 : decode cL_aliveShare 13 = .ok (.ireturn, 1) := by decide +kernel
theorem dL_aliveShare_14 : decode cL_aliveShare 14 = .ok (.iconst 0, 1) := by decide +kernel
theorem dL_aliveShare_15 : decode cL_aliveShare 15 = .ok (.ireturn, 1) := by decide +kernel
set_option maxRecDepth 20000 in
theorem ggL_meanLesson_X8_meanLesson : GoodIn wsL_meanLesson wsX8_meanLesson := goodIn_ca (goodIn_r _ [6, 7, 8, 9, 10, 11, 12, 13, 14, 15, 16, 17, 18, 19, 20, 21, 22, 23, 24, 25, 26, 27, 28, 29, 30, 31, 32, 33, 34, 35, 36, 37, 5, 38, 39, 40, 41, 42, 43, 44, 45, 46, 47, 48, 49, 50] (by decide +kernel) (by decide +kernel)) (goodIn_sub (fun _ h => List.mem_cons_of_mem _ (List.mem_append_right _ h)) (by decide +kernel))
set_option maxRecDepth 20000 in
theorem gL_meanLesson_X8_meanLesson : GoodIn wsL_meanLesson (wsV RL 138 RX8 yX8_meanLesson wsX8_meanLesson) := goodIn_app (goodIn_of _ (by decide +kernel)) ggL_meanLesson_X8_meanLesson
theorem dL_meanLesson_0 : decode cL_meanLesson 0 = .ok (.aload_n 1, 1) := by decide +kernel
theorem dL_meanLesson_1 : decode cL_meanLesson 1 = .ok (.iconst 0, 1) := by decide +kernel
theorem dL_meanLesson_2 : decode cL_meanLesson 2 = .ok (.aload_n 0, 1) := by decide +kernel
theorem dL_meanLesson_3 : decode cL_meanLesson 3 = .ok (.invokevirtual 138, 3) := by decide +kernel
theorem dL_meanLesson_6 : decode cL_meanLesson 6 = .ok (.dastore, 1) := by decide +kernel
theorem dL_meanLesson_7 : decode cL_meanLesson 7 = .ok (.goto 6, 3) := by decide +kernel
theorem dL_meanLesson_10 : decode cL_meanLesson 10 = .ok (.astore_n 2, 1) := by decide +kernel
theorem dL_meanLesson_11 : decode cL_meanLesson 11 = .ok (.iconst 1, 1) := by decide +kernel
theorem dL_meanLesson_12 : decode cL_meanLesson 12 = .ok (.ireturn, 1) := by decide +kernel
theorem dL_meanLesson_13 : decode cL_meanLesson 13 = .ok (.iconst 0, 1) := by decide +kernel
theorem dL_meanLesson_14 : decode cL_meanLesson 14 = .ok (.ireturn, 1) := by decide +kernel

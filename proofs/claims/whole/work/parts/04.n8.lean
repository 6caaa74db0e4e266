set_option maxRecDepth 20000 in
theorem ggX8_init_X5_init : GoodIn wsX8_init wsX5_init := goodIn_r _ [34, 35, 2, 3, 36, 37, 38, 39, 40, 41, 42, 43, 44, 45, 46, 47, 48, 49, 120, 121, 122, 123, 82, 83, 84, 85, 86, 87, 88, 89] (by decide +kernel) (by decide +kernel)
set_option maxRecDepth 20000 in
theorem gX8_init_X5_init_n9 : GoodIn wsX8_init (wsX5_init) := ggX8_init_X5_init
set_option maxRecDepth 20000 in
theorem ggX8_init_X6_init : GoodIn wsX8_init wsX6_init := goodIn_r _ [51, 52, 2, 3, 40, 53, 54, 98, 99, 100] (by decide +kernel) (by decide +kernel)
set_option maxRecDepth 20000 in
theorem gX8_init_X6_init_n23 : GoodIn wsX8_init (wsX6_init) := ggX8_init_X6_init
set_option maxRecDepth 20000 in
theorem ggX8_init_X2_init : GoodIn wsX8_init wsX2_init := goodIn_r _ [56, 57, 2, 3, 40, 58, 59, 101, 102, 103, 104] (by decide +kernel) (by decide +kernel)
set_option maxRecDepth 20000 in
theorem gX8_init_X2_init_n30 : GoodIn wsX8_init (wsX2_init) := ggX8_init_X2_init
set_option maxRecDepth 20000 in
theorem ggX8_init_X3_init : GoodIn wsX8_init wsX3_init := goodIn_r _ [61, 62, 2, 3, 40, 63, 105, 106, 107] (by decide +kernel) (by decide +kernel)
set_option maxRecDepth 20000 in
theorem gX8_init_X3_init_n37 : GoodIn wsX8_init (wsX3_init) := ggX8_init_X3_init
set_option maxRecDepth 20000 in
theorem ggX8_init_X7_init : GoodIn wsX8_init wsX7_init := goodIn_r _ [65, 66, 2, 3, 40, 67, 68, 69, 70, 108, 109, 110, 111, 112, 113] (by decide +kernel) (by decide +kernel)
set_option maxRecDepth 20000 in
theorem gX8_init_X7_init_n44 : GoodIn wsX8_init (wsX7_init) := ggX8_init_X7_init
set_option maxRecDepth 20000 in
theorem ggX8_init_X0_init : GoodIn wsX8_init wsX0_init := goodIn_r _ [72, 73, 2, 3, 74, 75, 114, 115, 116] (by decide +kernel) (by decide +kernel)
set_option maxRecDepth 20000 in
theorem gX8_init_X0_init_n51 : GoodIn wsX8_init (wsX0_init) := ggX8_init_X0_init
set_option maxRecDepth 20000 in
theorem ggX8_init_X4_init : GoodIn wsX8_init wsX4_init := goodIn_r _ [77, 78, 2, 3, 40, 79, 80, 81, 117, 118, 119] (by decide +kernel) (by decide +kernel)
set_option maxRecDepth 20000 in
theorem gX8_init_X4_init_n58 : GoodIn wsX8_init (wsX4_init) := ggX8_init_X4_init
theorem dX8_init_0 : decode cX8_init 0 = .ok (.aload_n 0, 1) := by decide +kernel
theorem dX8_init_1 : decode cX8_init 1 = .ok (.invokespecial 1, 3) := by decide +kernel
theorem dX8_init_4 : decode cX8_init 4 = .ok (.aload_n 0, 1) := by decide +kernel
theorem dX8_init_5 : decode cX8_init 5 = .ok (.new 7, 3) := by decide +kernel
theorem dX8_init_8 : decode cX8_init 8 = .ok (.dup, 1) := by decide +kernel
theorem dX8_init_9 : decode cX8_init 9 = .ok (.invokespecial 9, 3) := by decide +kernel
theorem dX8_init_12 : decode cX8_init 12 = .ok (.putfield 10, 3) := by decide +kernel
theorem dX8_init_15 : decode cX8_init 15 = .ok (.aload_n 0, 1) := by decide +kernel
theorem dX8_init_16 : decode cX8_init 16 = .ok (.aload_n 0, 1) := by decide +kernel
theorem dX8_init_17 : decode cX8_init 17 = .ok (.getfield 10, 3) := by decide +kernel
theorem dX8_init_20 : decode cX8_init 20 = .ok (.getfield 16, 3) := by decide +kernel
theorem dX8_init_23 : decode cX8_init 23 = .ok (.putfield 20, 3) := by decide +kernel
theorem dX8_init_26 : decode cX8_init 26 = .ok (.aload_n 0, 1) := by decide +kernel
theorem dX8_init_27 : decode cX8_init 27 = .ok (.new 21, 3) := by decide +kernel
theorem dX8_init_30 : decode cX8_init 30 = .ok (.dup, 1) := by decide +kernel
theorem dX8_init_31 : decode cX8_init 31 = .ok (.invokespecial 23, 3) := by decide +kernel
theorem dX8_init_34 : decode cX8_init 34 = .ok (.putfield 24, 3) := by decide +kernel
theorem dX8_init_37 : decode cX8_init 37 = .ok (.aload_n 0, 1) := by decide +kernel
theorem dX8_init_38 : decode cX8_init 38 = .ok (.new 28, 3) := by decide +kernel
theorem dX8_init_41 : decode cX8_init 41 = .ok (.dup, 1) := by decide +kernel
theorem dX8_init_42 : decode cX8_init 42 = .ok (.invokespecial 30, 3) := by decide +kernel
theorem dX8_init_45 : decode cX8_init 45 = .ok (.putfield 31, 3) := by decide +kernel
theorem dX8_init_48 : decode cX8_init 48 = .ok (.aload_n 0, 1) := by decide +kernel
theorem dX8_init_49 : decode cX8_init 49 = .ok (.new 35, 3) := by decide +kernel
theorem dX8_init_52 : decode cX8_init 52 = .ok (.dup, 1) := by decide +kernel
theorem dX8_init_53 : decode cX8_init 53 = .ok (.invokespecial 37, 3) := by decide +kernel
theorem dX8_init_56 : decode cX8_init 56 = .ok (.putfield 38, 3) := by decide +kernel
theorem dX8_init_59 : decode cX8_init 59 = .ok (.aload_n 0, 1) := by decide +kernel
theorem dX8_init_60 : decode cX8_init 60 = .ok (.new 42, 3) := by decide +kernel
theorem dX8_init_63 : decode cX8_init 63 = .ok (.dup, 1) := by decide +kernel
theorem dX8_init_64 : decode cX8_init 64 = .ok (.invokespecial 44, 3) := by decide +kernel
theorem dX8_init_67 : decode cX8_init 67 = .ok (.putfield 45, 3) := by decide +kernel
theorem dX8_init_70 : decode cX8_init 70 = .ok (.aload_n 0, 1) := by decide +kernel
theorem dX8_init_71 : decode cX8_init 71 = .ok (.new 49, 3) := by decide +kernel
theorem dX8_init_74 : decode cX8_init 74 = .ok (.dup, 1) := by decide +kernel
theorem dX8_init_75 : decode cX8_init 75 = .ok (.invokespecial 51, 3) := by decide +kernel
theorem dX8_init_78 : decode cX8_init 78 = .ok (.putfield 52, 3) := by decide +kernel
theorem dX8_init_81 : decode cX8_init 81 = .ok (.aload_n 0, 1) := by decide +kernel
theorem dX8_init_82 : decode cX8_init 82 = .ok (.new 56, 3) := by decide +kernel
theorem dX8_init_85 : decode cX8_init 85 = .ok (.dup, 1) := by decide +kernel
theorem dX8_init_86 : decode cX8_init 86 = .ok (.invokespecial 58, 3) := by decide +kernel
theorem dX8_init_89 : decode cX8_init 89 = .ok (.putfield 59, 3) := by decide +kernel
theorem dX8_init_92 : decode cX8_init 92 = .ok (.return_, 1) := by decide +kernel
set_option maxRecDepth 20000 in
theorem ggX8_points_X1_startAnew : GoodIn wsX8_points wsX1_startAnew := goodIn_r _ [9, 10, 11, 12, 13, 14, 15, 39, 40, 41, 42] (by decide +kernel) (by decide +kernel)
set_option maxRecDepth 20000 in
theorem gX8_points_X1_startAnew : GoodIn wsX8_points (wsV RX8 76 RX1 yX1_startAnew wsX1_startAnew) := goodIn_app (goodIn_of _ (by decide +kernel)) ggX8_points_X1_startAnew
set_option maxRecDepth 20000 in
theorem ggX8_points_X5_leave : GoodIn wsX8_points wsX5_leave := goodIn_r _ [20, 21, 22, 23, 19, 24, 25, 26, 27, 28, 29, 30, 13, 14, 15, 43, 44, 45, 46, 47, 48, 49, 50] (by decide +kernel) (by decide +kernel)
set_option maxRecDepth 20000 in
theorem gX8_points_X5_leave : GoodIn wsX8_points (wsV RX8 80 RX5 yX5_leave wsX5_leave) := goodIn_app (goodIn_of _ (by decide +kernel)) ggX8_points_X5_leave
theorem dX8_points_0 : decode cX8_points 0 = .ok (.iload_n 1, 1) := by decide +kernel
theorem dX8_points_1 : decode cX8_points 1 = .ok (.iconst 1, 1) := by decide +kernel
theorem dX8_points_2 : decode cX8_points 2 = .ok (.if_icmp .lt 9, 3) := by decide +kernel
theorem dX8_points_5 : decode cX8_points 5 = .ok (.iload_n 1, 1) := by decide +kernel
theorem dX8_points_6 : decode cX8_points 6 = .ok (.bipush 6, 2) := by decide +kernel
theorem dX8_points_8 : decode cX8_points 8 = .ok (.if_icmp .le 13, 3) := by decide +kernel
theorem dX8_points_11 : decode cX8_points 11 = .ok (.new 63, 3) := by decide +kernel
theorem dX8_points_14 : decode cX8_points 14 = .ok (.dup, 1) := by decide +kernel
theorem dX8_points_15 : decode cX8_points 15 = .ok (.ldc 65, 2) := by decide +kernel
theorem dX8_points_17 : decode cX8_points 17 = .ok (.invokespecial 67, 3) := by decide +kernel
theorem dX8_points_20 : decode cX8_points 20 = .ok (.athrow, 1) := by decide +kernel
theorem dX8_points_21 : decode cX8_points 21 = .ok (.aload_n 0, 1) := by decide +kernel
theorem dX8_points_22 : decode cX8_points 22 = .ok (.getfield 20, 3) := by decide +kernel
theorem dX8_points_25 : decode cX8_points 25 = .ok (.getfield 70, 3) := by decide +kernel
theorem dX8_points_28 : decode cX8_points 28 = .ok (.istore_n 2, 1) := by decide +kernel
theorem dX8_points_29 : decode cX8_points 29 = .ok (.aload_n 0, 1) := by decide +kernel
theorem dX8_points_30 : decode cX8_points 30 = .ok (.getfield 20, 3) := by decide +kernel
theorem dX8_points_33 : decode cX8_points 33 = .ok (.iload_n 1, 1) := by decide +kernel
theorem dX8_points_34 : decode cX8_points 34 = .ok (.invokevirtual 76, 3) := by decide +kernel
theorem dX8_points_37 : decode cX8_points 37 = .ok (.aload_n 0, 1) := by decide +kernel
theorem dX8_points_38 : decode cX8_points 38 = .ok (.getfield 10, 3) := by decide +kernel
theorem dX8_points_41 : decode cX8_points 41 = .ok (.invokevirtual 80, 3) := by decide +kernel
theorem dX8_points_44 : decode cX8_points 44 = .ok (.iload_n 2, 1) := by decide +kernel
theorem dX8_points_45 : decode cX8_points 45 = .ok (.ireturn, 1) := by decide +kernel
set_option maxRecDepth 20000 in
theorem ggX8_concept_X1_isSet : GoodIn wsX8_concept wsX1_isSet := goodIn_r _ [13, 14, 53, 54, 55, 56] (by decide +kernel) (by decide +kernel)
set_option maxRecDepth 20000 in
theorem gX8_concept_X1_isSet : GoodIn wsX8_concept (wsV RX8 83 RX1 yX1_isSet wsX1_isSet) := goodIn_app (goodIn_of _ (by decide +kernel)) ggX8_concept_X1_isSet
set_option maxRecDepth 20000 in
theorem ggX8_concept_X1_numberOf : GoodIn wsX8_concept wsX1_numberOf := goodIn_r _ [18, 19, 20, 21, 22, 12, 23, 24, 25, 26, 27, 53, 54, 55, 56] (by decide +kernel) (by decide +kernel)
set_option maxRecDepth 20000 in
theorem gX8_concept_X1_numberOf : GoodIn wsX8_concept (wsV RX8 92 RX1 yX1_numberOf wsX1_numberOf) := goodIn_app (goodIn_of _ (by decide +kernel)) ggX8_concept_X1_numberOf
set_option maxRecDepth 20000 in
theorem ggX8_concept_X1_add : GoodIn wsX8_concept wsX1_add := goodIn_r _ [31, 19, 24, 14, 32, 33, 26, 34, 35, 36, 25, 27, 53, 54, 55, 56] (by decide +kernel) (by decide +kernel)
set_option maxRecDepth 20000 in
theorem gX8_concept_X1_add : GoodIn wsX8_concept (wsV RX8 106 RX1 yX1_add wsX1_add) := goodIn_app (goodIn_of _ (by decide +kernel)) ggX8_concept_X1_add
theorem dX8_concept_0 : decode cX8_concept 0 = .ok (.aload_n 0, 1) := by decide +kernel
theorem dX8_concept_1 : decode cX8_concept 1 = .ok (.getfield 20, 3) := by decide +kernel
theorem dX8_concept_4 : decode cX8_concept 4 = .ok (.iload_n 1, 1) := by decide +kernel
theorem dX8_concept_5 : decode cX8_concept 5 = .ok (.invokevirtual 83, 3) := by decide +kernel
theorem dX8_concept_8 : decode cX8_concept 8 = .ok (.ifCond .ne 13, 3) := by decide +kernel
theorem dX8_concept_11 : decode cX8_concept 11 = .ok (.new 63, 3) := by decide +kernel
theorem dX8_concept_14 : decode cX8_concept 14 = .ok (.dup, 1) := by decide +kernel
theorem dX8_concept_15 : decode cX8_concept 15 = .ok (.ldc 87, 2) := by decide +kernel
theorem dX8_concept_17 : decode cX8_concept 17 = .ok (.invokespecial 67, 3) := by decide +kernel
theorem dX8_concept_20 : decode cX8_concept 20 = .ok (.athrow, 1) := by decide +kernel
theorem dX8_concept_21 : decode cX8_concept 21 = .ok (.aload_n 0, 1) := by decide +kernel
theorem dX8_concept_22 : decode cX8_concept 22 = .ok (.getfield 10, 3) := by decide +kernel
theorem dX8_concept_25 : decode cX8_concept 25 = .ok (.getfield 89, 3) := by decide +kernel
theorem dX8_concept_28 : decode cX8_concept 28 = .ok (.ifCond .gt 14, 3) := by decide +kernel
theorem dX8_concept_31 : decode cX8_concept 31 = .ok (.aload_n 0, 1) := by decide +kernel
theorem dX8_concept_32 : decode cX8_concept 32 = .ok (.getfield 20, 3) := by decide +kernel
theorem dX8_concept_35 : decode cX8_concept 35 = .ok (.iload_n 1, 1) := by decide +kernel
theorem dX8_concept_36 : decode cX8_concept 36 = .ok (.invokevirtual 92, 3) := by decide +kernel
theorem dX8_concept_39 : decode cX8_concept 39 = .ok (.ifCond .lt 13, 3) := by decide +kernel
theorem dX8_concept_42 : decode cX8_concept 42 = .ok (.new 96, 3) := by decide +kernel
theorem dX8_concept_45 : decode cX8_concept 45 = .ok (.dup, 1) := by decide +kernel
theorem dX8_concept_46 : decode cX8_concept 46 = .ok (.ldc 98, 2) := by decide +kernel
theorem dX8_concept_48 : decode cX8_concept 48 = .ok (.invokespecial 100, 3) := by decide +kernel
theorem dX8_concept_51 : decode cX8_concept 51 = .ok (.athrow, 1) := by decide +kernel
theorem dX8_concept_52 : decode cX8_concept 52 = .ok (.aload_n 0, 1) := by decide +kernel
theorem dX8_concept_53 : decode cX8_concept 53 = .ok (.getfield 20, 3) := by decide +kernel
theorem dX8_concept_56 : decode cX8_concept 56 = .ok (.getfield 70, 3) := by decide +kernel
theorem dX8_concept_59 : decode cX8_concept 59 = .ok (.bipush 24, 2) := by decide +kernel
theorem dX8_concept_61 : decode cX8_concept 61 = .ok (.if_icmp .lt 13, 3) := by decide +kernel
theorem dX8_concept_64 : decode cX8_concept 64 = .ok (.new 101, 3) := by decide +kernel
theorem dX8_concept_67 : decode cX8_concept 67 = .ok (.dup, 1) := by decide +kernel
theorem dX8_concept_68 : decode cX8_concept 68 = .ok (.ldc 103, 2) := by decide +kernel
theorem dX8_concept_70 : decode cX8_concept 70 = .ok (.invokespecial 105, 3) := by decide +kernel
theorem dX8_concept_73 : decode cX8_concept 73 = .ok (.athrow, 1) := by decide +kernel
theorem dX8_concept_74 : decode cX8_concept 74 = .ok (.aload_n 0, 1) := by decide +kernel
theorem dX8_concept_75 : decode cX8_concept 75 = .ok (.getfield 20, 3) := by decide +kernel
theorem dX8_concept_78 : decode cX8_concept 78 = .ok (.iload_n 1, 1) := by decide +kernel
theorem dX8_concept_79 : decode cX8_concept 79 = .ok (.invokevirtual 106, 3) := by decide +kernel
theorem dX8_concept_82 : decode cX8_concept 82 = .ok (.ireturn, 1) := by decide +kernel
set_option maxRecDepth 20000 in
theorem ggX8_family_X1_isFamily : GoodIn wsX8_family wsX1_isFamily := goodIn_r _ [12] (by decide +kernel) (by decide +kernel)
set_option maxRecDepth 20000 in
theorem gX8_family_X1_isFamily : GoodIn wsX8_family (va_wsS RX8 109 yX1_isFamily wsX1_isFamily) := goodIn_app (goodIn_of _ (by decide +kernel)) ggX8_family_X1_isFamily
set_option maxRecDepth 20000 in
theorem ggX8_family_X1_missing : GoodIn wsX8_family wsX1_missing := goodIn_r _ [16, 17, 18, 19, 11, 20, 21, 22, 23, 24, 25, 26, 27, 28, 29, 30, 31, 32, 33, 34, 35, 36, 37, 38, 39, 40, 70, 71, 72, 73] (by decide +kernel) (by decide +kernel)
set_option maxRecDepth 20000 in
theorem gX8_family_X1_missing : GoodIn wsX8_family (wsV RX8 117 RX1 yX1_missing wsX1_missing) := goodIn_app (goodIn_of _ (by decide +kernel)) ggX8_family_X1_missing
set_option maxRecDepth 20000 in
theorem ggX8_family_X1_addAll : GoodIn wsX8_family wsX1_addAll := goodIn_r _ [44, 17, 18, 19, 11, 20, 21, 22, 23, 24, 25, 26, 27, 28, 29, 30, 31, 32, 33, 34, 35, 36, 37, 38, 39, 40, 45, 46, 47, 48, 49, 50, 51, 52, 53, 70, 71, 72, 73] (by decide +kernel) (by decide +kernel)
set_option maxRecDepth 20000 in
theorem gX8_family_X1_addAll : GoodIn wsX8_family (wsV RX8 123 RX1 yX1_addAll wsX1_addAll) := goodIn_app (goodIn_of _ (by decide +kernel)) ggX8_family_X1_addAll
theorem dX8_family_0 : decode cX8_family 0 = .ok (.iload_n 1, 1) := by decide +kernel
theorem dX8_family_1 : decode cX8_family 1 = .ok (.invokestatic 109, 3) := by decide +kernel
theorem dX8_family_4 : decode cX8_family 4 = .ok (.ifCond .ne 13, 3) := by decide +kernel
theorem dX8_family_7 : decode cX8_family 7 = .ok (.new 63, 3) := by decide +kernel
theorem dX8_family_10 : decode cX8_family 10 = .ok (.dup, 1) := by decide +kernel
theorem dX8_family_11 : decode cX8_family 11 = .ok (.ldc 113, 2) := by decide +kernel
theorem dX8_family_13 : decode cX8_family 13 = .ok (.invokespecial 67, 3) := by decide +kernel
theorem dX8_family_16 : decode cX8_family 16 = .ok (.athrow, 1) := by decide +kernel
theorem dX8_family_17 : decode cX8_family 17 = .ok (.aload_n 0, 1) := by decide +kernel
theorem dX8_family_18 : decode cX8_family 18 = .ok (.getfield 10, 3) := by decide +kernel
theorem dX8_family_21 : decode cX8_family 21 = .ok (.getfield 89, 3) := by decide +kernel
theorem dX8_family_24 : decode cX8_family 24 = .ok (.ifCond .le 13, 3) := by decide +kernel
theorem dX8_family_27 : decode cX8_family 27 = .ok (.new 96, 3) := by decide +kernel
theorem dX8_family_30 : decode cX8_family 30 = .ok (.dup, 1) := by decide +kernel
theorem dX8_family_31 : decode cX8_family 31 = .ok (.ldc 115, 2) := by decide +kernel
theorem dX8_family_33 : decode cX8_family 33 = .ok (.invokespecial 100, 3) := by decide +kernel
theorem dX8_family_36 : decode cX8_family 36 = .ok (.athrow, 1) := by decide +kernel
theorem dX8_family_37 : decode cX8_family 37 = .ok (.aload_n 0, 1) := by decide +kernel
theorem dX8_family_38 : decode cX8_family 38 = .ok (.getfield 20, 3) := by decide +kernel
theorem dX8_family_41 : decode cX8_family 41 = .ok (.getfield 70, 3) := by decide +kernel
theorem dX8_family_44 : decode cX8_family 44 = .ok (.aload_n 0, 1) := by decide +kernel
theorem dX8_family_45 : decode cX8_family 45 = .ok (.getfield 20, 3) := by decide +kernel
theorem dX8_family_48 : decode cX8_family 48 = .ok (.iload_n 1, 1) := by decide +kernel
theorem dX8_family_49 : decode cX8_family 49 = .ok (.invokevirtual 117, 3) := by decide +kernel
theorem dX8_family_52 : decode cX8_family 52 = .ok (.iadd, 1) := by decide +kernel
theorem dX8_family_53 : decode cX8_family 53 = .ok (.bipush 24, 2) := by decide +kernel
theorem dX8_family_55 : decode cX8_family 55 = .ok (.if_icmp .le 13, 3) := by decide +kernel
theorem dX8_family_58 : decode cX8_family 58 = .ok (.new 101, 3) := by decide +kernel
theorem dX8_family_61 : decode cX8_family 61 = .ok (.dup, 1) := by decide +kernel
theorem dX8_family_62 : decode cX8_family 62 = .ok (.ldc 121, 2) := by decide +kernel
theorem dX8_family_64 : decode cX8_family 64 = .ok (.invokespecial 105, 3) := by decide +kernel
theorem dX8_family_67 : decode cX8_family 67 = .ok (.athrow, 1) := by decide +kernel
theorem dX8_family_68 : decode cX8_family 68 = .ok (.aload_n 0, 1) := by decide +kernel
theorem dX8_family_69 : decode cX8_family 69 = .ok (.getfield 20, 3) := by decide +kernel
theorem dX8_family_72 : decode cX8_family 72 = .ok (.iload_n 1, 1) := by decide +kernel
theorem dX8_family_73 : decode cX8_family 73 = .ok (.invokevirtual 123, 3) := by decide +kernel
theorem dX8_family_76 : decode cX8_family 76 = .ok (.aload_n 0, 1) := by decide +kernel
theorem dX8_family_77 : decode cX8_family 77 = .ok (.getfield 20, 3) := by decide +kernel
theorem dX8_family_80 : decode cX8_family 80 = .ok (.getfield 70, 3) := by decide +kernel
theorem dX8_family_83 : decode cX8_family 83 = .ok (.ireturn, 1) := by decide +kernel
set_option maxRecDepth 20000 in
theorem ggX8_setOf_X1_isNumber : GoodIn wsX8_setOf wsX1_isNumber := goodIn_r _ [8, 9, 26, 27, 28, 29] (by decide +kernel) (by decide +kernel)
set_option maxRecDepth 20000 in
theorem gX8_setOf_X1_isNumber : GoodIn wsX8_setOf (wsV RX8 127 RX1 yX1_isNumber wsX1_isNumber) := goodIn_app (goodIn_of _ (by decide +kernel)) ggX8_setOf_X1_isNumber
set_option maxRecDepth 20000 in
theorem ggX8_setOf_X1_setAt : GoodIn wsX8_setOf wsX1_setAt := goodIn_r _ [13, 14, 15, 16, 17, 26, 27, 28, 29] (by decide +kernel) (by decide +kernel)
set_option maxRecDepth 20000 in
theorem gX8_setOf_X1_setAt : GoodIn wsX8_setOf (wsV RX8 135 RX1 yX1_setAt wsX1_setAt) := goodIn_app (goodIn_of _ (by decide +kernel)) ggX8_setOf_X1_setAt
theorem dX8_setOf_0 : decode cX8_setOf 0 = .ok (.aload_n 0, 1) := by decide +kernel
theorem dX8_setOf_1 : decode cX8_setOf 1 = .ok (.getfield 20, 3) := by decide +kernel
theorem dX8_setOf_4 : decode cX8_setOf 4 = .ok (.iload_n 1, 1) := by decide +kernel
theorem dX8_setOf_5 : decode cX8_setOf 5 = .ok (.invokevirtual 127, 3) := by decide +kernel
theorem dX8_setOf_8 : decode cX8_setOf 8 = .ok (.ifCond .ne 13, 3) := by decide +kernel
theorem dX8_setOf_11 : decode cX8_setOf 11 = .ok (.new 130, 3) := by decide +kernel
theorem dX8_setOf_14 : decode cX8_setOf 14 = .ok (.dup, 1) := by decide +kernel
theorem dX8_setOf_15 : decode cX8_setOf 15 = .ok (.ldc 132, 2) := by decide +kernel
theorem dX8_setOf_17 : decode cX8_setOf 17 = .ok (.invokespecial 134, 3) := by decide +kernel
theorem dX8_setOf_20 : decode cX8_setOf 20 = .ok (.athrow, 1) := by decide +kernel
theorem dX8_setOf_21 : decode cX8_setOf 21 = .ok (.aload_n 0, 1) := by decide +kernel
theorem dX8_setOf_22 : decode cX8_setOf 22 = .ok (.getfield 20, 3) := by decide +kernel
theorem dX8_setOf_25 : decode cX8_setOf 25 = .ok (.iload_n 1, 1) := by decide +kernel
theorem dX8_setOf_26 : decode cX8_setOf 26 = .ok (.invokevirtual 135, 3) := by decide +kernel
theorem dX8_setOf_29 : decode cX8_setOf 29 = .ok (.ireturn, 1) := by decide +kernel
set_option maxRecDepth 20000 in
theorem ggX8_teach_X5_isKind : GoodIn wsX8_teach wsX5_isKind := goodIn_r _ [12] (by decide +kernel) (by decide +kernel)
set_option maxRecDepth 20000 in
theorem gX8_teach_X5_isKind : GoodIn wsX8_teach (va_wsS RX8 138 yX5_isKind wsX5_isKind) := goodIn_app (goodIn_of _ (by decide +kernel)) ggX8_teach_X5_isKind
set_option maxRecDepth 20000 in
theorem ggX8_teach_X1_isNumber : GoodIn wsX8_teach wsX1_isNumber := goodIn_r _ [17, 18, 44, 45, 46, 47] (by decide +kernel) (by decide +kernel)
set_option maxRecDepth 20000 in
theorem gX8_teach_X1_isNumber : GoodIn wsX8_teach (wsV RX8 127 RX1 yX1_isNumber wsX1_isNumber) := goodIn_app (goodIn_of _ (by decide +kernel)) ggX8_teach_X1_isNumber
set_option maxRecDepth 20000 in
theorem ggX8_teach_X5_isThere : GoodIn wsX8_teach wsX5_isThere := goodIn_r _ [22, 23, 48, 49, 50, 51, 52, 53, 54, 55] (by decide +kernel) (by decide +kernel)
set_option maxRecDepth 20000 in
theorem gX8_teach_X5_isThere : GoodIn wsX8_teach (wsV RX8 147 RX5 yX5_isThere wsX5_isThere) := goodIn_app (goodIn_of _ (by decide +kernel)) ggX8_teach_X5_isThere
set_option maxRecDepth 20000 in
theorem ggX8_teach_X5_come : GoodIn wsX8_teach wsX5_come := goodIn_r _ [27, 23, 28, 29, 30, 31, 32, 33, 34, 35, 48, 49, 50, 51, 52, 53, 54, 55] (by decide +kernel) (by decide +kernel)
set_option maxRecDepth 20000 in
theorem gX8_teach_X5_come : GoodIn wsX8_teach (wsV RX8 151 RX5 yX5_come wsX5_come) := goodIn_app (goodIn_of _ (by decide +kernel)) ggX8_teach_X5_come
theorem dX8_teach_0 : decode cX8_teach 0 = .ok (.iload_n 1, 1) := by decide +kernel
theorem dX8_teach_1 : decode cX8_teach 1 = .ok (.invokestatic 138, 3) := by decide +kernel
theorem dX8_teach_4 : decode cX8_teach 4 = .ok (.ifCond .ne 13, 3) := by decide +kernel
theorem dX8_teach_7 : decode cX8_teach 7 = .ok (.new 63, 3) := by decide +kernel
theorem dX8_teach_10 : decode cX8_teach 10 = .ok (.dup, 1) := by decide +kernel
theorem dX8_teach_11 : decode cX8_teach 11 = .ok (.ldc 141, 2) := by decide +kernel
theorem dX8_teach_13 : decode cX8_teach 13 = .ok (.invokespecial 67, 3) := by decide +kernel
theorem dX8_teach_16 : decode cX8_teach 16 = .ok (.athrow, 1) := by decide +kernel
theorem dX8_teach_17 : decode cX8_teach 17 = .ok (.iload_n 1, 1) := by decide +kernel
theorem dX8_teach_18 : decode cX8_teach 18 = .ok (.bipush 108, 2) := by decide +kernel
theorem dX8_teach_20 : decode cX8_teach 20 = .ok (.if_icmp .ne 22, 3) := by decide +kernel
theorem dX8_teach_23 : decode cX8_teach 23 = .ok (.iload_n 3, 1) := by decide +kernel
theorem dX8_teach_24 : decode cX8_teach 24 = .ok (.ifCond .lt 8, 3) := by decide +kernel
theorem dX8_teach_27 : decode cX8_teach 27 = .ok (.iload_n 3, 1) := by decide +kernel
theorem dX8_teach_28 : decode cX8_teach 28 = .ok (.iconst 2, 1) := by decide +kernel
theorem dX8_teach_29 : decode cX8_teach 29 = .ok (.if_icmp .le 13, 3) := by decide +kernel
theorem dX8_teach_32 : decode cX8_teach 32 = .ok (.new 63, 3) := by decide +kernel
theorem dX8_teach_35 : decode cX8_teach 35 = .ok (.dup, 1) := by decide +kernel
theorem dX8_teach_36 : decode cX8_teach 36 = .ok (.ldc 143, 2) := by decide +kernel
theorem dX8_teach_38 : decode cX8_teach 38 = .ok (.invokespecial 67, 3) := by decide +kernel
theorem dX8_teach_41 : decode cX8_teach 41 = .ok (.athrow, 1) := by decide +kernel
theorem dX8_teach_42 : decode cX8_teach 42 = .ok (.iload_n 1, 1) := by decide +kernel
theorem dX8_teach_43 : decode cX8_teach 43 = .ok (.bipush 97, 2) := by decide +kernel
theorem dX8_teach_45 : decode cX8_teach 45 = .ok (.if_icmp .eq 24, 3) := by decide +kernel
theorem dX8_teach_48 : decode cX8_teach 48 = .ok (.aload_n 0, 1) := by decide +kernel
theorem dX8_teach_49 : decode cX8_teach 49 = .ok (.getfield 20, 3) := by decide +kernel
theorem dX8_teach_52 : decode cX8_teach 52 = .ok (.iload_n 2, 1) := by decide +kernel
theorem dX8_teach_53 : decode cX8_teach 53 = .ok (.invokevirtual 127, 3) := by decide +kernel
theorem dX8_teach_56 : decode cX8_teach 56 = .ok (.ifCond .ne 13, 3) := by decide +kernel
theorem dX8_teach_59 : decode cX8_teach 59 = .ok (.new 130, 3) := by decide +kernel
theorem dX8_teach_62 : decode cX8_teach 62 = .ok (.dup, 1) := by decide +kernel
theorem dX8_teach_63 : decode cX8_teach 63 = .ok (.ldc 132, 2) := by decide +kernel
theorem dX8_teach_65 : decode cX8_teach 65 = .ok (.invokespecial 134, 3) := by decide +kernel
theorem dX8_teach_68 : decode cX8_teach 68 = .ok (.athrow, 1) := by decide +kernel
theorem dX8_teach_69 : decode cX8_teach 69 = .ok (.aload_n 0, 1) := by decide +kernel
theorem dX8_teach_70 : decode cX8_teach 70 = .ok (.getfield 20, 3) := by decide +kernel
theorem dX8_teach_73 : decode cX8_teach 73 = .ok (.getfield 70, 3) := by decide +kernel
theorem dX8_teach_76 : decode cX8_teach 76 = .ok (.ifCond .ne 13, 3) := by decide +kernel
theorem dX8_teach_79 : decode cX8_teach 79 = .ok (.new 96, 3) := by decide +kernel
theorem dX8_teach_82 : decode cX8_teach 82 = .ok (.dup, 1) := by decide +kernel
theorem dX8_teach_83 : decode cX8_teach 83 = .ok (.ldc 145, 2) := by decide +kernel
theorem dX8_teach_85 : decode cX8_teach 85 = .ok (.invokespecial 100, 3) := by decide +kernel
theorem dX8_teach_88 : decode cX8_teach 88 = .ok (.athrow, 1) := by decide +kernel
theorem dX8_teach_89 : decode cX8_teach 89 = .ok (.aload_n 0, 1) := by decide +kernel
theorem dX8_teach_90 : decode cX8_teach 90 = .ok (.getfield 10, 3) := by decide +kernel
theorem dX8_teach_93 : decode cX8_teach 93 = .ok (.invokevirtual 147, 3) := by decide +kernel
theorem dX8_teach_96 : decode cX8_teach 96 = .ok (.istore 4, 2) := by decide +kernel
theorem dX8_teach_98 : decode cX8_teach 98 = .ok (.aload_n 0, 1) := by decide +kernel
theorem dX8_teach_99 : decode cX8_teach 99 = .ok (.getfield 10, 3) := by decide +kernel
theorem dX8_teach_102 : decode cX8_teach 102 = .ok (.iload_n 1, 1) := by decide +kernel
theorem dX8_teach_103 : decode cX8_teach 103 = .ok (.iload_n 2, 1) := by decide +kernel
theorem dX8_teach_104 : decode cX8_teach 104 = .ok (.iload_n 3, 1) := by decide +kernel
theorem dX8_teach_105 : decode cX8_teach 105 = .ok (.invokevirtual 151, 3) := by decide +kernel
theorem dX8_teach_108 : decode cX8_teach 108 = .ok (.iload 4, 2) := by decide +kernel
theorem dX8_teach_110 : decode cX8_teach 110 = .ok (.ireturn, 1) := by decide +kernel
theorem dX8_seed_0 : decode cX8_seed 0 = .ok (.iload_n 1, 1) := by decide +kernel
theorem dX8_seed_1 : decode cX8_seed 1 = .ok (.iconst 1, 1) := by decide +kernel
theorem dX8_seed_2 : decode cX8_seed 2 = .ok (.if_icmp .lt 9, 3) := by decide +kernel
theorem dX8_seed_5 : decode cX8_seed 5 = .ok (.iload_n 1, 1) := by decide +kernel
theorem dX8_seed_6 : decode cX8_seed 6 = .ok (.ldc 155, 2) := by decide +kernel
theorem dX8_seed_8 : decode cX8_seed 8 = .ok (.if_icmp .le 13, 3) := by decide +kernel
theorem dX8_seed_11 : decode cX8_seed 11 = .ok (.new 63, 3) := by decide +kernel
theorem dX8_seed_14 : decode cX8_seed 14 = .ok (.dup, 1) := by decide +kernel
theorem dX8_seed_15 : decode cX8_seed 15 = .ok (.ldc 156, 2) := by decide +kernel
theorem dX8_seed_17 : decode cX8_seed 17 = .ok (.invokespecial 67, 3) := by decide +kernel
theorem dX8_seed_20 : decode cX8_seed 20 = .ok (.athrow, 1) := by decide +kernel
theorem dX8_seed_21 : decode cX8_seed 21 = .ok (.aload_n 0, 1) := by decide +kernel
theorem dX8_seed_22 : decode cX8_seed 22 = .ok (.getfield 10, 3) := by decide +kernel
theorem dX8_seed_25 : decode cX8_seed 25 = .ok (.getfield 158, 3) := by decide +kernel
theorem dX8_seed_28 : decode cX8_seed 28 = .ok (.istore_n 2, 1) := by decide +kernel
theorem dX8_seed_29 : decode cX8_seed 29 = .ok (.aload_n 0, 1) := by decide +kernel
theorem dX8_seed_30 : decode cX8_seed 30 = .ok (.getfield 10, 3) := by decide +kernel
theorem dX8_seed_33 : decode cX8_seed 33 = .ok (.iload_n 1, 1) := by decide +kernel
theorem dX8_seed_34 : decode cX8_seed 34 = .ok (.putfield 158, 3) := by decide +kernel
theorem dX8_seed_37 : decode cX8_seed 37 = .ok (.iload_n 2, 1) := by decide +kernel
theorem dX8_seed_38 : decode cX8_seed 38 = .ok (.ireturn, 1) := by decide +kernel
set_option maxRecDepth 20000 in
theorem ggX8_ask_X1_isPoint : GoodIn wsX8_ask wsX1_isPoint := goodIn_r _ [13, 14, 113, 114, 115, 116] (by decide +kernel) (by decide +kernel)
set_option maxRecDepth 20000 in
theorem gX8_ask_X1_isPoint : GoodIn wsX8_ask (wsV RX8 161 RX1 yX1_isPoint wsX1_isPoint) := goodIn_app (goodIn_of _ (by decide +kernel)) ggX8_ask_X1_isPoint
set_option maxRecDepth 20000 in
theorem ggX8_ask_X5_isThere : GoodIn wsX8_ask wsX5_isThere := goodIn_r _ [19, 20, 105, 106, 107, 108, 109, 110, 111, 112] (by decide +kernel) (by decide +kernel)
set_option maxRecDepth 20000 in
theorem gX8_ask_X5_isThere : GoodIn wsX8_ask (wsV RX8 147 RX5 yX5_isThere wsX5_isThere) := goodIn_app (goodIn_of _ (by decide +kernel)) ggX8_ask_X5_isThere
set_option maxRecDepth 20000 in
theorem ggX8_ask_X5_answer : GoodIn wsX8_ask wsX5_answer := goodIn_r _ [24, 20, 25, 26, 27, 28, 29, 18, 30, 31, 32, 33, 34, 35, 36, 37, 38, 39, 40, 41, 42, 43, 44, 45, 46, 12, 47, 48, 49, 50, 51, 52, 53, 54, 55, 56, 57, 58, 59, 60, 61, 62, 63, 64, 65, 66, 67, 68, 69, 70, 71, 72, 73, 74, 75, 76, 77, 78, 79, 80, 81, 82, 83, 84, 85, 86, 87, 88, 89, 90, 91, 92, 93, 94, 95, 96, 105, 106, 107, 108, 109, 110, 111, 112, 113, 114, 115, 116] (by decide +kernel) (by decide +kernel)
set_option maxRecDepth 20000 in
theorem gX8_ask_X5_answer : GoodIn wsX8_ask (wsV RX8 170 RX5 yX5_answer wsX5_answer) := goodIn_app (goodIn_of _ (by decide +kernel)) ggX8_ask_X5_answer
theorem dX8_ask_0 : decode cX8_ask 0 = .ok (.aload_n 0, 1) := by decide +kernel
theorem dX8_ask_1 : decode cX8_ask 1 = .ok (.getfield 20, 3) := by decide +kernel
theorem dX8_ask_4 : decode cX8_ask 4 = .ok (.iload_n 1, 1) := by decide +kernel
theorem dX8_ask_5 : decode cX8_ask 5 = .ok (.invokevirtual 161, 3) := by decide +kernel
theorem dX8_ask_8 : decode cX8_ask 8 = .ok (.ifCond .ne 13, 3) := by decide +kernel
theorem dX8_ask_11 : decode cX8_ask 11 = .ok (.new 63, 3) := by decide +kernel
theorem dX8_ask_14 : decode cX8_ask 14 = .ok (.dup, 1) := by decide +kernel
theorem dX8_ask_15 : decode cX8_ask 15 = .ok (.ldc 164, 2) := by decide +kernel
theorem dX8_ask_17 : decode cX8_ask 17 = .ok (.invokespecial 67, 3) := by decide +kernel
theorem dX8_ask_20 : decode cX8_ask 20 = .ok (.athrow, 1) := by decide +kernel
theorem dX8_ask_21 : decode cX8_ask 21 = .ok (.aload_n 0, 1) := by decide +kernel
theorem dX8_ask_22 : decode cX8_ask 22 = .ok (.getfield 10, 3) := by decide +kernel
theorem dX8_ask_25 : decode cX8_ask 25 = .ok (.invokevirtual 147, 3) := by decide +kernel
theorem dX8_ask_28 : decode cX8_ask 28 = .ok (.ifCond .ne 13, 3) := by decide +kernel
theorem dX8_ask_31 : decode cX8_ask 31 = .ok (.new 96, 3) := by decide +kernel
theorem dX8_ask_34 : decode cX8_ask 34 = .ok (.dup, 1) := by decide +kernel
theorem dX8_ask_35 : decode cX8_ask 35 = .ok (.ldc 166, 2) := by decide +kernel
theorem dX8_ask_37 : decode cX8_ask 37 = .ok (.invokespecial 100, 3) := by decide +kernel
theorem dX8_ask_40 : decode cX8_ask 40 = .ok (.athrow, 1) := by decide +kernel
theorem dX8_ask_41 : decode cX8_ask 41 = .ok (.aload_n 0, 1) := by decide +kernel
theorem dX8_ask_42 : decode cX8_ask 42 = .ok (.getfield 10, 3) := by decide +kernel
theorem dX8_ask_45 : decode cX8_ask 45 = .ok (.getfield 89, 3) := by decide +kernel
theorem dX8_ask_48 : decode cX8_ask 48 = .ok (.bipush 40, 2) := by decide +kernel
theorem dX8_ask_50 : decode cX8_ask 50 = .ok (.if_icmp .lt 13, 3) := by decide +kernel
theorem dX8_ask_53 : decode cX8_ask 53 = .ok (.new 101, 3) := by decide +kernel
theorem dX8_ask_56 : decode cX8_ask 56 = .ok (.dup, 1) := by decide +kernel
theorem dX8_ask_57 : decode cX8_ask 57 = .ok (.ldc 168, 2) := by decide +kernel
theorem dX8_ask_59 : decode cX8_ask 59 = .ok (.invokespecial 105, 3) := by decide +kernel
theorem dX8_ask_62 : decode cX8_ask 62 = .ok (.athrow, 1) := by decide +kernel
theorem dX8_ask_63 : decode cX8_ask 63 = .ok (.aload_n 0, 1) := by decide +kernel
theorem dX8_ask_64 : decode cX8_ask 64 = .ok (.getfield 10, 3) := by decide +kernel
theorem dX8_ask_67 : decode cX8_ask 67 = .ok (.iload_n 1, 1) := by decide +kernel
theorem dX8_ask_68 : decode cX8_ask 68 = .ok (.invokevirtual 170, 3) := by decide +kernel
theorem dX8_ask_71 : decode cX8_ask 71 = .ok (.ireturn, 1) := by decide +kernel
set_option maxRecDepth 20000 in
theorem ggX8_equal_X1_isSet : GoodIn wsX8_equal wsX1_isSet := goodIn_r _ [13, 14, 116, 117, 118, 119] (by decide +kernel) (by decide +kernel)
set_option maxRecDepth 20000 in
theorem gX8_equal_X1_isSet : GoodIn wsX8_equal (wsV RX8 83 RX1 yX1_isSet wsX1_isSet) := goodIn_app (goodIn_of _ (by decide +kernel)) ggX8_equal_X1_isSet
set_option maxRecDepth 20000 in
theorem ggX8_equal_X5_isThere : GoodIn wsX8_equal wsX5_isThere := goodIn_r _ [19, 20, 108, 109, 110, 111, 112, 113, 114, 115] (by decide +kernel) (by decide +kernel)
set_option maxRecDepth 20000 in
theorem gX8_equal_X5_isThere : GoodIn wsX8_equal (wsV RX8 147 RX5 yX5_isThere wsX5_isThere) := goodIn_app (goodIn_of _ (by decide +kernel)) ggX8_equal_X5_isThere
set_option maxRecDepth 20000 in
theorem ggX8_equal_X5_compare : GoodIn wsX8_equal wsX5_compare := goodIn_r _ [24, 20, 25, 26, 27, 28, 29, 30, 18, 31, 32, 33, 34, 35, 36, 37, 38, 39, 40, 41, 42, 43, 44, 45, 46, 47, 48, 49, 50, 51, 12, 52, 53, 54, 55, 56, 57, 58, 59, 60, 61, 62, 63, 64, 65, 66, 67, 68, 69, 70, 71, 72, 73, 74, 75, 76, 77, 78, 79, 80, 81, 82, 83, 84, 85, 86, 87, 88, 89, 90, 91, 92, 93, 94, 95, 96, 97, 98, 99, 108, 109, 110, 111, 112, 113, 114, 115, 116, 117, 118, 119] (by decide +kernel) (by decide +kernel)
set_option maxRecDepth 20000 in
theorem gX8_equal_X5_compare : GoodIn wsX8_equal (wsV RX8 173 RX5 yX5_compare wsX5_compare) := goodIn_app (goodIn_of _ (by decide +kernel)) ggX8_equal_X5_compare
theorem dX8_equal_0 : decode cX8_equal 0 = .ok (.aload_n 0, 1) := by decide +kernel
theorem dX8_equal_1 : decode cX8_equal 1 = .ok (.getfield 20, 3) := by decide +kernel
theorem dX8_equal_4 : decode cX8_equal 4 = .ok (.iload_n 1, 1) := by decide +kernel
theorem dX8_equal_5 : decode cX8_equal 5 = .ok (.invokevirtual 83, 3) := by decide +kernel
theorem dX8_equal_8 : decode cX8_equal 8 = .ok (.ifCond .ne 13, 3) := by decide +kernel
theorem dX8_equal_11 : decode cX8_equal 11 = .ok (.new 63, 3) := by decide +kernel
theorem dX8_equal_14 : decode cX8_equal 14 = .ok (.dup, 1) := by decide +kernel
theorem dX8_equal_15 : decode cX8_equal 15 = .ok (.ldc 87, 2) := by decide +kernel
theorem dX8_equal_17 : decode cX8_equal 17 = .ok (.invokespecial 67, 3) := by decide +kernel
theorem dX8_equal_20 : decode cX8_equal 20 = .ok (.athrow, 1) := by decide +kernel
theorem dX8_equal_21 : decode cX8_equal 21 = .ok (.aload_n 0, 1) := by decide +kernel
theorem dX8_equal_22 : decode cX8_equal 22 = .ok (.getfield 10, 3) := by decide +kernel
theorem dX8_equal_25 : decode cX8_equal 25 = .ok (.invokevirtual 147, 3) := by decide +kernel
theorem dX8_equal_28 : decode cX8_equal 28 = .ok (.ifCond .ne 13, 3) := by decide +kernel
theorem dX8_equal_31 : decode cX8_equal 31 = .ok (.new 96, 3) := by decide +kernel
theorem dX8_equal_34 : decode cX8_equal 34 = .ok (.dup, 1) := by decide +kernel
theorem dX8_equal_35 : decode cX8_equal 35 = .ok (.ldc 166, 2) := by decide +kernel
theorem dX8_equal_37 : decode cX8_equal 37 = .ok (.invokespecial 100, 3) := by decide +kernel
theorem dX8_equal_40 : decode cX8_equal 40 = .ok (.athrow, 1) := by decide +kernel
theorem dX8_equal_41 : decode cX8_equal 41 = .ok (.aload_n 0, 1) := by decide +kernel
theorem dX8_equal_42 : decode cX8_equal 42 = .ok (.getfield 10, 3) := by decide +kernel
theorem dX8_equal_45 : decode cX8_equal 45 = .ok (.getfield 89, 3) := by decide +kernel
theorem dX8_equal_48 : decode cX8_equal 48 = .ok (.bipush 40, 2) := by decide +kernel
theorem dX8_equal_50 : decode cX8_equal 50 = .ok (.if_icmp .lt 13, 3) := by decide +kernel
theorem dX8_equal_53 : decode cX8_equal 53 = .ok (.new 101, 3) := by decide +kernel
theorem dX8_equal_56 : decode cX8_equal 56 = .ok (.dup, 1) := by decide +kernel
theorem dX8_equal_57 : decode cX8_equal 57 = .ok (.ldc 168, 2) := by decide +kernel
theorem dX8_equal_59 : decode cX8_equal 59 = .ok (.invokespecial 105, 3) := by decide +kernel
theorem dX8_equal_62 : decode cX8_equal 62 = .ok (.athrow, 1) := by decide +kernel
theorem dX8_equal_63 : decode cX8_equal 63 = .ok (.aload_n 0, 1) := by decide +kernel
theorem dX8_equal_64 : decode cX8_equal 64 = .ok (.getfield 10, 3) := by decide +kernel
theorem dX8_equal_67 : decode cX8_equal 67 = .ok (.iload_n 1, 1) := by decide +kernel
theorem dX8_equal_68 : decode cX8_equal 68 = .ok (.invokevirtual 173, 3) := by decide +kernel
theorem dX8_equal_71 : decode cX8_equal 71 = .ok (.ireturn, 1) := by decide +kernel
theorem dX8_answers_0 : decode cX8_answers 0 = .ok (.aload_n 0, 1) := by decide +kernel
theorem dX8_answers_1 : decode cX8_answers 1 = .ok (.getfield 10, 3) := by decide +kernel
theorem dX8_answers_4 : decode cX8_answers 4 = .ok (.getfield 89, 3) := by decide +kernel
theorem dX8_answers_7 : decode cX8_answers 7 = .ok (.ireturn, 1) := by decide +kernel
set_option maxRecDepth 20000 in
theorem ggX8_conflicts_X1_isNumber : GoodIn wsX8_conflicts wsX1_isNumber := goodIn_r _ [9, 10, 28, 29, 30, 31] (by decide +kernel) (by decide +kernel)
set_option maxRecDepth 20000 in
theorem gX8_conflicts_X1_isNumber : GoodIn wsX8_conflicts (wsV RX8 127 RX1 yX1_isNumber wsX1_isNumber) := goodIn_app (goodIn_of _ (by decide +kernel)) ggX8_conflicts_X1_isNumber
set_option maxRecDepth 20000 in
theorem ggX8_conflicts_X5_conflictsOf : GoodIn wsX8_conflicts wsX5_conflictsOf := goodIn_r _ [15, 16, 17, 18, 19, 32, 33, 34, 35, 36, 37, 38, 39] (by decide +kernel) (by decide +kernel)
set_option maxRecDepth 20000 in
theorem gX8_conflicts_X5_conflictsOf : GoodIn wsX8_conflicts (wsV RX8 176 RX5 yX5_conflictsOf wsX5_conflictsOf) := goodIn_app (goodIn_of _ (by decide +kernel)) ggX8_conflicts_X5_conflictsOf
theorem dX8_conflicts_0 : decode cX8_conflicts 0 = .ok (.aload_n 0, 1) := by decide +kernel
theorem dX8_conflicts_1 : decode cX8_conflicts 1 = .ok (.getfield 20, 3) := by decide +kernel
theorem dX8_conflicts_4 : decode cX8_conflicts 4 = .ok (.iload_n 1, 1) := by decide +kernel
theorem dX8_conflicts_5 : decode cX8_conflicts 5 = .ok (.invokevirtual 127, 3) := by decide +kernel
theorem dX8_conflicts_8 : decode cX8_conflicts 8 = .ok (.ifCond .ne 13, 3) := by decide +kernel
theorem dX8_conflicts_11 : decode cX8_conflicts 11 = .ok (.new 130, 3) := by decide +kernel
theorem dX8_conflicts_14 : decode cX8_conflicts 14 = .ok (.dup, 1) := by decide +kernel
theorem dX8_conflicts_15 : decode cX8_conflicts 15 = .ok (.ldc 132, 2) := by decide +kernel
theorem dX8_conflicts_17 : decode cX8_conflicts 17 = .ok (.invokespecial 134, 3) := by decide +kernel
theorem dX8_conflicts_20 : decode cX8_conflicts 20 = .ok (.athrow, 1) := by decide +kernel
theorem dX8_conflicts_21 : decode cX8_conflicts 21 = .ok (.aload_n 0, 1) := by decide +kernel
theorem dX8_conflicts_22 : decode cX8_conflicts 22 = .ok (.getfield 10, 3) := by decide +kernel
theorem dX8_conflicts_25 : decode cX8_conflicts 25 = .ok (.iload_n 1, 1) := by decide +kernel
theorem dX8_conflicts_26 : decode cX8_conflicts 26 = .ok (.invokevirtual 176, 3) := by decide +kernel
theorem dX8_conflicts_29 : decode cX8_conflicts 29 = .ok (.ireturn, 1) := by decide +kernel
set_option maxRecDepth 20000 in
theorem ggX8_isAlive_X1_isNumber : GoodIn wsX8_isAlive wsX1_isNumber := goodIn_r _ [9, 10, 33, 34, 35, 36] (by decide +kernel) (by decide +kernel)
set_option maxRecDepth 20000 in
theorem gX8_isAlive_X1_isNumber : GoodIn wsX8_isAlive (wsV RX8 127 RX1 yX1_isNumber wsX1_isNumber) := goodIn_app (goodIn_of _ (by decide +kernel)) ggX8_isAlive_X1_isNumber
set_option maxRecDepth 20000 in
theorem ggX8_isAlive_X5_isLiving : GoodIn wsX8_isAlive wsX5_isLiving := goodIn_r _ [15, 16, 17, 18, 19, 14, 20, 21, 22, 23, 24, 37, 38, 39, 40, 41, 42, 43, 44] (by decide +kernel) (by decide +kernel)
set_option maxRecDepth 20000 in
theorem gX8_isAlive_X5_isLiving : GoodIn wsX8_isAlive (wsV RX8 179 RX5 yX5_isLiving wsX5_isLiving) := goodIn_app (goodIn_of _ (by decide +kernel)) ggX8_isAlive_X5_isLiving
theorem dX8_isAlive_0 : decode cX8_isAlive 0 = .ok (.aload_n 0, 1) := by decide +kernel
theorem dX8_isAlive_1 : decode cX8_isAlive 1 = .ok (.getfield 20, 3) := by decide +kernel
theorem dX8_isAlive_4 : decode cX8_isAlive 4 = .ok (.iload_n 1, 1) := by decide +kernel
theorem dX8_isAlive_5 : decode cX8_isAlive 5 = .ok (.invokevirtual 127, 3) := by decide +kernel
theorem dX8_isAlive_8 : decode cX8_isAlive 8 = .ok (.ifCond .ne 13, 3) := by decide +kernel
theorem dX8_isAlive_11 : decode cX8_isAlive 11 = .ok (.new 130, 3) := by decide +kernel
theorem dX8_isAlive_14 : decode cX8_isAlive 14 = .ok (.dup, 1) := by decide +kernel
theorem dX8_isAlive_15 : decode cX8_isAlive 15 = .ok (.ldc 132, 2) := by decide +kernel
theorem dX8_isAlive_17 : decode cX8_isAlive 17 = .ok (.invokespecial 134, 3) := by decide +kernel
theorem dX8_isAlive_20 : decode cX8_isAlive 20 = .ok (.athrow, 1) := by decide +kernel
theorem dX8_isAlive_21 : decode cX8_isAlive 21 = .ok (.aload_n 0, 1) := by decide +kernel
theorem dX8_isAlive_22 : decode cX8_isAlive 22 = .ok (.getfield 10, 3) := by decide +kernel
theorem dX8_isAlive_25 : decode cX8_isAlive 25 = .ok (.iload_n 1, 1) := by decide +kernel
theorem dX8_isAlive_26 : decode cX8_isAlive 26 = .ok (.invokevirtual 179, 3) := by decide +kernel
theorem dX8_isAlive_29 : decode cX8_isAlive 29 = .ok (.ireturn, 1) := by decide +kernel
set_option maxRecDepth 20000 in
theorem ggX8_alive_X5_living : GoodIn wsX8_alive wsX5_living := goodIn_r _ [6, 7, 8, 9, 10, 5, 11, 12, 13, 14, 15, 16, 17, 18, 19, 20, 36, 37, 38, 39, 40, 41, 42, 43, 44, 45, 46, 47] (by decide +kernel) (by decide +kernel)
set_option maxRecDepth 20000 in
theorem gX8_alive_X5_living : GoodIn wsX8_alive (wsV RX8 182 RX5 yX5_living wsX5_living) := goodIn_app (goodIn_of _ (by decide +kernel)) ggX8_alive_X5_living
set_option maxRecDepth 20000 in
theorem ggX8_alive_J6_bitCount_0f7a4 : GoodIn wsX8_alive wsJ6_bitCount_0f7a4 := goodIn_r _ [24, 25, 26, 27] (by decide +kernel) (by decide +kernel)
set_option maxRecDepth 20000 in
theorem gX8_alive_J6_bitCount_0f7a4 : GoodIn wsX8_alive (va_wsS RX8 186 yJ6_bitCount_0f7a4 wsJ6_bitCount_0f7a4) := goodIn_app (goodIn_of _ (by decide +kernel)) ggX8_alive_J6_bitCount_0f7a4
theorem dX8_alive_0 : decode cX8_alive 0 = .ok (.aload_n 0, 1) := by decide +kernel
theorem dX8_alive_1 : decode cX8_alive 1 = .ok (.getfield 10, 3) := by decide +kernel
theorem dX8_alive_4 : decode cX8_alive 4 = .ok (.invokevirtual 182, 3) := by decide +kernel
theorem dX8_alive_7 : decode cX8_alive 7 = .ok (.invokestatic 186, 3) := by decide +kernel
theorem dX8_alive_10 : decode cX8_alive 10 = .ok (.ireturn, 1) := by decide +kernel
set_option maxRecDepth 20000 in
theorem ggX8_sure_X1_isPoint : GoodIn wsX8_sure wsX1_isPoint := goodIn_r _ [9, 10, 47, 48, 49, 50] (by decide +kernel) (by decide +kernel)
set_option maxRecDepth 20000 in
theorem gX8_sure_X1_isPoint : GoodIn wsX8_sure (wsV RX8 161 RX1 yX1_isPoint wsX1_isPoint) := goodIn_app (goodIn_of _ (by decide +kernel)) ggX8_sure_X1_isPoint
set_option maxRecDepth 20000 in
theorem ggX8_sure_X5_living : GoodIn wsX8_sure wsX5_living := goodIn_r _ [15, 16, 17, 18, 19, 14, 20, 21, 22, 23, 24, 25, 26, 27, 28, 29, 51, 52, 53, 54, 55, 56, 57, 58, 47, 48, 49, 50] (by decide +kernel) (by decide +kernel)
set_option maxRecDepth 20000 in
theorem gX8_sure_X5_living : GoodIn wsX8_sure (wsV RX8 182 RX5 yX5_living wsX5_living) := goodIn_app (goodIn_of _ (by decide +kernel)) ggX8_sure_X5_living
set_option maxRecDepth 20000 in
theorem ggX8_sure_X1_agreementOn : GoodIn wsX8_sure wsX1_agreementOn := goodIn_r _ [33, 34, 35, 36, 8, 37, 38, 27, 28, 29, 47, 48, 49, 50] (by decide +kernel) (by decide +kernel)
set_option maxRecDepth 20000 in
theorem gX8_sure_X1_agreementOn : GoodIn wsX8_sure (wsV RX8 191 RX1 yX1_agreementOn wsX1_agreementOn) := goodIn_app (goodIn_of _ (by decide +kernel)) ggX8_sure_X1_agreementOn
theorem dX8_sure_0 : decode cX8_sure 0 = .ok (.aload_n 0, 1) := by decide +kernel
theorem dX8_sure_1 : decode cX8_sure 1 = .ok (.getfield 20, 3) := by decide +kernel
theorem dX8_sure_4 : decode cX8_sure 4 = .ok (.iload_n 1, 1) := by decide +kernel
theorem dX8_sure_5 : decode cX8_sure 5 = .ok (.invokevirtual 161, 3) := by decide +kernel
theorem dX8_sure_8 : decode cX8_sure 8 = .ok (.ifCond .ne 13, 3) := by decide +kernel
theorem dX8_sure_11 : decode cX8_sure 11 = .ok (.new 63, 3) := by decide +kernel
theorem dX8_sure_14 : decode cX8_sure 14 = .ok (.dup, 1) := by decide +kernel
theorem dX8_sure_15 : decode cX8_sure 15 = .ok (.ldc 164, 2) := by decide +kernel
theorem dX8_sure_17 : decode cX8_sure 17 = .ok (.invokespecial 67, 3) := by decide +kernel
theorem dX8_sure_20 : decode cX8_sure 20 = .ok (.athrow, 1) := by decide +kernel
theorem dX8_sure_21 : decode cX8_sure 21 = .ok (.aload_n 0, 1) := by decide +kernel
theorem dX8_sure_22 : decode cX8_sure 22 = .ok (.getfield 20, 3) := by decide +kernel
theorem dX8_sure_25 : decode cX8_sure 25 = .ok (.iload_n 1, 1) := by decide +kernel
theorem dX8_sure_26 : decode cX8_sure 26 = .ok (.aload_n 0, 1) := by decide +kernel
theorem dX8_sure_27 : decode cX8_sure 27 = .ok (.getfield 10, 3) := by decide +kernel
theorem dX8_sure_30 : decode cX8_sure 30 = .ok (.invokevirtual 182, 3) := by decide +kernel
theorem dX8_sure_33 : decode cX8_sure 33 = .ok (.invokevirtual 191, 3) := by decide +kernel
theorem dX8_sure_36 : decode cX8_sure 36 = .ok (.ireturn, 1) := by decide +kernel
set_option maxRecDepth 20000 in
theorem ggX8_best_X5_living : GoodIn wsX8_best wsX5_living := goodIn_r _ [9, 10, 11, 12, 13, 8, 14, 15, 16, 17, 18, 19, 20, 21, 22, 23, 64, 65, 66, 67, 68, 69, 70, 71, 72, 73, 74, 75] (by decide +kernel) (by decide +kernel)
set_option maxRecDepth 20000 in
theorem gX8_best_X5_living : GoodIn wsX8_best (wsV RX8 182 RX5 yX5_living wsX5_living) := goodIn_app (goodIn_of _ (by decide +kernel)) ggX8_best_X5_living
set_option maxRecDepth 20000 in
theorem ggX8_best_J6_bitCount_0f7a4 : GoodIn wsX8_best wsJ6_bitCount_0f7a4 := goodIn_r _ [27, 28, 29, 30] (by decide +kernel) (by decide +kernel)
set_option maxRecDepth 20000 in
theorem gX8_best_J6_bitCount_0f7a4 : GoodIn wsX8_best (va_wsS RX8 186 yJ6_bitCount_0f7a4 wsJ6_bitCount_0f7a4) := goodIn_app (goodIn_of _ (by decide +kernel)) ggX8_best_J6_bitCount_0f7a4
set_option maxRecDepth 20000 in
theorem ggX8_best_X1_bestQuestion : GoodIn wsX8_best wsX1_bestQuestion := goodIn_r _ [35, 36, 37, 38, 39, 40, 41, 42, 43, 34, 44, 45, 21, 22, 23, 46, 25, 26, 27, 28, 29, 30, 47, 48, 49, 50, 51, 52, 53, 54, 55, 72, 73, 74, 75] (by decide +kernel) (by decide +kernel)
set_option maxRecDepth 20000 in
theorem gX8_best_X1_bestQuestion : GoodIn wsX8_best (wsV RX8 200 RX1 yX1_bestQuestion wsX1_bestQuestion) := goodIn_app (goodIn_of _ (by decide +kernel)) ggX8_best_X1_bestQuestion
theorem dX8_best_0 : decode cX8_best 0 = .ok (.aload_n 0, 1) := by decide +kernel
theorem dX8_best_1 : decode cX8_best 1 = .ok (.getfield 10, 3) := by decide +kernel
theorem dX8_best_4 : decode cX8_best 4 = .ok (.invokevirtual 182, 3) := by decide +kernel
theorem dX8_best_7 : decode cX8_best 7 = .ok (.istore_n 1, 1) := by decide +kernel
theorem dX8_best_8 : decode cX8_best 8 = .ok (.iload_n 1, 1) := by decide +kernel
theorem dX8_best_9 : decode cX8_best 9 = .ok (.invokestatic 186, 3) := by decide +kernel
theorem dX8_best_12 : decode cX8_best 12 = .ok (.iconst 2, 1) := by decide +kernel
theorem dX8_best_13 : decode cX8_best 13 = .ok (.if_icmp .ge 13, 3) := by decide +kernel
theorem dX8_best_16 : decode cX8_best 16 = .ok (.new 195, 3) := by decide +kernel
theorem dX8_best_19 : decode cX8_best 19 = .ok (.dup, 1) := by decide +kernel
theorem dX8_best_20 : decode cX8_best 20 = .ok (.ldc 197, 2) := by decide +kernel
theorem dX8_best_22 : decode cX8_best 22 = .ok (.invokespecial 199, 3) := by decide +kernel
theorem dX8_best_25 : decode cX8_best 25 = .ok (.athrow, 1) := by decide +kernel
theorem dX8_best_26 : decode cX8_best 26 = .ok (.aload_n 0, 1) := by decide +kernel
theorem dX8_best_27 : decode cX8_best 27 = .ok (.getfield 20, 3) := by decide +kernel
theorem dX8_best_30 : decode cX8_best 30 = .ok (.iload_n 1, 1) := by decide +kernel
theorem dX8_best_31 : decode cX8_best 31 = .ok (.invokevirtual 200, 3) := by decide +kernel
theorem dX8_best_34 : decode cX8_best 34 = .ok (.ireturn, 1) := by decide +kernel
set_option maxRecDepth 20000 in
theorem ggX8_learn_X5_isThere : GoodIn wsX8_learn wsX5_isThere := goodIn_r _ [8, 9, 109, 110, 111, 112, 113, 114, 115, 116] (by decide +kernel) (by decide +kernel)
set_option maxRecDepth 20000 in
theorem gX8_learn_X5_isThere : GoodIn wsX8_learn (wsV RX8 147 RX5 yX5_isThere wsX5_isThere) := goodIn_app (goodIn_of _ (by decide +kernel)) ggX8_learn_X5_isThere
set_option maxRecDepth 20000 in
theorem ggX8_learn_X5_askOn : GoodIn wsX8_learn wsX5_askOn := goodIn_r _ [13, 14, 15, 16, 17, 18, 7, 19, 20, 21, 22, 23, 24, 25, 26, 27, 28, 29, 30, 31, 32, 33, 34, 35, 36, 37, 38, 39, 40, 41, 42, 43, 44, 45, 46, 47, 48, 49, 50, 51, 52, 53, 54, 55, 56, 57, 58, 59, 60, 61, 62, 63, 64, 65, 66, 67, 68, 9, 69, 70, 71, 72, 73, 74, 75, 76, 77, 78, 79, 80, 81, 82, 83, 84, 85, 86, 87, 88, 89, 90, 91, 92, 93, 94, 95, 96, 97, 98, 99, 100, 109, 110, 111, 112, 113, 114, 115, 116, 117, 118, 119, 120] (by decide +kernel) (by decide +kernel)
set_option maxRecDepth 20000 in
theorem gX8_learn_X5_askOn : GoodIn wsX8_learn (wsV RX8 203 RX5 yX5_askOn wsX5_askOn) := goodIn_app (goodIn_of _ (by decide +kernel)) ggX8_learn_X5_askOn
theorem dX8_learn_0 : decode cX8_learn 0 = .ok (.aload_n 0, 1) := by decide +kernel
theorem dX8_learn_1 : decode cX8_learn 1 = .ok (.getfield 10, 3) := by decide +kernel
theorem dX8_learn_4 : decode cX8_learn 4 = .ok (.invokevirtual 147, 3) := by decide +kernel
theorem dX8_learn_7 : decode cX8_learn 7 = .ok (.ifCond .ne 13, 3) := by decide +kernel
theorem dX8_learn_10 : decode cX8_learn 10 = .ok (.new 96, 3) := by decide +kernel
theorem dX8_learn_13 : decode cX8_learn 13 = .ok (.dup, 1) := by decide +kernel
theorem dX8_learn_14 : decode cX8_learn 14 = .ok (.ldc 166, 2) := by decide +kernel
theorem dX8_learn_16 : decode cX8_learn 16 = .ok (.invokespecial 100, 3) := by decide +kernel
theorem dX8_learn_19 : decode cX8_learn 19 = .ok (.athrow, 1) := by decide +kernel
theorem dX8_learn_20 : decode cX8_learn 20 = .ok (.aload_n 0, 1) := by decide +kernel
theorem dX8_learn_21 : decode cX8_learn 21 = .ok (.getfield 10, 3) := by decide +kernel
theorem dX8_learn_24 : decode cX8_learn 24 = .ok (.invokevirtual 203, 3) := by decide +kernel
theorem dX8_learn_27 : decode cX8_learn 27 = .ok (.ireturn, 1) := by decide +kernel
set_option maxRecDepth 20000 in
theorem ggX8_found_X5_living : GoodIn wsX8_found wsX5_living := goodIn_r _ [8, 9, 10, 11, 12, 7, 13, 14, 15, 16, 17, 18, 19, 20, 21, 22, 44, 45, 46, 47, 48, 49, 50, 51, 52, 53, 54, 55] (by decide +kernel) (by decide +kernel)
set_option maxRecDepth 20000 in
theorem gX8_found_X5_living : GoodIn wsX8_found (wsV RX8 182 RX5 yX5_living wsX5_living) := goodIn_app (goodIn_of _ (by decide +kernel)) ggX8_found_X5_living
set_option maxRecDepth 20000 in
theorem ggX8_found_J6_bitCount_0f7a4 : GoodIn wsX8_found wsJ6_bitCount_0f7a4 := goodIn_r _ [26, 27, 28, 29] (by decide +kernel) (by decide +kernel)
set_option maxRecDepth 20000 in
theorem gX8_found_J6_bitCount_0f7a4 : GoodIn wsX8_found (va_wsS RX8 186 yJ6_bitCount_0f7a4 wsJ6_bitCount_0f7a4) := goodIn_app (goodIn_of _ (by decide +kernel)) ggX8_found_J6_bitCount_0f7a4
set_option maxRecDepth 20000 in
theorem ggX8_found_X8_lowestBit : GoodIn wsX8_found wsX8_lowestBit := goodIn_r _ [32, 33, 34, 21, 35] (by decide +kernel) (by decide +kernel)
set_option maxRecDepth 20000 in
theorem gX8_found_X8_lowestBit : GoodIn wsX8_found (va_wsS RX8 208 yX8_lowestBit wsX8_lowestBit) := goodIn_app (goodIn_of _ (by decide +kernel)) ggX8_found_X8_lowestBit
theorem dX8_found_0 : decode cX8_found 0 = .ok (.aload_n 0, 1) := by decide +kernel
theorem dX8_found_1 : decode cX8_found 1 = .ok (.getfield 10, 3) := by decide +kernel
theorem dX8_found_4 : decode cX8_found 4 = .ok (.invokevirtual 182, 3) := by decide +kernel
theorem dX8_found_7 : decode cX8_found 7 = .ok (.istore_n 1, 1) := by decide +kernel
theorem dX8_found_8 : decode cX8_found 8 = .ok (.iload_n 1, 1) := by decide +kernel
theorem dX8_found_9 : decode cX8_found 9 = .ok (.invokestatic 186, 3) := by decide +kernel
theorem dX8_found_12 : decode cX8_found 12 = .ok (.iconst 1, 1) := by decide +kernel
theorem dX8_found_13 : decode cX8_found 13 = .ok (.if_icmp .eq 13, 3) := by decide +kernel
theorem dX8_found_16 : decode cX8_found 16 = .ok (.new 195, 3) := by decide +kernel
theorem dX8_found_19 : decode cX8_found 19 = .ok (.dup, 1) := by decide +kernel
theorem dX8_found_20 : decode cX8_found 20 = .ok (.ldc 206, 2) := by decide +kernel
theorem dX8_found_22 : decode cX8_found 22 = .ok (.invokespecial 199, 3) := by decide +kernel
theorem dX8_found_25 : decode cX8_found 25 = .ok (.athrow, 1) := by decide +kernel
theorem dX8_found_26 : decode cX8_found 26 = .ok (.iload_n 1, 1) := by decide +kernel
theorem dX8_found_27 : decode cX8_found 27 = .ok (.invokestatic 208, 3) := by decide +kernel
theorem dX8_found_30 : decode cX8_found 30 = .ok (.ireturn, 1) := by decide +kernel
set_option maxRecDepth 20000 in
theorem ggX8_isShattered_X1_isSet : GoodIn wsX8_isShattered wsX1_isSet := goodIn_r _ [8, 9, 45, 46, 47, 48] (by decide +kernel) (by decide +kernel)
set_option maxRecDepth 20000 in
theorem gX8_isShattered_X1_isSet : GoodIn wsX8_isShattered (wsV RX8 83 RX1 yX1_isSet wsX1_isSet) := goodIn_app (goodIn_of _ (by decide +kernel)) ggX8_isShattered_X1_isSet
set_option maxRecDepth 20000 in
theorem ggX8_isShattered_X1_shatters : GoodIn wsX8_isShattered wsX1_shatters := goodIn_r _ [13, 14, 15, 16, 17, 7, 18, 19, 20, 21, 22, 23, 24, 25, 26, 27, 28, 29, 30, 31, 32, 33, 34, 35, 36, 45, 46, 47, 48] (by decide +kernel) (by decide +kernel)
set_option maxRecDepth 20000 in
theorem gX8_isShattered_X1_shatters : GoodIn wsX8_isShattered (wsV RX8 211 RX1 yX1_shatters wsX1_shatters) := goodIn_app (goodIn_of _ (by decide +kernel)) ggX8_isShattered_X1_shatters
theorem dX8_isShattered_0 : decode cX8_isShattered 0 = .ok (.aload_n 0, 1) := by decide +kernel
theorem dX8_isShattered_1 : decode cX8_isShattered 1 = .ok (.getfield 20, 3) := by decide +kernel
theorem dX8_isShattered_4 : decode cX8_isShattered 4 = .ok (.iload_n 1, 1) := by decide +kernel
theorem dX8_isShattered_5 : decode cX8_isShattered 5 = .ok (.invokevirtual 83, 3) := by decide +kernel
theorem dX8_isShattered_8 : decode cX8_isShattered 8 = .ok (.ifCond .ne 13, 3) := by decide +kernel
theorem dX8_isShattered_11 : decode cX8_isShattered 11 = .ok (.new 63, 3) := by decide +kernel
theorem dX8_isShattered_14 : decode cX8_isShattered 14 = .ok (.dup, 1) := by decide +kernel
theorem dX8_isShattered_15 : decode cX8_isShattered 15 = .ok (.ldc 87, 2) := by decide +kernel
theorem dX8_isShattered_17 : decode cX8_isShattered 17 = .ok (.invokespecial 67, 3) := by decide +kernel
theorem dX8_isShattered_20 : decode cX8_isShattered 20 = .ok (.athrow, 1) := by decide +kernel
theorem dX8_isShattered_21 : decode cX8_isShattered 21 = .ok (.aload_n 0, 1) := by decide +kernel
theorem dX8_isShattered_22 : decode cX8_isShattered 22 = .ok (.getfield 20, 3) := by decide +kernel
theorem dX8_isShattered_25 : decode cX8_isShattered 25 = .ok (.iload_n 1, 1) := by decide +kernel
theorem dX8_isShattered_26 : decode cX8_isShattered 26 = .ok (.invokevirtual 211, 3) := by decide +kernel
theorem dX8_isShattered_29 : decode cX8_isShattered 29 = .ok (.ireturn, 1) := by decide +kernel
set_option maxRecDepth 20000 in
theorem ggX8_dimension_X1_greatestShattered : GoodIn wsX8_dimension wsX1_greatestShattered := goodIn_r _ [6, 7, 8, 9, 10, 11, 12, 13, 14, 15, 16, 17, 5, 18, 19, 20, 21, 22, 23, 24, 25, 26, 27, 28, 29, 30, 31, 32, 33, 34, 43, 44, 45, 46] (by decide +kernel) (by decide +kernel)
set_option maxRecDepth 20000 in
theorem gX8_dimension_X1_greatestShattered : GoodIn wsX8_dimension (wsV RX8 214 RX1 yX1_greatestShattered wsX1_greatestShattered) := goodIn_app (goodIn_of _ (by decide +kernel)) ggX8_dimension_X1_greatestShattered
theorem dX8_dimension_0 : decode cX8_dimension 0 = .ok (.aload_n 0, 1) := by decide +kernel
theorem dX8_dimension_1 : decode cX8_dimension 1 = .ok (.getfield 20, 3) := by decide +kernel
theorem dX8_dimension_4 : decode cX8_dimension 4 = .ok (.invokevirtual 214, 3) := by decide +kernel
theorem dX8_dimension_7 : decode cX8_dimension 7 = .ok (.ireturn, 1) := by decide +kernel
set_option maxRecDepth 20000 in
theorem ggX8_lesson_X1_isNumber : GoodIn wsX8_lesson wsX1_isNumber := goodIn_r _ [8, 9, 42, 43, 44, 45] (by decide +kernel) (by decide +kernel)
set_option maxRecDepth 20000 in
theorem gX8_lesson_X1_isNumber : GoodIn wsX8_lesson (wsV RX8 127 RX1 yX1_isNumber wsX1_isNumber) := goodIn_app (goodIn_of _ (by decide +kernel)) ggX8_lesson_X1_isNumber
set_option maxRecDepth 20000 in
theorem ggX8_lesson_X1_leastLesson : GoodIn wsX8_lesson wsX1_leastLesson := goodIn_r _ [13, 14, 15, 16, 17, 18, 19, 20, 21, 22, 23, 24, 7, 25, 9, 26, 27, 28, 29, 30, 31, 32, 33, 42, 43, 44, 45] (by decide +kernel) (by decide +kernel)
set_option maxRecDepth 20000 in
theorem gX8_lesson_X1_leastLesson : GoodIn wsX8_lesson (wsV RX8 217 RX1 yX1_leastLesson wsX1_leastLesson) := goodIn_app (goodIn_of _ (by decide +kernel)) ggX8_lesson_X1_leastLesson
theorem dX8_lesson_0 : decode cX8_lesson 0 = .ok (.aload_n 0, 1) := by decide +kernel
theorem dX8_lesson_1 : decode cX8_lesson 1 = .ok (.getfield 20, 3) := by decide +kernel
theorem dX8_lesson_4 : decode cX8_lesson 4 = .ok (.iload_n 1, 1) := by decide +kernel
theorem dX8_lesson_5 : decode cX8_lesson 5 = .ok (.invokevirtual 127, 3) := by decide +kernel
theorem dX8_lesson_8 : decode cX8_lesson 8 = .ok (.ifCond .ne 13, 3) := by decide +kernel
theorem dX8_lesson_11 : decode cX8_lesson 11 = .ok (.new 130, 3) := by decide +kernel
theorem dX8_lesson_14 : decode cX8_lesson 14 = .ok (.dup, 1) := by decide +kernel
theorem dX8_lesson_15 : decode cX8_lesson 15 = .ok (.ldc 132, 2) := by decide +kernel
theorem dX8_lesson_17 : decode cX8_lesson 17 = .ok (.invokespecial 134, 3) := by decide +kernel
theorem dX8_lesson_20 : decode cX8_lesson 20 = .ok (.athrow, 1) := by decide +kernel
theorem dX8_lesson_21 : decode cX8_lesson 21 = .ok (.aload_n 0, 1) := by decide +kernel
theorem dX8_lesson_22 : decode cX8_lesson 22 = .ok (.getfield 20, 3) := by decide +kernel
theorem dX8_lesson_25 : decode cX8_lesson 25 = .ok (.iload_n 1, 1) := by decide +kernel
theorem dX8_lesson_26 : decode cX8_lesson 26 = .ok (.invokevirtual 217, 3) := by decide +kernel
theorem dX8_lesson_29 : decode cX8_lesson 29 = .ok (.ireturn, 1) := by decide +kernel
set_option maxRecDepth 20000 in
theorem ggX8_depth_X6_leastDepth : GoodIn wsX8_depth wsX6_leastDepth := goodIn_r _ [7, 8, 9, 10, 6, 11, 12, 13, 14, 15, 16, 17, 18, 19, 20, 21, 22, 23, 24, 25, 26, 27, 28, 29, 30, 31, 32, 33, 34, 35, 36, 37, 38, 39, 40, 41, 42, 43, 44, 45, 46, 47, 48, 49, 50, 51, 52, 53, 54, 55, 56, 57, 58, 59, 60, 61, 62, 63, 64, 65, 74, 75, 76, 77, 78, 79, 80] (by decide +kernel) (by decide +kernel)
set_option maxRecDepth 20000 in
theorem gX8_depth_X6_leastDepth : GoodIn wsX8_depth (wsV RX8 220 RX6 yX6_leastDepth wsX6_leastDepth) := goodIn_app (goodIn_of _ (by decide +kernel)) ggX8_depth_X6_leastDepth
theorem dX8_depth_0 : decode cX8_depth 0 = .ok (.aload_n 0, 1) := by decide +kernel
theorem dX8_depth_1 : decode cX8_depth 1 = .ok (.getfield 24, 3) := by decide +kernel
theorem dX8_depth_4 : decode cX8_depth 4 = .ok (.aload_n 0, 1) := by decide +kernel
theorem dX8_depth_5 : decode cX8_depth 5 = .ok (.getfield 20, 3) := by decide +kernel
theorem dX8_depth_8 : decode cX8_depth 8 = .ok (.invokevirtual 220, 3) := by decide +kernel
theorem dX8_depth_11 : decode cX8_depth 11 = .ok (.ireturn, 1) := by decide +kernel
set_option maxRecDepth 20000 in
theorem ggX8_mistakes_X6_forcedMistakes : GoodIn wsX8_mistakes wsX6_forcedMistakes := goodIn_r _ [7, 8, 9, 10, 6, 11, 12, 13, 14, 15, 16, 17, 18, 19, 20, 21, 22, 23, 24, 25, 26, 27, 28, 29, 30, 31, 32, 33, 34, 35, 36, 37, 38, 39, 40, 41, 42, 43, 44, 45, 46, 47, 48, 49, 50, 51, 52, 53, 54, 55, 56, 57, 58, 59, 60, 61, 62, 63, 64, 65, 74, 75, 76, 77, 78, 79, 80] (by decide +kernel) (by decide +kernel)
set_option maxRecDepth 20000 in
theorem gX8_mistakes_X6_forcedMistakes : GoodIn wsX8_mistakes (wsV RX8 224 RX6 yX6_forcedMistakes wsX6_forcedMistakes) := goodIn_app (goodIn_of _ (by decide +kernel)) ggX8_mistakes_X6_forcedMistakes
theorem dX8_mistakes_0 : decode cX8_mistakes 0 = .ok (.aload_n 0, 1) := by decide +kernel
theorem dX8_mistakes_1 : decode cX8_mistakes 1 = .ok (.getfield 24, 3) := by decide +kernel
theorem dX8_mistakes_4 : decode cX8_mistakes 4 = .ok (.aload_n 0, 1) := by decide +kernel
theorem dX8_mistakes_5 : decode cX8_mistakes 5 = .ok (.getfield 20, 3) := by decide +kernel
theorem dX8_mistakes_8 : decode cX8_mistakes 8 = .ok (.invokevirtual 224, 3) := by decide +kernel
theorem dX8_mistakes_11 : decode cX8_mistakes 11 = .ok (.ireturn, 1) := by decide +kernel
set_option maxRecDepth 20000 in
theorem ggX8_halver_X1_isNumber : GoodIn wsX8_halver wsX1_isNumber := goodIn_r _ [8, 9, 61, 62, 63, 64] (by decide +kernel) (by decide +kernel)
set_option maxRecDepth 20000 in
theorem gX8_halver_X1_isNumber : GoodIn wsX8_halver (wsV RX8 127 RX1 yX1_isNumber wsX1_isNumber) := goodIn_app (goodIn_of _ (by decide +kernel)) ggX8_halver_X1_isNumber
set_option maxRecDepth 20000 in
theorem ggX8_halver_X1_halvingMistakes : GoodIn wsX8_halver wsX1_halvingMistakes := goodIn_r _ [13, 14, 15, 16, 17, 7, 18, 19, 20, 21, 22, 23, 24, 25, 26, 9, 27, 28, 29, 30, 31, 32, 33, 34, 35, 36, 37, 38, 39, 40, 41, 42, 43, 44, 45, 46, 47, 48, 49, 50, 51, 52, 61, 62, 63, 64] (by decide +kernel) (by decide +kernel)
set_option maxRecDepth 20000 in
theorem gX8_halver_X1_halvingMistakes : GoodIn wsX8_halver (wsV RX8 227 RX1 yX1_halvingMistakes wsX1_halvingMistakes) := goodIn_app (goodIn_of _ (by decide +kernel)) ggX8_halver_X1_halvingMistakes
theorem dX8_halver_0 : decode cX8_halver 0 = .ok (.aload_n 0, 1) := by decide +kernel
theorem dX8_halver_1 : decode cX8_halver 1 = .ok (.getfield 20, 3) := by decide +kernel
theorem dX8_halver_4 : decode cX8_halver 4 = .ok (.iload_n 1, 1) := by decide +kernel
theorem dX8_halver_5 : decode cX8_halver 5 = .ok (.invokevirtual 127, 3) := by decide +kernel
theorem dX8_halver_8 : decode cX8_halver 8 = .ok (.ifCond .ne 13, 3) := by decide +kernel
theorem dX8_halver_11 : decode cX8_halver 11 = .ok (.new 130, 3) := by decide +kernel
theorem dX8_halver_14 : decode cX8_halver 14 = .ok (.dup, 1) := by decide +kernel
theorem dX8_halver_15 : decode cX8_halver 15 = .ok (.ldc 132, 2) := by decide +kernel
theorem dX8_halver_17 : decode cX8_halver 17 = .ok (.invokespecial 134, 3) := by decide +kernel
theorem dX8_halver_20 : decode cX8_halver 20 = .ok (.athrow, 1) := by decide +kernel
theorem dX8_halver_21 : decode cX8_halver 21 = .ok (.aload_n 0, 1) := by decide +kernel
theorem dX8_halver_22 : decode cX8_halver 22 = .ok (.getfield 20, 3) := by decide +kernel
theorem dX8_halver_25 : decode cX8_halver 25 = .ok (.iload_n 1, 1) := by decide +kernel
theorem dX8_halver_26 : decode cX8_halver 26 = .ok (.invokevirtual 227, 3) := by decide +kernel
theorem dX8_halver_29 : decode cX8_halver 29 = .ok (.ireturn, 1) := by decide +kernel
set_option maxRecDepth 20000 in
theorem ggX8_experts_X2_startAnew : GoodIn wsX8_experts wsX2_startAnew := goodIn_r _ [8, 9, 10, 11, 12, 13, 14, 15, 24, 25, 26, 27] (by decide +kernel) (by decide +kernel)
set_option maxRecDepth 20000 in
theorem gX8_experts_X2_startAnew : GoodIn wsX8_experts (wsV RX8 233 RX2 yX2_startAnew wsX2_startAnew) := goodIn_app (goodIn_of _ (by decide +kernel)) ggX8_experts_X2_startAnew
theorem dX8_experts_0 : decode cX8_experts 0 = .ok (.iload_n 1, 1) := by decide +kernel
theorem dX8_experts_1 : decode cX8_experts 1 = .ok (.iconst 1, 1) := by decide +kernel
theorem dX8_experts_2 : decode cX8_experts 2 = .ok (.if_icmp .lt 9, 3) := by decide +kernel
theorem dX8_experts_5 : decode cX8_experts 5 = .ok (.iload_n 1, 1) := by decide +kernel
theorem dX8_experts_6 : decode cX8_experts 6 = .ok (.bipush 6, 2) := by decide +kernel
theorem dX8_experts_8 : decode cX8_experts 8 = .ok (.if_icmp .le 13, 3) := by decide +kernel
theorem dX8_experts_11 : decode cX8_experts 11 = .ok (.new 63, 3) := by decide +kernel
theorem dX8_experts_14 : decode cX8_experts 14 = .ok (.dup, 1) := by decide +kernel
theorem dX8_experts_15 : decode cX8_experts 15 = .ok (.ldc 230, 2) := by decide +kernel
theorem dX8_experts_17 : decode cX8_experts 17 = .ok (.invokespecial 67, 3) := by decide +kernel
theorem dX8_experts_20 : decode cX8_experts 20 = .ok (.athrow, 1) := by decide +kernel
theorem dX8_experts_21 : decode cX8_experts 21 = .ok (.aload_n 0, 1) := by decide +kernel
theorem dX8_experts_22 : decode cX8_experts 22 = .ok (.getfield 31, 3) := by decide +kernel
theorem dX8_experts_25 : decode cX8_experts 25 = .ok (.getfield 232, 3) := by decide +kernel
theorem dX8_experts_28 : decode cX8_experts 28 = .ok (.istore_n 2, 1) := by decide +kernel
theorem dX8_experts_29 : decode cX8_experts 29 = .ok (.aload_n 0, 1) := by decide +kernel
theorem dX8_experts_30 : decode cX8_experts 30 = .ok (.getfield 31, 3) := by decide +kernel
theorem dX8_experts_33 : decode cX8_experts 33 = .ok (.iload_n 1, 1) := by decide +kernel
theorem dX8_experts_34 : decode cX8_experts 34 = .ok (.invokevirtual 233, 3) := by decide +kernel
theorem dX8_experts_37 : decode cX8_experts 37 = .ok (.iload_n 2, 1) := by decide +kernel
theorem dX8_experts_38 : decode cX8_experts 38 = .ok (.ireturn, 1) := by decide +kernel
set_option maxRecDepth 20000 in
theorem ggX8_round_X2_hear : GoodIn wsX8_round wsX2_hear := goodIn_r _ [10, 11, 12, 13, 14, 15, 16, 17, 18, 19, 20, 21, 9, 22, 23, 24, 25, 26, 27, 28, 29, 30, 31, 32, 33, 42, 43, 44, 45] (by decide +kernel) (by decide +kernel)
set_option maxRecDepth 20000 in
theorem gX8_round_X2_hear : GoodIn wsX8_round (wsV RX8 238 RX2 yX2_hear wsX2_hear) := goodIn_app (goodIn_of _ (by decide +kernel)) ggX8_round_X2_hear
theorem dX8_round_0 : decode cX8_round 0 = .ok (.iload_n 1, 1) := by decide +kernel
theorem dX8_round_1 : decode cX8_round 1 = .ok (.aload_n 0, 1) := by decide +kernel
theorem dX8_round_2 : decode cX8_round 2 = .ok (.getfield 31, 3) := by decide +kernel
theorem dX8_round_5 : decode cX8_round 5 = .ok (.getfield 232, 3) := by decide +kernel
theorem dX8_round_8 : decode cX8_round 8 = .ok (.ishr, 1) := by decide +kernel
theorem dX8_round_9 : decode cX8_round 9 = .ok (.ifCond .eq 13, 3) := by decide +kernel
theorem dX8_round_12 : decode cX8_round 12 = .ok (.new 63, 3) := by decide +kernel
theorem dX8_round_15 : decode cX8_round 15 = .ok (.dup, 1) := by decide +kernel
theorem dX8_round_16 : decode cX8_round 16 = .ok (.ldc 234, 2) := by decide +kernel
theorem dX8_round_18 : decode cX8_round 18 = .ok (.invokespecial 67, 3) := by decide +kernel
theorem dX8_round_21 : decode cX8_round 21 = .ok (.athrow, 1) := by decide +kernel
theorem dX8_round_22 : decode cX8_round 22 = .ok (.aload_n 0, 1) := by decide +kernel
theorem dX8_round_23 : decode cX8_round 23 = .ok (.getfield 31, 3) := by decide +kernel
theorem dX8_round_26 : decode cX8_round 26 = .ok (.getfield 232, 3) := by decide +kernel
theorem dX8_round_29 : decode cX8_round 29 = .ok (.ifCond .ne 13, 3) := by decide +kernel
theorem dX8_round_32 : decode cX8_round 32 = .ok (.new 96, 3) := by decide +kernel
theorem dX8_round_35 : decode cX8_round 35 = .ok (.dup, 1) := by decide +kernel
theorem dX8_round_36 : decode cX8_round 36 = .ok (.ldc 236, 2) := by decide +kernel
theorem dX8_round_38 : decode cX8_round 38 = .ok (.invokespecial 100, 3) := by decide +kernel
theorem dX8_round_41 : decode cX8_round 41 = .ok (.athrow, 1) := by decide +kernel
theorem dX8_round_42 : decode cX8_round 42 = .ok (.aload_n 0, 1) := by decide +kernel
theorem dX8_round_43 : decode cX8_round 43 = .ok (.getfield 31, 3) := by decide +kernel
theorem dX8_round_46 : decode cX8_round 46 = .ok (.iload_n 1, 1) := by decide +kernel
theorem dX8_round_47 : decode cX8_round 47 = .ok (.iload_n 2, 1) := by decide +kernel
theorem dX8_round_48 : decode cX8_round 48 = .ok (.invokevirtual 238, 3) := by decide +kernel
theorem dX8_round_51 : decode cX8_round 51 = .ok (.ireturn, 1) := by decide +kernel
set_option maxRecDepth 20000 in
theorem ggX8_weight_X2_weightOf : GoodIn wsX8_weight wsX2_weightOf := goodIn_r _ [8, 9, 10, 11, 12, 21, 22, 23, 24] (by decide +kernel) (by decide +kernel)
set_option maxRecDepth 20000 in
theorem gX8_weight_X2_weightOf : GoodIn wsX8_weight (wsV RX8 244 RX2 yX2_weightOf wsX2_weightOf) := goodIn_app (goodIn_of _ (by decide +kernel)) ggX8_weight_X2_weightOf
theorem dX8_weight_0 : decode cX8_weight 0 = .ok (.iload_n 1, 1) := by decide +kernel
theorem dX8_weight_1 : decode cX8_weight 1 = .ok (.ifCond .lt 14, 3) := by decide +kernel
theorem dX8_weight_4 : decode cX8_weight 4 = .ok (.iload_n 1, 1) := by decide +kernel
theorem dX8_weight_5 : decode cX8_weight 5 = .ok (.aload_n 0, 1) := by decide +kernel
theorem dX8_weight_6 : decode cX8_weight 6 = .ok (.getfield 31, 3) := by decide +kernel
theorem dX8_weight_9 : decode cX8_weight 9 = .ok (.getfield 232, 3) := by decide +kernel
theorem dX8_weight_12 : decode cX8_weight 12 = .ok (.if_icmp .lt 13, 3) := by decide +kernel
theorem dX8_weight_15 : decode cX8_weight 15 = .ok (.new 130, 3) := by decide +kernel
theorem dX8_weight_18 : decode cX8_weight 18 = .ok (.dup, 1) := by decide +kernel
theorem dX8_weight_19 : decode cX8_weight 19 = .ok (.ldc 242, 2) := by decide +kernel
theorem dX8_weight_21 : decode cX8_weight 21 = .ok (.invokespecial 134, 3) := by decide +kernel
theorem dX8_weight_24 : decode cX8_weight 24 = .ok (.athrow, 1) := by decide +kernel
theorem dX8_weight_25 : decode cX8_weight 25 = .ok (.aload_n 0, 1) := by decide +kernel
theorem dX8_weight_26 : decode cX8_weight 26 = .ok (.getfield 31, 3) := by decide +kernel
theorem dX8_weight_29 : decode cX8_weight 29 = .ok (.iload_n 1, 1) := by decide +kernel
theorem dX8_weight_30 : decode cX8_weight 30 = .ok (.invokevirtual 244, 3) := by decide +kernel
theorem dX8_weight_33 : decode cX8_weight 33 = .ok (.ireturn, 1) := by decide +kernel
set_option maxRecDepth 20000 in
theorem ggX8_regret_X2_leastWrong : GoodIn wsX8_regret wsX2_leastWrong := goodIn_r _ [8, 9, 10, 11, 12, 13, 14, 15, 16, 17, 26, 27, 28, 29] (by decide +kernel) (by decide +kernel)
set_option maxRecDepth 20000 in
theorem gX8_regret_X2_leastWrong : GoodIn wsX8_regret (wsV RX8 250 RX2 yX2_leastWrong wsX2_leastWrong) := goodIn_app (goodIn_of _ (by decide +kernel)) ggX8_regret_X2_leastWrong
theorem dX8_regret_0 : decode cX8_regret 0 = .ok (.aload_n 0, 1) := by decide +kernel
theorem dX8_regret_1 : decode cX8_regret 1 = .ok (.getfield 31, 3) := by decide +kernel
theorem dX8_regret_4 : decode cX8_regret 4 = .ok (.getfield 232, 3) := by decide +kernel
theorem dX8_regret_7 : decode cX8_regret 7 = .ok (.ifCond .ne 13, 3) := by decide +kernel
theorem dX8_regret_10 : decode cX8_regret 10 = .ok (.new 96, 3) := by decide +kernel
theorem dX8_regret_13 : decode cX8_regret 13 = .ok (.dup, 1) := by decide +kernel
theorem dX8_regret_14 : decode cX8_regret 14 = .ok (.ldc 236, 2) := by decide +kernel
theorem dX8_regret_16 : decode cX8_regret 16 = .ok (.invokespecial 100, 3) := by decide +kernel
theorem dX8_regret_19 : decode cX8_regret 19 = .ok (.athrow, 1) := by decide +kernel
theorem dX8_regret_20 : decode cX8_regret 20 = .ok (.aload_n 0, 1) := by decide +kernel
theorem dX8_regret_21 : decode cX8_regret 21 = .ok (.getfield 31, 3) := by decide +kernel
theorem dX8_regret_24 : decode cX8_regret 24 = .ok (.getfield 247, 3) := by decide +kernel
theorem dX8_regret_27 : decode cX8_regret 27 = .ok (.aload_n 0, 1) := by decide +kernel
theorem dX8_regret_28 : decode cX8_regret 28 = .ok (.getfield 31, 3) := by decide +kernel
theorem dX8_regret_31 : decode cX8_regret 31 = .ok (.invokevirtual 250, 3) := by decide +kernel
theorem dX8_regret_34 : decode cX8_regret 34 = .ok (.isub, 1) := by decide +kernel
theorem dX8_regret_35 : decode cX8_regret 35 = .ok (.ireturn, 1) := by decide +kernel
set_option maxRecDepth 20000 in
theorem ggX8_state_X3_add : GoodIn wsX8_state wsX3_add := goodIn_r _ [8, 9, 10, 11, 12, 13, 14, 23, 24, 25] (by decide +kernel) (by decide +kernel)
set_option maxRecDepth 20000 in
theorem gX8_state_X3_add : GoodIn wsX8_state (wsV RX8 256 RX3 yX3_add wsX3_add) := goodIn_app (goodIn_of _ (by decide +kernel)) ggX8_state_X3_add
theorem dX8_state_0 : decode cX8_state 0 = .ok (.aload_n 0, 1) := by decide +kernel
theorem dX8_state_1 : decode cX8_state 1 = .ok (.getfield 38, 3) := by decide +kernel
theorem dX8_state_4 : decode cX8_state 4 = .ok (.getfield 253, 3) := by decide +kernel
theorem dX8_state_7 : decode cX8_state 7 = .ok (.iconst 5, 1) := by decide +kernel
theorem dX8_state_8 : decode cX8_state 8 = .ok (.if_icmp .lt 13, 3) := by decide +kernel
theorem dX8_state_11 : decode cX8_state 11 = .ok (.new 101, 3) := by decide +kernel
theorem dX8_state_14 : decode cX8_state 14 = .ok (.dup, 1) := by decide +kernel
theorem dX8_state_15 : decode cX8_state 15 = .ok (.ldc 254, 2) := by decide +kernel
theorem dX8_state_17 : decode cX8_state 17 = .ok (.invokespecial 105, 3) := by decide +kernel
theorem dX8_state_20 : decode cX8_state 20 = .ok (.athrow, 1) := by decide +kernel
theorem dX8_state_21 : decode cX8_state 21 = .ok (.aload_n 0, 1) := by decide +kernel
theorem dX8_state_22 : decode cX8_state 22 = .ok (.getfield 38, 3) := by decide +kernel
theorem dX8_state_25 : decode cX8_state 25 = .ok (.iload_n 1, 1) := by decide +kernel
theorem dX8_state_26 : decode cX8_state 26 = .ok (.invokevirtual 256, 3) := by decide +kernel
theorem dX8_state_29 : decode cX8_state 29 = .ok (.ireturn, 1) := by decide +kernel
set_option maxRecDepth 20000 in
theorem ggX8_go_X3_isState : GoodIn wsX8_go wsX3_isState := goodIn_r _ [10, 11, 30, 31, 32] (by decide +kernel) (by decide +kernel)
set_option maxRecDepth 20000 in
theorem gX8_go_X3_isState : GoodIn wsX8_go (wsV RX8 259 RX3 yX3_isState wsX3_isState) := goodIn_app (goodIn_of _ (by decide +kernel)) ggX8_go_X3_isState
set_option maxRecDepth 20000 in
theorem ggX8_go_X3_lead : GoodIn wsX8_go wsX3_lead := goodIn_r _ [15, 16, 17, 18, 19, 20, 21, 30, 31, 32] (by decide +kernel) (by decide +kernel)
set_option maxRecDepth 20000 in
theorem gX8_go_X3_lead : GoodIn wsX8_go (wsV RX8 266 RX3 yX3_lead wsX3_lead) := goodIn_app (goodIn_of _ (by decide +kernel)) ggX8_go_X3_lead
theorem dX8_go_0 : decode cX8_go 0 = .ok (.aload_n 0, 1) := by decide +kernel
theorem dX8_go_1 : decode cX8_go 1 = .ok (.getfield 38, 3) := by decide +kernel
theorem dX8_go_4 : decode cX8_go 4 = .ok (.iload_n 1, 1) := by decide +kernel
theorem dX8_go_5 : decode cX8_go 5 = .ok (.invokevirtual 259, 3) := by decide +kernel
theorem dX8_go_8 : decode cX8_go 8 = .ok (.ifCond .eq 14, 3) := by decide +kernel
theorem dX8_go_11 : decode cX8_go 11 = .ok (.aload_n 0, 1) := by decide +kernel
theorem dX8_go_12 : decode cX8_go 12 = .ok (.getfield 38, 3) := by decide +kernel
theorem dX8_go_15 : decode cX8_go 15 = .ok (.iload_n 3, 1) := by decide +kernel
theorem dX8_go_16 : decode cX8_go 16 = .ok (.invokevirtual 259, 3) := by decide +kernel
theorem dX8_go_19 : decode cX8_go 19 = .ok (.ifCond .ne 14, 3) := by decide +kernel
theorem dX8_go_22 : decode cX8_go 22 = .ok (.new 130, 3) := by decide +kernel
theorem dX8_go_25 : decode cX8_go 25 = .ok (.dup, 1) := by decide +kernel
theorem dX8_go_26 : decode cX8_go 26 = .ok (.ldc_w 262, 3) := by decide +kernel
theorem dX8_go_29 : decode cX8_go 29 = .ok (.invokespecial 134, 3) := by decide +kernel
theorem dX8_go_32 : decode cX8_go 32 = .ok (.athrow, 1) := by decide +kernel
theorem dX8_go_33 : decode cX8_go 33 = .ok (.iload_n 2, 1) := by decide +kernel
theorem dX8_go_34 : decode cX8_go 34 = .ok (.bipush 97, 2) := by decide +kernel
theorem dX8_go_36 : decode cX8_go 36 = .ok (.if_icmp .eq 20, 3) := by decide +kernel
theorem dX8_go_39 : decode cX8_go 39 = .ok (.iload_n 2, 1) := by decide +kernel
theorem dX8_go_40 : decode cX8_go 40 = .ok (.bipush 98, 2) := by decide +kernel
theorem dX8_go_42 : decode cX8_go 42 = .ok (.if_icmp .eq 14, 3) := by decide +kernel
theorem dX8_go_45 : decode cX8_go 45 = .ok (.new 63, 3) := by decide +kernel
theorem dX8_go_48 : decode cX8_go 48 = .ok (.dup, 1) := by decide +kernel
theorem dX8_go_49 : decode cX8_go 49 = .ok (.ldc_w 264, 3) := by decide +kernel
theorem dX8_go_52 : decode cX8_go 52 = .ok (.invokespecial 67, 3) := by decide +kernel
theorem dX8_go_55 : decode cX8_go 55 = .ok (.athrow, 1) := by decide +kernel
theorem dX8_go_56 : decode cX8_go 56 = .ok (.aload_n 0, 1) := by decide +kernel
theorem dX8_go_57 : decode cX8_go 57 = .ok (.getfield 38, 3) := by decide +kernel
theorem dX8_go_60 : decode cX8_go 60 = .ok (.iload_n 1, 1) := by decide +kernel
theorem dX8_go_61 : decode cX8_go 61 = .ok (.iload_n 2, 1) := by decide +kernel
theorem dX8_go_62 : decode cX8_go 62 = .ok (.bipush 97, 2) := by decide +kernel
theorem dX8_go_64 : decode cX8_go 64 = .ok (.if_icmp .ne 7, 3) := by decide +kernel
theorem dX8_go_67 : decode cX8_go 67 = .ok (.iconst 0, 1) := by decide +kernel
theorem dX8_go_68 : decode cX8_go 68 = .ok (.goto 4, 3) := by decide +kernel
theorem dX8_go_71 : decode cX8_go 71 = .ok (.iconst 1, 1) := by decide +kernel
theorem dX8_go_72 : decode cX8_go 72 = .ok (.iload_n 3, 1) := by decide +kernel
theorem dX8_go_73 : decode cX8_go 73 = .ok (.invokevirtual 266, 3) := by decide +kernel
theorem dX8_go_76 : decode cX8_go 76 = .ok (.ireturn, 1) := by decide +kernel
set_option maxRecDepth 20000 in
theorem ggX8_accepts_X8_isWord : GoodIn wsX8_accepts wsX8_isWord := goodIn_r _ [9] (by decide +kernel) (by decide +kernel)
set_option maxRecDepth 20000 in
theorem gX8_accepts_X8_isWord : GoodIn wsX8_accepts (va_wsS RX8 270 yX8_isWord wsX8_isWord) := goodIn_app (goodIn_of _ (by decide +kernel)) ggX8_accepts_X8_isWord
set_option maxRecDepth 20000 in
theorem ggX8_accepts_X3_endsWell : GoodIn wsX8_accepts wsX3_endsWell := goodIn_r _ [14, 15, 16, 17, 18, 13, 19, 20, 8, 21, 22, 23, 32, 33, 34] (by decide +kernel) (by decide +kernel)
set_option maxRecDepth 20000 in
theorem gX8_accepts_X3_endsWell : GoodIn wsX8_accepts (wsV RX8 278 RX3 yX3_endsWell wsX3_endsWell) := goodIn_app (goodIn_of _ (by decide +kernel)) ggX8_accepts_X3_endsWell
theorem dX8_accepts_0 : decode cX8_accepts 0 = .ok (.iload_n 1, 1) := by decide +kernel
theorem dX8_accepts_1 : decode cX8_accepts 1 = .ok (.iload_n 2, 1) := by decide +kernel
theorem dX8_accepts_2 : decode cX8_accepts 2 = .ok (.invokestatic 270, 3) := by decide +kernel
theorem dX8_accepts_5 : decode cX8_accepts 5 = .ok (.ifCond .ne 14, 3) := by decide +kernel
theorem dX8_accepts_8 : decode cX8_accepts 8 = .ok (.new 63, 3) := by decide +kernel
theorem dX8_accepts_11 : decode cX8_accepts 11 = .ok (.dup, 1) := by decide +kernel
theorem dX8_accepts_12 : decode cX8_accepts 12 = .ok (.ldc_w 274, 3) := by decide +kernel
theorem dX8_accepts_15 : decode cX8_accepts 15 = .ok (.invokespecial 67, 3) := by decide +kernel
theorem dX8_accepts_18 : decode cX8_accepts 18 = .ok (.athrow, 1) := by decide +kernel
theorem dX8_accepts_19 : decode cX8_accepts 19 = .ok (.aload_n 0, 1) := by decide +kernel
theorem dX8_accepts_20 : decode cX8_accepts 20 = .ok (.getfield 38, 3) := by decide +kernel
theorem dX8_accepts_23 : decode cX8_accepts 23 = .ok (.getfield 253, 3) := by decide +kernel
theorem dX8_accepts_26 : decode cX8_accepts 26 = .ok (.ifCond .ne 14, 3) := by decide +kernel
theorem dX8_accepts_29 : decode cX8_accepts 29 = .ok (.new 96, 3) := by decide +kernel
theorem dX8_accepts_32 : decode cX8_accepts 32 = .ok (.dup, 1) := by decide +kernel
theorem dX8_accepts_33 : decode cX8_accepts 33 = .ok (.ldc_w 276, 3) := by decide +kernel
theorem dX8_accepts_36 : decode cX8_accepts 36 = .ok (.invokespecial 100, 3) := by decide +kernel
theorem dX8_accepts_39 : decode cX8_accepts 39 = .ok (.athrow, 1) := by decide +kernel
theorem dX8_accepts_40 : decode cX8_accepts 40 = .ok (.aload_n 0, 1) := by decide +kernel
theorem dX8_accepts_41 : decode cX8_accepts 41 = .ok (.getfield 38, 3) := by decide +kernel
theorem dX8_accepts_44 : decode cX8_accepts 44 = .ok (.iconst 0, 1) := by decide +kernel
theorem dX8_accepts_45 : decode cX8_accepts 45 = .ok (.iload_n 1, 1) := by decide +kernel
theorem dX8_accepts_46 : decode cX8_accepts 46 = .ok (.iload_n 2, 1) := by decide +kernel
theorem dX8_accepts_47 : decode cX8_accepts 47 = .ok (.invokevirtual 278, 3) := by decide +kernel
theorem dX8_accepts_50 : decode cX8_accepts 50 = .ok (.ireturn, 1) := by decide +kernel
set_option maxRecDepth 20000 in
theorem ggX8_apart_X3_isState : GoodIn wsX8_apart wsX3_isState := goodIn_r _ [10, 11, 38, 39, 40] (by decide +kernel) (by decide +kernel)
set_option maxRecDepth 20000 in
theorem gX8_apart_X3_isState : GoodIn wsX8_apart (wsV RX8 259 RX3 yX3_isState wsX3_isState) := goodIn_app (goodIn_of _ (by decide +kernel)) ggX8_apart_X3_isState
set_option maxRecDepth 20000 in
theorem ggX8_apart_X3_lengthApart : GoodIn wsX8_apart wsX3_lengthApart := goodIn_r _ [15, 11, 16, 17, 18, 9, 19, 20, 21, 22, 23, 24, 25, 26, 27, 28, 29, 38, 39, 40] (by decide +kernel) (by decide +kernel)
set_option maxRecDepth 20000 in
theorem gX8_apart_X3_lengthApart : GoodIn wsX8_apart (wsV RX8 282 RX3 yX3_lengthApart wsX3_lengthApart) := goodIn_app (goodIn_of _ (by decide +kernel)) ggX8_apart_X3_lengthApart
theorem dX8_apart_0 : decode cX8_apart 0 = .ok (.aload_n 0, 1) := by decide +kernel
theorem dX8_apart_1 : decode cX8_apart 1 = .ok (.getfield 38, 3) := by decide +kernel
theorem dX8_apart_4 : decode cX8_apart 4 = .ok (.iload_n 1, 1) := by decide +kernel
theorem dX8_apart_5 : decode cX8_apart 5 = .ok (.invokevirtual 259, 3) := by decide +kernel
theorem dX8_apart_8 : decode cX8_apart 8 = .ok (.ifCond .eq 14, 3) := by decide +kernel
theorem dX8_apart_11 : decode cX8_apart 11 = .ok (.aload_n 0, 1) := by decide +kernel
theorem dX8_apart_12 : decode cX8_apart 12 = .ok (.getfield 38, 3) := by decide +kernel
theorem dX8_apart_15 : decode cX8_apart 15 = .ok (.iload_n 2, 1) := by decide +kernel
theorem dX8_apart_16 : decode cX8_apart 16 = .ok (.invokevirtual 259, 3) := by decide +kernel
theorem dX8_apart_19 : decode cX8_apart 19 = .ok (.ifCond .ne 14, 3) := by decide +kernel
theorem dX8_apart_22 : decode cX8_apart 22 = .ok (.new 130, 3) := by decide +kernel
theorem dX8_apart_25 : decode cX8_apart 25 = .ok (.dup, 1) := by decide +kernel
theorem dX8_apart_26 : decode cX8_apart 26 = .ok (.ldc_w 262, 3) := by decide +kernel
theorem dX8_apart_29 : decode cX8_apart 29 = .ok (.invokespecial 134, 3) := by decide +kernel
theorem dX8_apart_32 : decode cX8_apart 32 = .ok (.athrow, 1) := by decide +kernel
theorem dX8_apart_33 : decode cX8_apart 33 = .ok (.aload_n 0, 1) := by decide +kernel
theorem dX8_apart_34 : decode cX8_apart 34 = .ok (.getfield 38, 3) := by decide +kernel
theorem dX8_apart_37 : decode cX8_apart 37 = .ok (.iload_n 1, 1) := by decide +kernel
theorem dX8_apart_38 : decode cX8_apart 38 = .ok (.iload_n 2, 1) := by decide +kernel
theorem dX8_apart_39 : decode cX8_apart 39 = .ok (.invokevirtual 282, 3) := by decide +kernel
theorem dX8_apart_42 : decode cX8_apart 42 = .ok (.istore_n 3, 1) := by decide +kernel
theorem dX8_apart_43 : decode cX8_apart 43 = .ok (.iload_n 3, 1) := by decide +kernel
theorem dX8_apart_44 : decode cX8_apart 44 = .ok (.ifCond .ge 14, 3) := by decide +kernel
theorem dX8_apart_47 : decode cX8_apart 47 = .ok (.new 195, 3) := by decide +kernel
theorem dX8_apart_50 : decode cX8_apart 50 = .ok (.dup, 1) := by decide +kernel
theorem dX8_apart_51 : decode cX8_apart 51 = .ok (.ldc_w 286, 3) := by decide +kernel
theorem dX8_apart_54 : decode cX8_apart 54 = .ok (.invokespecial 199, 3) := by decide +kernel
theorem dX8_apart_57 : decode cX8_apart 57 = .ok (.athrow, 1) := by decide +kernel
theorem dX8_apart_58 : decode cX8_apart 58 = .ok (.iload_n 3, 1) := by decide +kernel
theorem dX8_apart_59 : decode cX8_apart 59 = .ok (.ireturn, 1) := by decide +kernel
set_option maxRecDepth 20000 in
theorem ggX8_leastStates_X3_reachedKinds : GoodIn wsX8_leastStates wsX3_reachedKinds := goodIn_r _ [8, 9, 10, 11, 12, 7, 13, 14, 15, 16, 17, 18, 19, 20, 21, 22, 23, 24, 25, 26, 27, 28, 29, 30, 31, 32, 33, 34, 35, 44, 45, 46] (by decide +kernel) (by decide +kernel)
set_option maxRecDepth 20000 in
theorem gX8_leastStates_X3_reachedKinds : GoodIn wsX8_leastStates (wsV RX8 288 RX3 yX3_reachedKinds wsX3_reachedKinds) := goodIn_app (goodIn_of _ (by decide +kernel)) ggX8_leastStates_X3_reachedKinds
theorem dX8_leastStates_0 : decode cX8_leastStates 0 = .ok (.aload_n 0, 1) := by decide +kernel
theorem dX8_leastStates_1 : decode cX8_leastStates 1 = .ok (.getfield 38, 3) := by decide +kernel
theorem dX8_leastStates_4 : decode cX8_leastStates 4 = .ok (.getfield 253, 3) := by decide +kernel
theorem dX8_leastStates_7 : decode cX8_leastStates 7 = .ok (.ifCond .ne 14, 3) := by decide +kernel
theorem dX8_leastStates_10 : decode cX8_leastStates 10 = .ok (.new 96, 3) := by decide +kernel
theorem dX8_leastStates_13 : decode cX8_leastStates 13 = .ok (.dup, 1) := by decide +kernel
theorem dX8_leastStates_14 : decode cX8_leastStates 14 = .ok (.ldc_w 276, 3) := by decide +kernel
theorem dX8_leastStates_17 : decode cX8_leastStates 17 = .ok (.invokespecial 100, 3) := by decide +kernel
theorem dX8_leastStates_20 : decode cX8_leastStates 20 = .ok (.athrow, 1) := by decide +kernel
theorem dX8_leastStates_21 : decode cX8_leastStates 21 = .ok (.aload_n 0, 1) := by decide +kernel
theorem dX8_leastStates_22 : decode cX8_leastStates 22 = .ok (.getfield 38, 3) := by decide +kernel
theorem dX8_leastStates_25 : decode cX8_leastStates 25 = .ok (.invokevirtual 288, 3) := by decide +kernel
theorem dX8_leastStates_28 : decode cX8_leastStates 28 = .ok (.ireturn, 1) := by decide +kernel
set_option maxRecDepth 20000 in
theorem ggX8_sample_X8_isWord : GoodIn wsX8_sample wsX8_isWord := goodIn_r _ [11] (by decide +kernel) (by decide +kernel)
set_option maxRecDepth 20000 in
theorem gX8_sample_X8_isWord : GoodIn wsX8_sample (va_wsS RX8 270 yX8_isWord wsX8_isWord) := goodIn_app (goodIn_of _ (by decide +kernel)) ggX8_sample_X8_isWord
set_option maxRecDepth 20000 in
theorem ggX8_sample_X7_has : GoodIn wsX8_sample wsX7_has := goodIn_r _ [16, 17, 18, 19, 20, 10, 21, 37, 38, 39, 40, 41, 42] (by decide +kernel) (by decide +kernel)
set_option maxRecDepth 20000 in
theorem gX8_sample_X7_has : GoodIn wsX8_sample (wsV RX8 291 RX7 yX7_has wsX7_has) := goodIn_app (goodIn_of _ (by decide +kernel)) ggX8_sample_X7_has
set_option maxRecDepth 20000 in
theorem ggX8_sample_X7_add : GoodIn wsX8_sample wsX7_add := goodIn_r _ [25, 18, 17, 19, 26, 27, 10, 28, 37, 38, 39, 40, 41, 42] (by decide +kernel) (by decide +kernel)
set_option maxRecDepth 20000 in
theorem gX8_sample_X7_add : GoodIn wsX8_sample (wsV RX8 299 RX7 yX7_add wsX7_add) := goodIn_app (goodIn_of _ (by decide +kernel)) ggX8_sample_X7_add
theorem dX8_sample_0 : decode cX8_sample 0 = .ok (.iload_n 1, 1) := by decide +kernel
theorem dX8_sample_1 : decode cX8_sample 1 = .ok (.iload_n 2, 1) := by decide +kernel
theorem dX8_sample_2 : decode cX8_sample 2 = .ok (.invokestatic 270, 3) := by decide +kernel
theorem dX8_sample_5 : decode cX8_sample 5 = .ok (.ifCond .ne 14, 3) := by decide +kernel
theorem dX8_sample_8 : decode cX8_sample 8 = .ok (.new 63, 3) := by decide +kernel
theorem dX8_sample_11 : decode cX8_sample 11 = .ok (.dup, 1) := by decide +kernel
theorem dX8_sample_12 : decode cX8_sample 12 = .ok (.ldc_w 274, 3) := by decide +kernel
theorem dX8_sample_15 : decode cX8_sample 15 = .ok (.invokespecial 67, 3) := by decide +kernel
theorem dX8_sample_18 : decode cX8_sample 18 = .ok (.athrow, 1) := by decide +kernel
theorem dX8_sample_19 : decode cX8_sample 19 = .ok (.aload_n 0, 1) := by decide +kernel
theorem dX8_sample_20 : decode cX8_sample 20 = .ok (.getfield 45, 3) := by decide +kernel
theorem dX8_sample_23 : decode cX8_sample 23 = .ok (.iload_n 1, 1) := by decide +kernel
theorem dX8_sample_24 : decode cX8_sample 24 = .ok (.iload_n 2, 1) := by decide +kernel
theorem dX8_sample_25 : decode cX8_sample 25 = .ok (.invokevirtual 291, 3) := by decide +kernel
theorem dX8_sample_28 : decode cX8_sample 28 = .ok (.ifCond .eq 14, 3) := by decide +kernel
theorem dX8_sample_31 : decode cX8_sample 31 = .ok (.new 96, 3) := by decide +kernel
theorem dX8_sample_34 : decode cX8_sample 34 = .ok (.dup, 1) := by decide +kernel
theorem dX8_sample_35 : decode cX8_sample 35 = .ok (.ldc_w 294, 3) := by decide +kernel
theorem dX8_sample_38 : decode cX8_sample 38 = .ok (.invokespecial 100, 3) := by decide +kernel
theorem dX8_sample_41 : decode cX8_sample 41 = .ok (.athrow, 1) := by decide +kernel
theorem dX8_sample_42 : decode cX8_sample 42 = .ok (.aload_n 0, 1) := by decide +kernel
theorem dX8_sample_43 : decode cX8_sample 43 = .ok (.getfield 45, 3) := by decide +kernel
theorem dX8_sample_46 : decode cX8_sample 46 = .ok (.getfield 296, 3) := by decide +kernel
theorem dX8_sample_49 : decode cX8_sample 49 = .ok (.bipush 12, 2) := by decide +kernel
theorem dX8_sample_51 : decode cX8_sample 51 = .ok (.if_icmp .lt 14, 3) := by decide +kernel
theorem dX8_sample_54 : decode cX8_sample 54 = .ok (.new 101, 3) := by decide +kernel
theorem dX8_sample_57 : decode cX8_sample 57 = .ok (.dup, 1) := by decide +kernel
theorem dX8_sample_58 : decode cX8_sample 58 = .ok (.ldc_w 297, 3) := by decide +kernel
theorem dX8_sample_61 : decode cX8_sample 61 = .ok (.invokespecial 105, 3) := by decide +kernel
theorem dX8_sample_64 : decode cX8_sample 64 = .ok (.athrow, 1) := by decide +kernel
theorem dX8_sample_65 : decode cX8_sample 65 = .ok (.aload_n 0, 1) := by decide +kernel
theorem dX8_sample_66 : decode cX8_sample 66 = .ok (.getfield 45, 3) := by decide +kernel
theorem dX8_sample_69 : decode cX8_sample 69 = .ok (.iload_n 1, 1) := by decide +kernel
theorem dX8_sample_70 : decode cX8_sample 70 = .ok (.iload_n 2, 1) := by decide +kernel
theorem dX8_sample_71 : decode cX8_sample 71 = .ok (.iload_n 3, 1) := by decide +kernel
theorem dX8_sample_72 : decode cX8_sample 72 = .ok (.invokevirtual 299, 3) := by decide +kernel
theorem dX8_sample_75 : decode cX8_sample 75 = .ok (.ireturn, 1) := by decide +kernel
set_option maxRecDepth 20000 in
theorem ggX8_fits_X7_areToldBy : GoodIn wsX8_fits wsX7_areToldBy := goodIn_r _ [9, 10, 11, 12, 13, 14, 15, 16, 17, 18, 19, 20, 21, 22, 23, 24, 25, 26, 27, 28, 40, 41, 42, 43, 44, 45, 37, 38, 39] (by decide +kernel) (by decide +kernel)
set_option maxRecDepth 20000 in
theorem gX8_fits_X7_areToldBy : GoodIn wsX8_fits (wsV RX8 302 RX7 yX7_areToldBy wsX7_areToldBy) := goodIn_app (goodIn_of _ (by decide +kernel)) ggX8_fits_X7_areToldBy
theorem dX8_fits_0 : decode cX8_fits 0 = .ok (.aload_n 0, 1) := by decide +kernel
theorem dX8_fits_1 : decode cX8_fits 1 = .ok (.getfield 38, 3) := by decide +kernel
theorem dX8_fits_4 : decode cX8_fits 4 = .ok (.getfield 253, 3) := by decide +kernel
theorem dX8_fits_7 : decode cX8_fits 7 = .ok (.ifCond .ne 14, 3) := by decide +kernel
theorem dX8_fits_10 : decode cX8_fits 10 = .ok (.new 96, 3) := by decide +kernel
theorem dX8_fits_13 : decode cX8_fits 13 = .ok (.dup, 1) := by decide +kernel
theorem dX8_fits_14 : decode cX8_fits 14 = .ok (.ldc_w 276, 3) := by decide +kernel
theorem dX8_fits_17 : decode cX8_fits 17 = .ok (.invokespecial 100, 3) := by decide +kernel
theorem dX8_fits_20 : decode cX8_fits 20 = .ok (.athrow, 1) := by decide +kernel
theorem dX8_fits_21 : decode cX8_fits 21 = .ok (.aload_n 0, 1) := by decide +kernel
theorem dX8_fits_22 : decode cX8_fits 22 = .ok (.getfield 45, 3) := by decide +kernel
theorem dX8_fits_25 : decode cX8_fits 25 = .ok (.aload_n 0, 1) := by decide +kernel
theorem dX8_fits_26 : decode cX8_fits 26 = .ok (.getfield 38, 3) := by decide +kernel
theorem dX8_fits_29 : decode cX8_fits 29 = .ok (.invokevirtual 302, 3) := by decide +kernel
theorem dX8_fits_32 : decode cX8_fits 32 = .ok (.ireturn, 1) := by decide +kernel
set_option maxRecDepth 20000 in
theorem ggX8_fewest_X7_fewestStates : GoodIn wsX8_fewest wsX7_fewestStates := goodIn_r _ [8, 9, 10, 11, 12, 7, 13, 14, 15, 16, 17, 18, 19, 20, 21, 22, 23, 24, 25, 26, 27, 28, 29, 30, 31, 32, 33, 42, 43, 44, 45, 46, 47] (by decide +kernel) (by decide +kernel)
set_option maxRecDepth 20000 in
theorem gX8_fewest_X7_fewestStates : GoodIn wsX8_fewest (wsV RX8 306 RX7 yX7_fewestStates wsX7_fewestStates) := goodIn_app (goodIn_of _ (by decide +kernel)) ggX8_fewest_X7_fewestStates
theorem dX8_fewest_0 : decode cX8_fewest 0 = .ok (.aload_n 0, 1) := by decide +kernel
theorem dX8_fewest_1 : decode cX8_fewest 1 = .ok (.getfield 45, 3) := by decide +kernel
theorem dX8_fewest_4 : decode cX8_fewest 4 = .ok (.invokevirtual 306, 3) := by decide +kernel
theorem dX8_fewest_7 : decode cX8_fewest 7 = .ok (.istore_n 1, 1) := by decide +kernel
theorem dX8_fewest_8 : decode cX8_fewest 8 = .ok (.iload_n 1, 1) := by decide +kernel
theorem dX8_fewest_9 : decode cX8_fewest 9 = .ok (.iconst 3, 1) := by decide +kernel
theorem dX8_fewest_10 : decode cX8_fewest 10 = .ok (.if_icmp .le 14, 3) := by decide +kernel
theorem dX8_fewest_13 : decode cX8_fewest 13 = .ok (.new 195, 3) := by decide +kernel
theorem dX8_fewest_16 : decode cX8_fewest 16 = .ok (.dup, 1) := by decide +kernel
theorem dX8_fewest_17 : decode cX8_fewest 17 = .ok (.ldc_w 309, 3) := by decide +kernel
theorem dX8_fewest_20 : decode cX8_fewest 20 = .ok (.invokespecial 199, 3) := by decide +kernel
theorem dX8_fewest_23 : decode cX8_fewest 23 = .ok (.athrow, 1) := by decide +kernel
theorem dX8_fewest_24 : decode cX8_fewest 24 = .ok (.iload_n 1, 1) := by decide +kernel
theorem dX8_fewest_25 : decode cX8_fewest 25 = .ok (.ireturn, 1) := by decide +kernel
set_option maxRecDepth 20000 in
theorem ggX8_secret_X0_isCode : GoodIn wsX8_secret wsX0_isCode := goodIn_r _ [7] (by decide +kernel) (by decide +kernel)
set_option maxRecDepth 20000 in
theorem gX8_secret_X0_isCode : GoodIn wsX8_secret (va_wsS RX8 311 yX0_isCode wsX0_isCode) := goodIn_app (goodIn_of _ (by decide +kernel)) ggX8_secret_X0_isCode
set_option maxRecDepth 20000 in
theorem ggX8_secret_X0_startAnew : GoodIn wsX8_secret wsX0_startAnew := goodIn_r _ [11, 12, 13, 14, 15, 16, 17, 6, 18, 27, 28, 29] (by decide +kernel) (by decide +kernel)
set_option maxRecDepth 20000 in
theorem gX8_secret_X0_startAnew : GoodIn wsX8_secret (wsV RX8 319 RX0 yX0_startAnew wsX0_startAnew) := goodIn_app (goodIn_of _ (by decide +kernel)) ggX8_secret_X0_startAnew
theorem dX8_secret_0 : decode cX8_secret 0 = .ok (.iload_n 1, 1) := by decide +kernel
theorem dX8_secret_1 : decode cX8_secret 1 = .ok (.invokestatic 311, 3) := by decide +kernel
theorem dX8_secret_4 : decode cX8_secret 4 = .ok (.ifCond .ne 14, 3) := by decide +kernel
theorem dX8_secret_7 : decode cX8_secret 7 = .ok (.new 63, 3) := by decide +kernel
theorem dX8_secret_10 : decode cX8_secret 10 = .ok (.dup, 1) := by decide +kernel
theorem dX8_secret_11 : decode cX8_secret 11 = .ok (.ldc_w 314, 3) := by decide +kernel
theorem dX8_secret_14 : decode cX8_secret 14 = .ok (.invokespecial 67, 3) := by decide +kernel
theorem dX8_secret_17 : decode cX8_secret 17 = .ok (.athrow, 1) := by decide +kernel
theorem dX8_secret_18 : decode cX8_secret 18 = .ok (.aload_n 0, 1) := by decide +kernel
theorem dX8_secret_19 : decode cX8_secret 19 = .ok (.getfield 52, 3) := by decide +kernel
theorem dX8_secret_22 : decode cX8_secret 22 = .ok (.getfield 316, 3) := by decide +kernel
theorem dX8_secret_25 : decode cX8_secret 25 = .ok (.istore_n 2, 1) := by decide +kernel
theorem dX8_secret_26 : decode cX8_secret 26 = .ok (.aload_n 0, 1) := by decide +kernel
theorem dX8_secret_27 : decode cX8_secret 27 = .ok (.getfield 52, 3) := by decide +kernel
theorem dX8_secret_30 : decode cX8_secret 30 = .ok (.iload_n 1, 1) := by decide +kernel
theorem dX8_secret_31 : decode cX8_secret 31 = .ok (.invokevirtual 319, 3) := by decide +kernel
theorem dX8_secret_34 : decode cX8_secret 34 = .ok (.iload_n 2, 1) := by decide +kernel
theorem dX8_secret_35 : decode cX8_secret 35 = .ok (.ireturn, 1) := by decide +kernel
set_option maxRecDepth 20000 in
theorem ggX8_guess_X0_isCode : GoodIn wsX8_guess wsX0_isCode := goodIn_r _ [9] (by decide +kernel) (by decide +kernel)
set_option maxRecDepth 20000 in
theorem gX8_guess_X0_isCode : GoodIn wsX8_guess (va_wsS RX8 311 yX0_isCode wsX0_isCode) := goodIn_app (goodIn_of _ (by decide +kernel)) ggX8_guess_X0_isCode
set_option maxRecDepth 20000 in
theorem ggX8_guess_X0_giveHint : GoodIn wsX8_guess wsX0_giveHint := goodIn_r _ [13, 14, 15, 16, 17, 18, 19, 8, 20, 21, 22, 23, 24, 25, 26, 27, 28, 29, 30, 31, 32, 33, 42, 43, 44] (by decide +kernel) (by decide +kernel)
set_option maxRecDepth 20000 in
theorem gX8_guess_X0_giveHint : GoodIn wsX8_guess (wsV RX8 322 RX0 yX0_giveHint wsX0_giveHint) := goodIn_app (goodIn_of _ (by decide +kernel)) ggX8_guess_X0_giveHint
theorem dX8_guess_0 : decode cX8_guess 0 = .ok (.iload_n 1, 1) := by decide +kernel
theorem dX8_guess_1 : decode cX8_guess 1 = .ok (.invokestatic 311, 3) := by decide +kernel
theorem dX8_guess_4 : decode cX8_guess 4 = .ok (.ifCond .ne 14, 3) := by decide +kernel
theorem dX8_guess_7 : decode cX8_guess 7 = .ok (.new 63, 3) := by decide +kernel
theorem dX8_guess_10 : decode cX8_guess 10 = .ok (.dup, 1) := by decide +kernel
theorem dX8_guess_11 : decode cX8_guess 11 = .ok (.ldc_w 314, 3) := by decide +kernel
theorem dX8_guess_14 : decode cX8_guess 14 = .ok (.invokespecial 67, 3) := by decide +kernel
theorem dX8_guess_17 : decode cX8_guess 17 = .ok (.athrow, 1) := by decide +kernel
theorem dX8_guess_18 : decode cX8_guess 18 = .ok (.aload_n 0, 1) := by decide +kernel
theorem dX8_guess_19 : decode cX8_guess 19 = .ok (.getfield 52, 3) := by decide +kernel
theorem dX8_guess_22 : decode cX8_guess 22 = .ok (.getfield 316, 3) := by decide +kernel
theorem dX8_guess_25 : decode cX8_guess 25 = .ok (.bipush 20, 2) := by decide +kernel
theorem dX8_guess_27 : decode cX8_guess 27 = .ok (.if_icmp .lt 14, 3) := by decide +kernel
theorem dX8_guess_30 : decode cX8_guess 30 = .ok (.new 101, 3) := by decide +kernel
theorem dX8_guess_33 : decode cX8_guess 33 = .ok (.dup, 1) := by decide +kernel
theorem dX8_guess_34 : decode cX8_guess 34 = .ok (.ldc_w 320, 3) := by decide +kernel
theorem dX8_guess_37 : decode cX8_guess 37 = .ok (.invokespecial 105, 3) := by decide +kernel
theorem dX8_guess_40 : decode cX8_guess 40 = .ok (.athrow, 1) := by decide +kernel
theorem dX8_guess_41 : decode cX8_guess 41 = .ok (.aload_n 0, 1) := by decide +kernel
theorem dX8_guess_42 : decode cX8_guess 42 = .ok (.getfield 52, 3) := by decide +kernel
theorem dX8_guess_45 : decode cX8_guess 45 = .ok (.iload_n 1, 1) := by decide +kernel
theorem dX8_guess_46 : decode cX8_guess 46 = .ok (.invokevirtual 322, 3) := by decide +kernel
theorem dX8_guess_49 : decode cX8_guess 49 = .ok (.ireturn, 1) := by decide +kernel
set_option maxRecDepth 20000 in
theorem ggX8_possible_J13_bitCount_95d88 : GoodIn wsX8_possible wsJ13_bitCount_95d88 := goodIn_r _ [5, 6, 7, 8] (by decide +kernel) (by decide +kernel)
set_option maxRecDepth 20000 in
theorem gX8_possible_J13_bitCount_95d88 : GoodIn wsX8_possible (va_wsS RX8 329 yJ13_bitCount_95d88 wsJ13_bitCount_95d88) := goodIn_app (goodIn_of _ (by decide +kernel)) ggX8_possible_J13_bitCount_95d88
theorem dX8_possible_0 : decode cX8_possible 0 = .ok (.aload_n 0, 1) := by decide +kernel
theorem dX8_possible_1 : decode cX8_possible 1 = .ok (.getfield 52, 3) := by decide +kernel
theorem dX8_possible_4 : decode cX8_possible 4 = .ok (.getfield 325, 3) := by decide +kernel
theorem dX8_possible_7 : decode cX8_possible 7 = .ok (.invokestatic 329, 3) := by decide +kernel
theorem dX8_possible_10 : decode cX8_possible 10 = .ok (.ireturn, 1) := by decide +kernel
set_option maxRecDepth 20000 in
theorem ggX8_nextCode_X0_leastLeft : GoodIn wsX8_nextCode wsX0_leastLeft := goodIn_r _ [6, 7, 8, 9, 5, 10, 11, 12, 13, 14, 23, 24, 25] (by decide +kernel) (by decide +kernel)
set_option maxRecDepth 20000 in
theorem gX8_nextCode_X0_leastLeft : GoodIn wsX8_nextCode (wsV RX8 334 RX0 yX0_leastLeft wsX0_leastLeft) := goodIn_app (goodIn_of _ (by decide +kernel)) ggX8_nextCode_X0_leastLeft
theorem dX8_nextCode_0 : decode cX8_nextCode 0 = .ok (.aload_n 0, 1) := by decide +kernel
theorem dX8_nextCode_1 : decode cX8_nextCode 1 = .ok (.getfield 52, 3) := by decide +kernel
theorem dX8_nextCode_4 : decode cX8_nextCode 4 = .ok (.invokevirtual 334, 3) := by decide +kernel
theorem dX8_nextCode_7 : decode cX8_nextCode 7 = .ok (.ireturn, 1) := by decide +kernel
set_option maxRecDepth 20000 in
theorem ggX8_things_X4_startAnew : GoodIn wsX8_things wsX4_startAnew := goodIn_r _ [8, 9, 10, 11, 12, 13, 22, 23, 24] (by decide +kernel) (by decide +kernel)
set_option maxRecDepth 20000 in
theorem gX8_things_X4_startAnew : GoodIn wsX8_things (wsV RX8 340 RX4 yX4_startAnew wsX4_startAnew) := goodIn_app (goodIn_of _ (by decide +kernel)) ggX8_things_X4_startAnew
theorem dX8_things_0 : decode cX8_things 0 = .ok (.iload_n 1, 1) := by decide +kernel
theorem dX8_things_1 : decode cX8_things 1 = .ok (.iconst 2, 1) := by decide +kernel
theorem dX8_things_2 : decode cX8_things 2 = .ok (.if_icmp .lt 8, 3) := by decide +kernel
theorem dX8_things_5 : decode cX8_things 5 = .ok (.iload_n 1, 1) := by decide +kernel
theorem dX8_things_6 : decode cX8_things 6 = .ok (.iconst 5, 1) := by decide +kernel
theorem dX8_things_7 : decode cX8_things 7 = .ok (.if_icmp .le 14, 3) := by decide +kernel
theorem dX8_things_10 : decode cX8_things 10 = .ok (.new 63, 3) := by decide +kernel
theorem dX8_things_13 : decode cX8_things 13 = .ok (.dup, 1) := by decide +kernel
theorem dX8_things_14 : decode cX8_things 14 = .ok (.ldc_w 337, 3) := by decide +kernel
theorem dX8_things_17 : decode cX8_things 17 = .ok (.invokespecial 67, 3) := by decide +kernel
theorem dX8_things_20 : decode cX8_things 20 = .ok (.athrow, 1) := by decide +kernel
theorem dX8_things_21 : decode cX8_things 21 = .ok (.aload_n 0, 1) := by decide +kernel
theorem dX8_things_22 : decode cX8_things 22 = .ok (.getfield 59, 3) := by decide +kernel
theorem dX8_things_25 : decode cX8_things 25 = .ok (.getfield 339, 3) := by decide +kernel
theorem dX8_things_28 : decode cX8_things 28 = .ok (.istore_n 2, 1) := by decide +kernel
theorem dX8_things_29 : decode cX8_things 29 = .ok (.aload_n 0, 1) := by decide +kernel
theorem dX8_things_30 : decode cX8_things 30 = .ok (.getfield 59, 3) := by decide +kernel
theorem dX8_things_33 : decode cX8_things 33 = .ok (.iload_n 1, 1) := by decide +kernel
theorem dX8_things_34 : decode cX8_things 34 = .ok (.invokevirtual 340, 3) := by decide +kernel
theorem dX8_things_37 : decode cX8_things 37 = .ok (.iload_n 2, 1) := by decide +kernel
theorem dX8_things_38 : decode cX8_things 38 = .ok (.ireturn, 1) := by decide +kernel
set_option maxRecDepth 20000 in
theorem ggX8_ahead_X4_isThing : GoodIn wsX8_ahead wsX4_isThing := goodIn_r _ [10, 11, 44, 45, 46] (by decide +kernel) (by decide +kernel)
set_option maxRecDepth 20000 in
theorem gX8_ahead_X4_isThing : GoodIn wsX8_ahead (wsV RX8 341 RX4 yX4_isThing wsX4_isThing) := goodIn_app (goodIn_of _ (by decide +kernel)) ggX8_ahead_X4_isThing
set_option maxRecDepth 20000 in
theorem ggX8_ahead_X4_ways : GoodIn wsX8_ahead wsX4_ways := goodIn_r _ [15, 16, 17, 18, 19, 20, 21, 22, 9, 23, 24, 25, 26, 27, 28, 29, 30, 11, 31, 32, 33, 34, 44, 45, 46] (by decide +kernel) (by decide +kernel)
set_option maxRecDepth 20000 in
theorem gX8_ahead_X4_ways : GoodIn wsX8_ahead (wsV RX8 346 RX4 yX4_ways wsX4_ways) := goodIn_app (goodIn_of _ (by decide +kernel)) ggX8_ahead_X4_ways
set_option maxRecDepth 20000 in
theorem ggX8_ahead_X4_line : GoodIn wsX8_ahead wsX4_line := goodIn_r _ [23, 16, 17, 18, 19, 24, 25, 44, 45, 46] (by decide +kernel) (by decide +kernel)
set_option maxRecDepth 20000 in
theorem gX8_ahead_X4_line : GoodIn wsX8_ahead (wsV RX8 351 RX4 yX4_line wsX4_line) := goodIn_app (goodIn_of _ (by decide +kernel)) ggX8_ahead_X4_line
theorem dX8_ahead_0 : decode cX8_ahead 0 = .ok (.aload_n 0, 1) := by decide +kernel
theorem dX8_ahead_1 : decode cX8_ahead 1 = .ok (.getfield 59, 3) := by decide +kernel
theorem dX8_ahead_4 : decode cX8_ahead 4 = .ok (.iload_n 1, 1) := by decide +kernel
theorem dX8_ahead_5 : decode cX8_ahead 5 = .ok (.invokevirtual 341, 3) := by decide +kernel
theorem dX8_ahead_8 : decode cX8_ahead 8 = .ok (.ifCond .eq 19, 3) := by decide +kernel
theorem dX8_ahead_11 : decode cX8_ahead 11 = .ok (.aload_n 0, 1) := by decide +kernel
theorem dX8_ahead_12 : decode cX8_ahead 12 = .ok (.getfield 59, 3) := by decide +kernel
theorem dX8_ahead_15 : decode cX8_ahead 15 = .ok (.iload_n 2, 1) := by decide +kernel
theorem dX8_ahead_16 : decode cX8_ahead 16 = .ok (.invokevirtual 341, 3) := by decide +kernel
theorem dX8_ahead_19 : decode cX8_ahead 19 = .ok (.ifCond .eq 8, 3) := by decide +kernel
theorem dX8_ahead_22 : decode cX8_ahead 22 = .ok (.iload_n 1, 1) := by decide +kernel
theorem dX8_ahead_23 : decode cX8_ahead 23 = .ok (.iload_n 2, 1) := by decide +kernel
theorem dX8_ahead_24 : decode cX8_ahead 24 = .ok (.if_icmp .ne 14, 3) := by decide +kernel
theorem dX8_ahead_27 : decode cX8_ahead 27 = .ok (.new 63, 3) := by decide +kernel
theorem dX8_ahead_30 : decode cX8_ahead 30 = .ok (.dup, 1) := by decide +kernel
theorem dX8_ahead_31 : decode cX8_ahead 31 = .ok (.ldc_w 344, 3) := by decide +kernel
theorem dX8_ahead_34 : decode cX8_ahead 34 = .ok (.invokespecial 67, 3) := by decide +kernel
theorem dX8_ahead_37 : decode cX8_ahead 37 = .ok (.athrow, 1) := by decide +kernel
theorem dX8_ahead_38 : decode cX8_ahead 38 = .ok (.aload_n 0, 1) := by decide +kernel
theorem dX8_ahead_39 : decode cX8_ahead 39 = .ok (.getfield 59, 3) := by decide +kernel
theorem dX8_ahead_42 : decode cX8_ahead 42 = .ok (.iload_n 1, 1) := by decide +kernel
theorem dX8_ahead_43 : decode cX8_ahead 43 = .ok (.iload_n 2, 1) := by decide +kernel
theorem dX8_ahead_44 : decode cX8_ahead 44 = .ok (.invokevirtual 346, 3) := by decide +kernel
theorem dX8_ahead_47 : decode cX8_ahead 47 = .ok (.istore_n 3, 1) := by decide +kernel
theorem dX8_ahead_48 : decode cX8_ahead 48 = .ok (.iload_n 3, 1) := by decide +kernel
theorem dX8_ahead_49 : decode cX8_ahead 49 = .ok (.ifCond .ne 14, 3) := by decide +kernel
theorem dX8_ahead_52 : decode cX8_ahead 52 = .ok (.new 96, 3) := by decide +kernel
theorem dX8_ahead_55 : decode cX8_ahead 55 = .ok (.dup, 1) := by decide +kernel
theorem dX8_ahead_56 : decode cX8_ahead 56 = .ok (.ldc_w 349, 3) := by decide +kernel
theorem dX8_ahead_59 : decode cX8_ahead 59 = .ok (.invokespecial 100, 3) := by decide +kernel
theorem dX8_ahead_62 : decode cX8_ahead 62 = .ok (.athrow, 1) := by decide +kernel
theorem dX8_ahead_63 : decode cX8_ahead 63 = .ok (.aload_n 0, 1) := by decide +kernel
theorem dX8_ahead_64 : decode cX8_ahead 64 = .ok (.getfield 59, 3) := by decide +kernel
theorem dX8_ahead_67 : decode cX8_ahead 67 = .ok (.iload_n 1, 1) := by decide +kernel
theorem dX8_ahead_68 : decode cX8_ahead 68 = .ok (.iload_n 2, 1) := by decide +kernel
theorem dX8_ahead_69 : decode cX8_ahead 69 = .ok (.invokevirtual 351, 3) := by decide +kernel
theorem dX8_ahead_72 : decode cX8_ahead 72 = .ok (.iload_n 3, 1) := by decide +kernel
theorem dX8_ahead_73 : decode cX8_ahead 73 = .ok (.ireturn, 1) := by decide +kernel
set_option maxRecDepth 20000 in
theorem ggX8_orders_X4_allWays : GoodIn wsX8_orders wsX4_allWays := goodIn_r _ [6, 7, 8, 9, 10, 11, 12, 13, 14, 5, 15, 16, 17, 18, 27, 28, 29] (by decide +kernel) (by decide +kernel)
set_option maxRecDepth 20000 in
theorem gX8_orders_X4_allWays : GoodIn wsX8_orders (wsV RX8 355 RX4 yX4_allWays wsX4_allWays) := goodIn_app (goodIn_of _ (by decide +kernel)) ggX8_orders_X4_allWays
theorem dX8_orders_0 : decode cX8_orders 0 = .ok (.aload_n 0, 1) := by decide +kernel
theorem dX8_orders_1 : decode cX8_orders 1 = .ok (.getfield 59, 3) := by decide +kernel
theorem dX8_orders_4 : decode cX8_orders 4 = .ok (.invokevirtual 355, 3) := by decide +kernel
theorem dX8_orders_7 : decode cX8_orders 7 = .ok (.ireturn, 1) := by decide +kernel
set_option maxRecDepth 20000 in
theorem ggX8_pair_X4_allWays : GoodIn wsX8_pair wsX4_allWays := goodIn_r _ [8, 9, 10, 11, 12, 13, 14, 15, 16, 7, 17, 18, 19, 20, 46, 47, 48] (by decide +kernel) (by decide +kernel)
set_option maxRecDepth 20000 in
theorem gX8_pair_X4_allWays : GoodIn wsX8_pair (wsV RX8 355 RX4 yX4_allWays wsX4_allWays) := goodIn_app (goodIn_of _ (by decide +kernel)) ggX8_pair_X4_allWays
set_option maxRecDepth 20000 in
theorem ggX8_pair_X4_bestPair : GoodIn wsX8_pair wsX4_bestPair := goodIn_r _ [24, 10, 25, 26, 27, 28, 29, 5, 6, 7, 8, 9, 11, 12, 13, 14, 15, 16, 17, 18, 19, 20, 30, 31, 32, 33, 34, 35, 36, 37, 46, 47, 48] (by decide +kernel) (by decide +kernel)
set_option maxRecDepth 20000 in
theorem gX8_pair_X4_bestPair : GoodIn wsX8_pair (wsV RX8 360 RX4 yX4_bestPair wsX4_bestPair) := goodIn_app (goodIn_of _ (by decide +kernel)) ggX8_pair_X4_bestPair
theorem dX8_pair_0 : decode cX8_pair 0 = .ok (.aload_n 0, 1) := by decide +kernel
theorem dX8_pair_1 : decode cX8_pair 1 = .ok (.getfield 59, 3) := by decide +kernel
theorem dX8_pair_4 : decode cX8_pair 4 = .ok (.invokevirtual 355, 3) := by decide +kernel
theorem dX8_pair_7 : decode cX8_pair 7 = .ok (.iconst 1, 1) := by decide +kernel
theorem dX8_pair_8 : decode cX8_pair 8 = .ok (.if_icmp .ne 14, 3) := by decide +kernel
theorem dX8_pair_11 : decode cX8_pair 11 = .ok (.new 195, 3) := by decide +kernel
theorem dX8_pair_14 : decode cX8_pair 14 = .ok (.dup, 1) := by decide +kernel
theorem dX8_pair_15 : decode cX8_pair 15 = .ok (.ldc_w 358, 3) := by decide +kernel
theorem dX8_pair_18 : decode cX8_pair 18 = .ok (.invokespecial 199, 3) := by decide +kernel
theorem dX8_pair_21 : decode cX8_pair 21 = .ok (.athrow, 1) := by decide +kernel
theorem dX8_pair_22 : decode cX8_pair 22 = .ok (.aload_n 0, 1) := by decide +kernel
theorem dX8_pair_23 : decode cX8_pair 23 = .ok (.getfield 59, 3) := by decide +kernel
theorem dX8_pair_26 : decode cX8_pair 26 = .ok (.invokevirtual 360, 3) := by decide +kernel
theorem dX8_pair_29 : decode cX8_pair 29 = .ok (.ireturn, 1) := by decide +kernel
set_option maxRecDepth 20000 in
theorem ggX8_checksum_X1_setAt : GoodIn wsX8_checksum wsX1_setAt := goodIn_r _ [12, 13, 14, 15, 16, 58, 59, 60, 61] (by decide +kernel) (by decide +kernel)
set_option maxRecDepth 20000 in
theorem gX8_checksum_X1_setAt : GoodIn wsX8_checksum (wsV RX8 135 RX1 yX1_setAt wsX1_setAt) := goodIn_app (goodIn_of _ (by decide +kernel)) ggX8_checksum_X1_setAt
set_option maxRecDepth 20000 in
theorem ggX8_checksum_X5_conflictsOf : GoodIn wsX8_checksum wsX5_conflictsOf := goodIn_r _ [21, 22, 14, 15, 16, 69, 70, 71, 72, 73, 74, 75, 76] (by decide +kernel) (by decide +kernel)
set_option maxRecDepth 20000 in
theorem gX8_checksum_X5_conflictsOf : GoodIn wsX8_checksum (wsV RX8 176 RX5 yX5_conflictsOf wsX5_conflictsOf) := goodIn_app (goodIn_of _ (by decide +kernel)) ggX8_checksum_X5_conflictsOf
set_option maxRecDepth 20000 in
theorem ggX8_checksum_X2_weightOf : GoodIn wsX8_checksum wsX2_weightOf := goodIn_r _ [27, 28, 14, 15, 16, 62, 63, 64, 65] (by decide +kernel) (by decide +kernel)
set_option maxRecDepth 20000 in
theorem gX8_checksum_X2_weightOf : GoodIn wsX8_checksum (wsV RX8 244 RX2 yX2_weightOf wsX2_weightOf) := goodIn_app (goodIn_of _ (by decide +kernel)) ggX8_checksum_X2_weightOf
set_option maxRecDepth 20000 in
theorem ggX8_checksum_J13_bitCount_95d88 : GoodIn wsX8_checksum wsJ13_bitCount_95d88 := goodIn_r _ [32, 33, 34, 35] (by decide +kernel) (by decide +kernel)
set_option maxRecDepth 20000 in
theorem gX8_checksum_J13_bitCount_95d88 : GoodIn wsX8_checksum (va_wsS RX8 329 yJ13_bitCount_95d88 wsJ13_bitCount_95d88) := goodIn_app (goodIn_of _ (by decide +kernel)) ggX8_checksum_J13_bitCount_95d88
set_option maxRecDepth 20000 in
theorem ggX8_checksum_X4_allWays : GoodIn wsX8_checksum wsX4_allWays := goodIn_r _ [40, 41, 42, 43, 15, 44, 45, 46, 47, 39, 48, 49, 14, 16, 77, 78, 79] (by decide +kernel) (by decide +kernel)
set_option maxRecDepth 20000 in
theorem gX8_checksum_X4_allWays : GoodIn wsX8_checksum (wsV RX8 355 RX4 yX4_allWays wsX4_allWays) := goodIn_app (goodIn_of _ (by decide +kernel)) ggX8_checksum_X4_allWays
theorem dX8_checksum_0 : decode cX8_checksum 0 = .ok (.ldc2_w 363, 3) := by decide +kernel
theorem dX8_checksum_3 : decode cX8_checksum 3 = .ok (.lstore_n 1, 1) := by decide +kernel
theorem dX8_checksum_4 : decode cX8_checksum 4 = .ok (.iconst 0, 1) := by decide +kernel
theorem dX8_checksum_5 : decode cX8_checksum 5 = .ok (.istore_n 3, 1) := by decide +kernel
theorem dX8_checksum_6 : decode cX8_checksum 6 = .ok (.iload_n 3, 1) := by decide +kernel
theorem dX8_checksum_7 : decode cX8_checksum 7 = .ok (.aload_n 0, 1) := by decide +kernel
theorem dX8_checksum_8 : decode cX8_checksum 8 = .ok (.getfield 20, 3) := by decide +kernel
theorem dX8_checksum_11 : decode cX8_checksum 11 = .ok (.getfield 70, 3) := by decide +kernel
theorem dX8_checksum_14 : decode cX8_checksum 14 = .ok (.if_icmp .ge 41, 3) := by decide +kernel
theorem dX8_checksum_17 : decode cX8_checksum 17 = .ok (.ldc2_w 365, 3) := by decide +kernel
theorem dX8_checksum_20 : decode cX8_checksum 20 = .ok (.lload_n 1, 1) := by decide +kernel
theorem dX8_checksum_21 : decode cX8_checksum 21 = .ok (.lmul, 1) := by decide +kernel
theorem dX8_checksum_22 : decode cX8_checksum 22 = .ok (.aload_n 0, 1) := by decide +kernel
theorem dX8_checksum_23 : decode cX8_checksum 23 = .ok (.getfield 20, 3) := by decide +kernel
theorem dX8_checksum_26 : decode cX8_checksum 26 = .ok (.iload_n 3, 1) := by decide +kernel
theorem dX8_checksum_27 : decode cX8_checksum 27 = .ok (.invokevirtual 135, 3) := by decide +kernel
theorem dX8_checksum_30 : decode cX8_checksum 30 = .ok (.i2l, 1) := by decide +kernel
theorem dX8_checksum_31 : decode cX8_checksum 31 = .ok (.ladd, 1) := by decide +kernel
theorem dX8_checksum_32 : decode cX8_checksum 32 = .ok (.lstore_n 1, 1) := by decide +kernel
theorem dX8_checksum_33 : decode cX8_checksum 33 = .ok (.ldc2_w 365, 3) := by decide +kernel
theorem dX8_checksum_36 : decode cX8_checksum 36 = .ok (.lload_n 1, 1) := by decide +kernel
theorem dX8_checksum_37 : decode cX8_checksum 37 = .ok (.lmul, 1) := by decide +kernel
theorem dX8_checksum_38 : decode cX8_checksum 38 = .ok (.aload_n 0, 1) := by decide +kernel
theorem dX8_checksum_39 : decode cX8_checksum 39 = .ok (.getfield 10, 3) := by decide +kernel
theorem dX8_checksum_42 : decode cX8_checksum 42 = .ok (.iload_n 3, 1) := by decide +kernel
theorem dX8_checksum_43 : decode cX8_checksum 43 = .ok (.invokevirtual 176, 3) := by decide +kernel
theorem dX8_checksum_46 : decode cX8_checksum 46 = .ok (.i2l, 1) := by decide +kernel
theorem dX8_checksum_47 : decode cX8_checksum 47 = .ok (.ladd, 1) := by decide +kernel
theorem dX8_checksum_48 : decode cX8_checksum 48 = .ok (.lstore_n 1, 1) := by decide +kernel
theorem dX8_checksum_49 : decode cX8_checksum 49 = .ok (.iinc 3 1, 3) := by decide +kernel
theorem dX8_checksum_52 : decode cX8_checksum 52 = .ok (.goto (-46), 3) := by decide +kernel
theorem dX8_checksum_55 : decode cX8_checksum 55 = .ok (.iconst 0, 1) := by decide +kernel
theorem dX8_checksum_56 : decode cX8_checksum 56 = .ok (.istore_n 3, 1) := by decide +kernel
theorem dX8_checksum_57 : decode cX8_checksum 57 = .ok (.iload_n 3, 1) := by decide +kernel
theorem dX8_checksum_58 : decode cX8_checksum 58 = .ok (.aload_n 0, 1) := by decide +kernel
theorem dX8_checksum_59 : decode cX8_checksum 59 = .ok (.getfield 31, 3) := by decide +kernel
theorem dX8_checksum_62 : decode cX8_checksum 62 = .ok (.getfield 232, 3) := by decide +kernel
theorem dX8_checksum_65 : decode cX8_checksum 65 = .ok (.if_icmp .ge 25, 3) := by decide +kernel
theorem dX8_checksum_68 : decode cX8_checksum 68 = .ok (.ldc2_w 365, 3) := by decide +kernel
theorem dX8_checksum_71 : decode cX8_checksum 71 = .ok (.lload_n 1, 1) := by decide +kernel
theorem dX8_checksum_72 : decode cX8_checksum 72 = .ok (.lmul, 1) := by decide +kernel
theorem dX8_checksum_73 : decode cX8_checksum 73 = .ok (.aload_n 0, 1) := by decide +kernel
theorem dX8_checksum_74 : decode cX8_checksum 74 = .ok (.getfield 31, 3) := by decide +kernel
theorem dX8_checksum_77 : decode cX8_checksum 77 = .ok (.iload_n 3, 1) := by decide +kernel
theorem dX8_checksum_78 : decode cX8_checksum 78 = .ok (.invokevirtual 244, 3) := by decide +kernel
theorem dX8_checksum_81 : decode cX8_checksum 81 = .ok (.i2l, 1) := by decide +kernel
theorem dX8_checksum_82 : decode cX8_checksum 82 = .ok (.ladd, 1) := by decide +kernel
theorem dX8_checksum_83 : decode cX8_checksum 83 = .ok (.lstore_n 1, 1) := by decide +kernel
theorem dX8_checksum_84 : decode cX8_checksum 84 = .ok (.iinc 3 1, 3) := by decide +kernel
theorem dX8_checksum_87 : decode cX8_checksum 87 = .ok (.goto (-30), 3) := by decide +kernel
theorem dX8_checksum_90 : decode cX8_checksum 90 = .ok (.ldc2_w 365, 3) := by decide +kernel
theorem dX8_checksum_93 : decode cX8_checksum 93 = .ok (.lload_n 1, 1) := by decide +kernel
theorem dX8_checksum_94 : decode cX8_checksum 94 = .ok (.lmul, 1) := by decide +kernel
theorem dX8_checksum_95 : decode cX8_checksum 95 = .ok (.aload_n 0, 1) := by decide +kernel
theorem dX8_checksum_96 : decode cX8_checksum 96 = .ok (.getfield 52, 3) := by decide +kernel
theorem dX8_checksum_99 : decode cX8_checksum 99 = .ok (.getfield 325, 3) := by decide +kernel
theorem dX8_checksum_102 : decode cX8_checksum 102 = .ok (.invokestatic 329, 3) := by decide +kernel
theorem dX8_checksum_105 : decode cX8_checksum 105 = .ok (.i2l, 1) := by decide +kernel
theorem dX8_checksum_106 : decode cX8_checksum 106 = .ok (.ladd, 1) := by decide +kernel
theorem dX8_checksum_107 : decode cX8_checksum 107 = .ok (.lstore_n 1, 1) := by decide +kernel
theorem dX8_checksum_108 : decode cX8_checksum 108 = .ok (.ldc2_w 365, 3) := by decide +kernel
theorem dX8_checksum_111 : decode cX8_checksum 111 = .ok (.lload_n 1, 1) := by decide +kernel
theorem dX8_checksum_112 : decode cX8_checksum 112 = .ok (.lmul, 1) := by decide +kernel
theorem dX8_checksum_113 : decode cX8_checksum 113 = .ok (.aload_n 0, 1) := by decide +kernel
theorem dX8_checksum_114 : decode cX8_checksum 114 = .ok (.getfield 59, 3) := by decide +kernel
theorem dX8_checksum_117 : decode cX8_checksum 117 = .ok (.invokevirtual 355, 3) := by decide +kernel
theorem dX8_checksum_120 : decode cX8_checksum 120 = .ok (.i2l, 1) := by decide +kernel
theorem dX8_checksum_121 : decode cX8_checksum 121 = .ok (.ladd, 1) := by decide +kernel
theorem dX8_checksum_122 : decode cX8_checksum 122 = .ok (.lreturn, 1) := by decide +kernel
set_option maxRecDepth 20000 in
theorem ggX8_aliveShare_X5_living : GoodIn wsX8_aliveShare wsX5_living := goodIn_r _ [9, 10, 11, 12, 13, 8, 14, 15, 16, 17, 18, 19, 20, 21, 22, 23, 43, 44, 45, 46, 47, 48, 49, 50, 39, 40, 41, 42] (by decide +kernel) (by decide +kernel)
set_option maxRecDepth 20000 in
theorem gX8_aliveShare_X5_living : GoodIn wsX8_aliveShare (wsV RX8 182 RX5 yX5_living wsX5_living) := goodIn_app (goodIn_of _ (by decide +kernel)) ggX8_aliveShare_X5_living
set_option maxRecDepth 20000 in
theorem ggX8_aliveShare_J6_bitCount_0f7a4 : GoodIn wsX8_aliveShare wsJ6_bitCount_0f7a4 := goodIn_r _ [27, 28, 29, 30] (by decide +kernel) (by decide +kernel)
set_option maxRecDepth 20000 in
theorem gX8_aliveShare_J6_bitCount_0f7a4 : GoodIn wsX8_aliveShare (va_wsS RX8 186 yJ6_bitCount_0f7a4 wsJ6_bitCount_0f7a4) := goodIn_app (goodIn_of _ (by decide +kernel)) ggX8_aliveShare_J6_bitCount_0f7a4
theorem dX8_aliveShare_0 : decode cX8_aliveShare 0 = .ok (.aload_n 0, 1) := by decide +kernel
theorem dX8_aliveShare_1 : decode cX8_aliveShare 1 = .ok (.getfield 20, 3) := by decide +kernel
theorem dX8_aliveShare_4 : decode cX8_aliveShare 4 = .ok (.getfield 70, 3) := by decide +kernel
theorem dX8_aliveShare_7 : decode cX8_aliveShare 7 = .ok (.ifCond .ne 13, 3) := by decide +kernel
theorem dX8_aliveShare_10 : decode cX8_aliveShare 10 = .ok (.new 195, 3) := by decide +kernel
theorem dX8_aliveShare_13 : decode cX8_aliveShare 13 = .ok (.dup, 1) := by decide +kernel
theorem dX8_aliveShare_14 : decode cX8_aliveShare 14 = .ok (.ldc 145, 2) := by decide +kernel
theorem dX8_aliveShare_16 : decode cX8_aliveShare 16 = .ok (.invokespecial 199, 3) := by decide +kernel
theorem dX8_aliveShare_19 : decode cX8_aliveShare 19 = .ok (.athrow, 1) := by decide +kernel
theorem dX8_aliveShare_20 : decode cX8_aliveShare 20 = .ok (.aload_n 0, 1) := by decide +kernel
theorem dX8_aliveShare_21 : decode cX8_aliveShare 21 = .ok (.getfield 10, 3) := by decide +kernel
theorem dX8_aliveShare_24 : decode cX8_aliveShare 24 = .ok (.invokevirtual 182, 3) := by decide +kernel
theorem dX8_aliveShare_27 : decode cX8_aliveShare 27 = .ok (.invokestatic 186, 3) := by decide +kernel
theorem dX8_aliveShare_30 : decode cX8_aliveShare 30 = .ok (.i2f, 1) := by decide +kernel
theorem dX8_aliveShare_31 : decode cX8_aliveShare 31 = .ok (.aload_n 0, 1) := by decide +kernel
theorem dX8_aliveShare_32 : decode cX8_aliveShare 32 = .ok (.getfield 20, 3) := by decide +kernel
theorem dX8_aliveShare_35 : decode cX8_aliveShare 35 = .ok (.getfield 70, 3) := by decide +kernel
theorem dX8_aliveShare_38 : decode cX8_aliveShare 38 = .ok (.i2f, 1) := by decide +kernel
theorem dX8_aliveShare_39 : decode cX8_aliveShare 39 = .ok (.fdiv, 1) := by decide +kernel
theorem dX8_aliveShare_40 : decode cX8_aliveShare 40 = .ok (.freturn, 1) := by decide +kernel
set_option maxRecDepth 20000 in
theorem ggX8_meanLesson_X1_lessonSum : GoodIn wsX8_meanLesson wsX1_lessonSum := goodIn_r _ [8, 9, 10, 11, 12, 7, 13, 14, 15, 16, 17, 18, 19, 20, 21, 22, 23, 24, 25, 26, 27, 28, 29, 30, 31, 32, 33, 42, 43, 44, 45] (by decide +kernel) (by decide +kernel)
set_option maxRecDepth 20000 in
theorem gX8_meanLesson_X1_lessonSum : GoodIn wsX8_meanLesson (wsV RX8 367 RX1 yX1_lessonSum wsX1_lessonSum) := goodIn_app (goodIn_of _ (by decide +kernel)) ggX8_meanLesson_X1_lessonSum
theorem dX8_meanLesson_0 : decode cX8_meanLesson 0 = .ok (.aload_n 0, 1) := by decide +kernel
theorem dX8_meanLesson_1 : decode cX8_meanLesson 1 = .ok (.getfield 20, 3) := by decide +kernel
theorem dX8_meanLesson_4 : decode cX8_meanLesson 4 = .ok (.getfield 70, 3) := by decide +kernel
theorem dX8_meanLesson_7 : decode cX8_meanLesson 7 = .ok (.ifCond .ne 13, 3) := by decide +kernel
theorem dX8_meanLesson_10 : decode cX8_meanLesson 10 = .ok (.new 195, 3) := by decide +kernel
theorem dX8_meanLesson_13 : decode cX8_meanLesson 13 = .ok (.dup, 1) := by decide +kernel
theorem dX8_meanLesson_14 : decode cX8_meanLesson 14 = .ok (.ldc 145, 2) := by decide +kernel
theorem dX8_meanLesson_16 : decode cX8_meanLesson 16 = .ok (.invokespecial 199, 3) := by decide +kernel
theorem dX8_meanLesson_19 : decode cX8_meanLesson 19 = .ok (.athrow, 1) := by decide +kernel
theorem dX8_meanLesson_20 : decode cX8_meanLesson 20 = .ok (.aload_n 0, 1) := by decide +kernel
theorem dX8_meanLesson_21 : decode cX8_meanLesson 21 = .ok (.getfield 20, 3) := by decide +kernel
theorem dX8_meanLesson_24 : decode cX8_meanLesson 24 = .ok (.invokevirtual 367, 3) := by decide +kernel
theorem dX8_meanLesson_27 : decode cX8_meanLesson 27 = .ok (.i2d, 1) := by decide +kernel
theorem dX8_meanLesson_28 : decode cX8_meanLesson 28 = .ok (.aload_n 0, 1) := by decide +kernel
theorem dX8_meanLesson_29 : decode cX8_meanLesson 29 = .ok (.getfield 20, 3) := by decide +kernel
theorem dX8_meanLesson_32 : decode cX8_meanLesson 32 = .ok (.getfield 70, 3) := by decide +kernel
theorem dX8_meanLesson_35 : decode cX8_meanLesson 35 = .ok (.i2d, 1) := by decide +kernel
theorem dX8_meanLesson_36 : decode cX8_meanLesson 36 = .ok (.ddiv, 1) := by decide +kernel
theorem dX8_meanLesson_37 : decode cX8_meanLesson 37 = .ok (.dreturn, 1) := by decide +kernel
set_option maxRecDepth 20000 in
theorem ggX8_isSound_X6_areOrdered : GoodIn wsX8_isSound wsX6_areOrdered := goodIn_r _ [9, 10, 11, 12, 8, 13, 14, 15, 16, 17, 18, 19, 20, 21, 22, 23, 24, 25, 26, 27, 28, 29, 30, 31, 32, 33, 34, 35, 36, 37, 38, 39, 40, 41, 42, 43, 44, 45, 46, 47, 48, 49, 50, 51, 52, 53, 54, 55, 56, 57, 58, 59, 60, 61, 62, 63, 64, 65, 66, 67, 68, 69, 70, 71, 72, 73, 74, 75, 76, 77, 78, 79, 80, 81, 82, 83, 84, 85, 86, 87, 88, 89, 90, 91, 92, 93, 94, 95, 96, 97, 132, 133, 134, 135, 136, 137, 138] (by decide +kernel) (by decide +kernel)
set_option maxRecDepth 20000 in
theorem gX8_isSound_X6_areOrdered : GoodIn wsX8_isSound (wsV RX8 370 RX6 yX6_areOrdered wsX6_areOrdered) := goodIn_app (goodIn_of _ (by decide +kernel)) ggX8_isSound_X6_areOrdered
set_option maxRecDepth 20000 in
theorem ggX8_isSound_X5_isHonoured : GoodIn wsX8_isSound wsX5_isHonoured := goodIn_r _ [102, 103, 104, 105, 106, 107, 101, 108, 109, 110, 111, 112, 113, 114, 34, 32, 35, 139, 140, 141, 142, 143, 144, 145, 146] (by decide +kernel) (by decide +kernel)
set_option maxRecDepth 20000 in
theorem gX8_isSound_X5_isHonoured : GoodIn wsX8_isSound (wsV RX8 374 RX5 yX5_isHonoured wsX5_isHonoured) := goodIn_app (goodIn_of _ (by decide +kernel)) ggX8_isSound_X5_isHonoured
set_option maxRecDepth 20000 in
theorem ggX8_isSound_X0_isLeft : GoodIn wsX8_isSound wsX0_isLeft := goodIn_r _ [119, 120, 129, 130, 131] (by decide +kernel) (by decide +kernel)
set_option maxRecDepth 20000 in
theorem gX8_isSound_X0_isLeft : GoodIn wsX8_isSound (wsV RX8 380 RX0 yX0_isLeft wsX0_isLeft) := goodIn_app (goodIn_of _ (by decide +kernel)) ggX8_isSound_X0_isLeft
theorem dX8_isSound_0 : decode cX8_isSound 0 = .ok (.aload_n 0, 1) := by decide +kernel
theorem dX8_isSound_1 : decode cX8_isSound 1 = .ok (.getfield 24, 3) := by decide +kernel
theorem dX8_isSound_4 : decode cX8_isSound 4 = .ok (.aload_n 0, 1) := by decide +kernel
theorem dX8_isSound_5 : decode cX8_isSound 5 = .ok (.getfield 20, 3) := by decide +kernel
theorem dX8_isSound_8 : decode cX8_isSound 8 = .ok (.invokevirtual 370, 3) := by decide +kernel
theorem dX8_isSound_11 : decode cX8_isSound 11 = .ok (.ifCond .eq 34, 3) := by decide +kernel
theorem dX8_isSound_14 : decode cX8_isSound 14 = .ok (.aload_n 0, 1) := by decide +kernel
theorem dX8_isSound_15 : decode cX8_isSound 15 = .ok (.getfield 10, 3) := by decide +kernel
theorem dX8_isSound_18 : decode cX8_isSound 18 = .ok (.invokevirtual 374, 3) := by decide +kernel
theorem dX8_isSound_21 : decode cX8_isSound 21 = .ok (.ifCond .eq 24, 3) := by decide +kernel
theorem dX8_isSound_24 : decode cX8_isSound 24 = .ok (.aload_n 0, 1) := by decide +kernel
theorem dX8_isSound_25 : decode cX8_isSound 25 = .ok (.getfield 52, 3) := by decide +kernel
theorem dX8_isSound_28 : decode cX8_isSound 28 = .ok (.aload_n 0, 1) := by decide +kernel
theorem dX8_isSound_29 : decode cX8_isSound 29 = .ok (.getfield 52, 3) := by decide +kernel
theorem dX8_isSound_32 : decode cX8_isSound 32 = .ok (.getfield 377, 3) := by decide +kernel
theorem dX8_isSound_35 : decode cX8_isSound 35 = .ok (.invokevirtual 380, 3) := by decide +kernel
theorem dX8_isSound_38 : decode cX8_isSound 38 = .ok (.ifCond .eq 7, 3) := by decide +kernel
theorem dX8_isSound_41 : decode cX8_isSound 41 = .ok (.iconst 1, 1) := by decide +kernel
theorem dX8_isSound_42 : decode cX8_isSound 42 = .ok (.goto 4, 3) := by decide +kernel
theorem dX8_isSound_45 : decode cX8_isSound 45 = .ok (.iconst 0, 1) := by decide +kernel
theorem dX8_isSound_46 : decode cX8_isSound 46 = .ok (.ireturn, 1) := by decide +kernel
theorem dX8_at_0 : decode cX8_at 0 = .ok (.iload_n 1, 1) := by decide +kernel
theorem dX8_at_1 : decode cX8_at 1 = .ok (.ifCond .lt 15, 3) := by decide +kernel
theorem dX8_at_4 : decode cX8_at 4 = .ok (.iload_n 1, 1) := by decide +kernel
theorem dX8_at_5 : decode cX8_at 5 = .ok (.aload_n 0, 1) := by decide +kernel
theorem dX8_at_6 : decode cX8_at 6 = .ok (.arraylength, 1) := by decide +kernel
theorem dX8_at_7 : decode cX8_at 7 = .ok (.if_icmp .ge 9, 3) := by decide +kernel
theorem dX8_at_10 : decode cX8_at 10 = .ok (.aload_n 0, 1) := by decide +kernel
theorem dX8_at_11 : decode cX8_at 11 = .ok (.iload_n 1, 1) := by decide +kernel
theorem dX8_at_12 : decode cX8_at 12 = .ok (.iaload, 1) := by decide +kernel
theorem dX8_at_13 : decode cX8_at 13 = .ok (.goto 4, 3) := by decide +kernel
theorem dX8_at_16 : decode cX8_at 16 = .ok (.iconst 0, 1) := by decide +kernel
theorem dX8_at_17 : decode cX8_at 17 = .ok (.ireturn, 1) := by decide +kernel
theorem dX8_put_0 : decode cX8_put 0 = .ok (.iload_n 1, 1) := by decide +kernel
theorem dX8_put_1 : decode cX8_put 1 = .ok (.ifCond .lt 13, 3) := by decide +kernel
theorem dX8_put_4 : decode cX8_put 4 = .ok (.iload_n 1, 1) := by decide +kernel
theorem dX8_put_5 : decode cX8_put 5 = .ok (.aload_n 0, 1) := by decide +kernel
theorem dX8_put_6 : decode cX8_put 6 = .ok (.arraylength, 1) := by decide +kernel
theorem dX8_put_7 : decode cX8_put 7 = .ok (.if_icmp .ge 7, 3) := by decide +kernel
theorem dX8_put_10 : decode cX8_put 10 = .ok (.aload_n 0, 1) := by decide +kernel
theorem dX8_put_11 : decode cX8_put 11 = .ok (.iload_n 1, 1) := by decide +kernel
theorem dX8_put_12 : decode cX8_put 12 = .ok (.iload_n 2, 1) := by decide +kernel
theorem dX8_put_13 : decode cX8_put 13 = .ok (.iastore, 1) := by decide +kernel
theorem dX8_put_14 : decode cX8_put 14 = .ok (.return_, 1) := by decide +kernel
theorem dX8_hasBit_0 : decode cX8_hasBit 0 = .ok (.iload_n 0, 1) := by decide +kernel
theorem dX8_hasBit_1 : decode cX8_hasBit 1 = .ok (.iload_n 1, 1) := by decide +kernel
theorem dX8_hasBit_2 : decode cX8_hasBit 2 = .ok (.ishr, 1) := by decide +kernel
theorem dX8_hasBit_3 : decode cX8_hasBit 3 = .ok (.iconst 1, 1) := by decide +kernel
theorem dX8_hasBit_4 : decode cX8_hasBit 4 = .ok (.iand, 1) := by decide +kernel
theorem dX8_hasBit_5 : decode cX8_hasBit 5 = .ok (.ifCond .eq 7, 3) := by decide +kernel
theorem dX8_hasBit_8 : decode cX8_hasBit 8 = .ok (.iconst 1, 1) := by decide +kernel
theorem dX8_hasBit_9 : decode cX8_hasBit 9 = .ok (.goto 4, 3) := by decide +kernel
theorem dX8_hasBit_12 : decode cX8_hasBit 12 = .ok (.iconst 0, 1) := by decide +kernel
theorem dX8_hasBit_13 : decode cX8_hasBit 13 = .ok (.ireturn, 1) := by decide +kernel
set_option maxRecDepth 20000 in
theorem ggX8_lowestBit_X8_hasBit : GoodIn wsX8_lowestBit wsX8_hasBit := goodIn_r _ [4] (by decide +kernel) (by decide +kernel)
set_option maxRecDepth 20000 in
theorem gX8_lowestBit_X8_hasBit : GoodIn wsX8_lowestBit (va_wsS RX8 383 yX8_hasBit wsX8_hasBit) := goodIn_app (goodIn_of _ (by decide +kernel)) ggX8_lowestBit_X8_hasBit
theorem dX8_lowestBit_0 : decode cX8_lowestBit 0 = .ok (.iconst 0, 1) := by decide +kernel
theorem dX8_lowestBit_1 : decode cX8_lowestBit 1 = .ok (.istore_n 1, 1) := by decide +kernel
theorem dX8_lowestBit_2 : decode cX8_lowestBit 2 = .ok (.iload_n 1, 1) := by decide +kernel
theorem dX8_lowestBit_3 : decode cX8_lowestBit 3 = .ok (.bipush 32, 2) := by decide +kernel
theorem dX8_lowestBit_5 : decode cX8_lowestBit 5 = .ok (.if_icmp .ge 19, 3) := by decide +kernel
theorem dX8_lowestBit_8 : decode cX8_lowestBit 8 = .ok (.iload_n 0, 1) := by decide +kernel
theorem dX8_lowestBit_9 : decode cX8_lowestBit 9 = .ok (.iload_n 1, 1) := by decide +kernel
theorem dX8_lowestBit_10 : decode cX8_lowestBit 10 = .ok (.invokestatic 383, 3) := by decide +kernel
theorem dX8_lowestBit_13 : decode cX8_lowestBit 13 = .ok (.ifCond .eq 5, 3) := by decide +kernel
theorem dX8_lowestBit_16 : decode cX8_lowestBit 16 = .ok (.iload_n 1, 1) := by decide +kernel
theorem dX8_lowestBit_17 : decode cX8_lowestBit 17 = .ok (.ireturn, 1) := by decide +kernel
theorem dX8_lowestBit_18 : decode cX8_lowestBit 18 = .ok (.iinc 1 1, 3) := by decide +kernel
theorem dX8_lowestBit_21 : decode cX8_lowestBit 21 = .ok (.goto (-19), 3) := by decide +kernel
theorem dX8_lowestBit_24 : decode cX8_lowestBit 24 = .ok (.iconst (-1), 1) := by decide +kernel
theorem dX8_lowestBit_25 : decode cX8_lowestBit 25 = .ok (.ireturn, 1) := by decide +kernel
theorem dX8_isWord_0 : decode cX8_isWord 0 = .ok (.iload_n 0, 1) := by decide +kernel
theorem dX8_isWord_1 : decode cX8_isWord 1 = .ok (.ifCond .lt 19, 3) := by decide +kernel
theorem dX8_isWord_4 : decode cX8_isWord 4 = .ok (.iload_n 0, 1) := by decide +kernel
theorem dX8_isWord_5 : decode cX8_isWord 5 = .ok (.bipush 8, 2) := by decide +kernel
theorem dX8_isWord_7 : decode cX8_isWord 7 = .ok (.if_icmp .gt 13, 3) := by decide +kernel
theorem dX8_isWord_10 : decode cX8_isWord 10 = .ok (.iload_n 1, 1) := by decide +kernel
theorem dX8_isWord_11 : decode cX8_isWord 11 = .ok (.iload_n 0, 1) := by decide +kernel
theorem dX8_isWord_12 : decode cX8_isWord 12 = .ok (.ishr, 1) := by decide +kernel
theorem dX8_isWord_13 : decode cX8_isWord 13 = .ok (.ifCond .ne 7, 3) := by decide +kernel
theorem dX8_isWord_16 : decode cX8_isWord 16 = .ok (.iconst 1, 1) := by decide +kernel
theorem dX8_isWord_17 : decode cX8_isWord 17 = .ok (.goto 4, 3) := by decide +kernel
theorem dX8_isWord_20 : decode cX8_isWord 20 = .ok (.iconst 0, 1) := by decide +kernel
theorem dX8_isWord_21 : decode cX8_isWord 21 = .ok (.ireturn, 1) := by decide +kernel

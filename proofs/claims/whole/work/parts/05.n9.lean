set_option maxRecDepth 20000 in
theorem ggX9_init_Jx4a65c_init_da8c8 : GoodIn wsX9_init wsJx4a65c_init_da8c8 := goodIn_r _ [21, 22, 23, 24, 25, 26, 27, 28, 29, 30, 31, 32, 33, 2, 3, 34, 35, 36] (by decide +kernel) (by decide +kernel)
set_option maxRecDepth 20000 in
theorem gX9_init_Jx4a65c_init_da8c8 : GoodIn wsX9_init (wsJx4a65c_init_da8c8) := ggX9_init_Jx4a65c_init_da8c8
theorem dX9_init_0 : decode cX9_init 0 = .ok (.aload_n 0, 1) := by decide +kernel
theorem dX9_init_1 : decode cX9_init 1 = .ok (.invokespecial 1, 3) := by decide +kernel
theorem dX9_init_4 : decode cX9_init 4 = .ok (.aload_n 0, 1) := by decide +kernel
theorem dX9_init_5 : decode cX9_init 5 = .ok (.new 7, 3) := by decide +kernel
theorem dX9_init_8 : decode cX9_init 8 = .ok (.dup, 1) := by decide +kernel
theorem dX9_init_9 : decode cX9_init 9 = .ok (.invokespecial 9, 3) := by decide +kernel
theorem dX9_init_12 : decode cX9_init 12 = .ok (.putfield 10, 3) := by decide +kernel
theorem dX9_init_15 : decode cX9_init 15 = .ok (.aload_n 0, 1) := by decide +kernel
theorem dX9_init_16 : decode cX9_init 16 = .ok (.iconst 4, 1) := by decide +kernel
theorem dX9_init_17 : decode cX9_init 17 = .ok (.putfield 16, 3) := by decide +kernel
theorem dX9_init_20 : decode cX9_init 20 = .ok (.aload_n 0, 1) := by decide +kernel
theorem dX9_init_21 : decode cX9_init 21 = .ok (.iconst 1, 1) := by decide +kernel
theorem dX9_init_22 : decode cX9_init 22 = .ok (.putfield 20, 3) := by decide +kernel
theorem dX9_init_25 : decode cX9_init 25 = .ok (.aload_n 0, 1) := by decide +kernel
theorem dX9_init_26 : decode cX9_init 26 = .ok (.bipush 45, 2) := by decide +kernel
theorem dX9_init_28 : decode cX9_init 28 = .ok (.putfield 23, 3) := by decide +kernel
theorem dX9_init_31 : decode cX9_init 31 = .ok (.aload_n 0, 1) := by decide +kernel
theorem dX9_init_32 : decode cX9_init 32 = .ok (.new 7, 3) := by decide +kernel
theorem dX9_init_35 : decode cX9_init 35 = .ok (.dup, 1) := by decide +kernel
theorem dX9_init_36 : decode cX9_init 36 = .ok (.invokespecial 9, 3) := by decide +kernel
theorem dX9_init_39 : decode cX9_init 39 = .ok (.putfield 27, 3) := by decide +kernel
theorem dX9_init_42 : decode cX9_init 42 = .ok (.aload_n 0, 1) := by decide +kernel
theorem dX9_init_43 : decode cX9_init 43 = .ok (.new 7, 3) := by decide +kernel
theorem dX9_init_46 : decode cX9_init 46 = .ok (.dup, 1) := by decide +kernel
theorem dX9_init_47 : decode cX9_init 47 = .ok (.invokespecial 9, 3) := by decide +kernel
theorem dX9_init_50 : decode cX9_init 50 = .ok (.putfield 30, 3) := by decide +kernel
theorem dX9_init_53 : decode cX9_init 53 = .ok (.aload_n 0, 1) := by decide +kernel
theorem dX9_init_54 : decode cX9_init 54 = .ok (.new 7, 3) := by decide +kernel
theorem dX9_init_57 : decode cX9_init 57 = .ok (.dup, 1) := by decide +kernel
theorem dX9_init_58 : decode cX9_init 58 = .ok (.invokespecial 9, 3) := by decide +kernel
theorem dX9_init_61 : decode cX9_init 61 = .ok (.putfield 33, 3) := by decide +kernel
theorem dX9_init_64 : decode cX9_init 64 = .ok (.aload_n 0, 1) := by decide +kernel
theorem dX9_init_65 : decode cX9_init 65 = .ok (.new 7, 3) := by decide +kernel
theorem dX9_init_68 : decode cX9_init 68 = .ok (.dup, 1) := by decide +kernel
theorem dX9_init_69 : decode cX9_init 69 = .ok (.invokespecial 9, 3) := by decide +kernel
theorem dX9_init_72 : decode cX9_init 72 = .ok (.putfield 36, 3) := by decide +kernel
theorem dX9_init_75 : decode cX9_init 75 = .ok (.aload_n 0, 1) := by decide +kernel
theorem dX9_init_76 : decode cX9_init 76 = .ok (.iconst 3, 1) := by decide +kernel
theorem dX9_init_77 : decode cX9_init 77 = .ok (.putfield 39, 3) := by decide +kernel
theorem dX9_init_80 : decode cX9_init 80 = .ok (.aload_n 0, 1) := by decide +kernel
theorem dX9_init_81 : decode cX9_init 81 = .ok (.iconst 5, 1) := by decide +kernel
theorem dX9_init_82 : decode cX9_init 82 = .ok (.iconst 5, 1) := by decide +kernel
theorem dX9_init_83 : decode cX9_init 83 = .ok (.multianewarray 42 2, 4) := by decide +kernel
theorem dX9_init_87 : decode cX9_init 87 = .ok (.putfield 44, 3) := by decide +kernel
theorem dX9_init_90 : decode cX9_init 90 = .ok (.return_, 1) := by decide +kernel
theorem dX9_thrown_0 : decode cX9_thrown 0 = .ok (.aload_n 0, 1) := by decide +kernel
theorem dX9_thrown_1 : decode cX9_thrown 1 = .ok (.getfield 47, 3) := by decide +kernel
theorem dX9_thrown_4 : decode cX9_thrown 4 = .ok (.ireturn, 1) := by decide +kernel
theorem dX9_isWrong_0 : decode cX9_isWrong 0 = .ok (.aload_n 0, 1) := by decide +kernel
theorem dX9_isWrong_1 : decode cX9_isWrong 1 = .ok (.iload_n 1, 1) := by decide +kernel
theorem dX9_isWrong_2 : decode cX9_isWrong 2 = .ok (.putfield 47, 3) := by decide +kernel
theorem dX9_isWrong_5 : decode cX9_isWrong 5 = .ok (.iload_n 1, 1) := by decide +kernel
theorem dX9_isWrong_6 : decode cX9_isWrong 6 = .ok (.ifCond .le 7, 3) := by decide +kernel
theorem dX9_isWrong_9 : decode cX9_isWrong 9 = .ok (.iconst 1, 1) := by decide +kernel
theorem dX9_isWrong_10 : decode cX9_isWrong 10 = .ok (.goto 4, 3) := by decide +kernel
theorem dX9_isWrong_13 : decode cX9_isWrong 13 = .ok (.iconst 0, 1) := by decide +kernel
theorem dX9_isWrong_14 : decode cX9_isWrong 14 = .ok (.ireturn, 1) := by decide +kernel
theorem dX9_isBetween_0 : decode cX9_isBetween 0 = .ok (.lload_n 2, 1) := by decide +kernel
theorem dX9_isBetween_1 : decode cX9_isBetween 1 = .ok (.lload_n 0, 1) := by decide +kernel
theorem dX9_isBetween_2 : decode cX9_isBetween 2 = .ok (.lcmp, 1) := by decide +kernel
theorem dX9_isBetween_3 : decode cX9_isBetween 3 = .ok (.ifCond .gt 14, 3) := by decide +kernel
theorem dX9_isBetween_6 : decode cX9_isBetween 6 = .ok (.lload_n 0, 1) := by decide +kernel
theorem dX9_isBetween_7 : decode cX9_isBetween 7 = .ok (.lload 4, 2) := by decide +kernel
theorem dX9_isBetween_9 : decode cX9_isBetween 9 = .ok (.lcmp, 1) := by decide +kernel
theorem dX9_isBetween_10 : decode cX9_isBetween 10 = .ok (.ifCond .gt 7, 3) := by decide +kernel
theorem dX9_isBetween_13 : decode cX9_isBetween 13 = .ok (.iconst 1, 1) := by decide +kernel
theorem dX9_isBetween_14 : decode cX9_isBetween 14 = .ok (.goto 4, 3) := by decide +kernel
theorem dX9_isBetween_17 : decode cX9_isBetween 17 = .ok (.iconst 0, 1) := by decide +kernel
theorem dX9_isBetween_18 : decode cX9_isBetween 18 = .ok (.ireturn, 1) := by decide +kernel
set_option maxRecDepth 20000 in
theorem ggX9_isOf_Jx4a65c_size_8abf5 : GoodIn wsX9_isOf wsJx4a65c_size_8abf5 := goodIn_r _ [5, 6, 7, 8, 9] (by decide +kernel) (by decide +kernel)
set_option maxRecDepth 20000 in
theorem gX9_isOf_Jx4a65c_size_8abf5_f50Jx4a65c : GoodIn wsX9_isOf (va_wsF RX9 50 RJx4a65c ⟨"java/util/List", "size", "()I"⟩ yJx4a65c_size_8abf5 wsJx4a65c_size_8abf5) := goodIn_app (goodIn_of _ (by decide +kernel)) ggX9_isOf_Jx4a65c_size_8abf5
theorem dX9_isOf_0 : decode cX9_isOf 0 = .ok (.iload_n 1, 1) := by decide +kernel
theorem dX9_isOf_1 : decode cX9_isOf 1 = .ok (.ifCond .lt 17, 3) := by decide +kernel
theorem dX9_isOf_4 : decode cX9_isOf 4 = .ok (.iload_n 1, 1) := by decide +kernel
theorem dX9_isOf_5 : decode cX9_isOf 5 = .ok (.aload_n 0, 1) := by decide +kernel
theorem dX9_isOf_6 : decode cX9_isOf 6 = .ok (.invokeinterface 50 1, 5) := by decide +kernel
theorem dX9_isOf_11 : decode cX9_isOf 11 = .ok (.if_icmp .ge 7, 3) := by decide +kernel
theorem dX9_isOf_14 : decode cX9_isOf 14 = .ok (.iconst 1, 1) := by decide +kernel
theorem dX9_isOf_15 : decode cX9_isOf 15 = .ok (.goto 4, 3) := by decide +kernel
theorem dX9_isOf_18 : decode cX9_isOf 18 = .ok (.iconst 0, 1) := by decide +kernel
theorem dX9_isOf_19 : decode cX9_isOf 19 = .ok (.ireturn, 1) := by decide +kernel
set_option maxRecDepth 20000 in
theorem ggX9_isSet_X9_isBetween : GoodIn wsX9_isSet wsX9_isBetween := goodIn_r _ [5] (by decide +kernel) (by decide +kernel)
set_option maxRecDepth 20000 in
theorem gX9_isSet_X9_isBetween : GoodIn wsX9_isSet (va_wsS RX9 56 yX9_isBetween wsX9_isBetween) := goodIn_app (goodIn_of _ (by decide +kernel)) ggX9_isSet_X9_isBetween
theorem dX9_isSet_0 : decode cX9_isSet 0 = .ok (.iload_n 1, 1) := by decide +kernel
theorem dX9_isSet_1 : decode cX9_isSet 1 = .ok (.i2l, 1) := by decide +kernel
theorem dX9_isSet_2 : decode cX9_isSet 2 = .ok (.lconst 0, 1) := by decide +kernel
theorem dX9_isSet_3 : decode cX9_isSet 3 = .ok (.iconst 1, 1) := by decide +kernel
theorem dX9_isSet_4 : decode cX9_isSet 4 = .ok (.aload_n 0, 1) := by decide +kernel
theorem dX9_isSet_5 : decode cX9_isSet 5 = .ok (.getfield 16, 3) := by decide +kernel
theorem dX9_isSet_8 : decode cX9_isSet 8 = .ok (.ishl, 1) := by decide +kernel
theorem dX9_isSet_9 : decode cX9_isSet 9 = .ok (.iconst 1, 1) := by decide +kernel
theorem dX9_isSet_10 : decode cX9_isSet 10 = .ok (.isub, 1) := by decide +kernel
theorem dX9_isSet_11 : decode cX9_isSet 11 = .ok (.i2l, 1) := by decide +kernel
theorem dX9_isSet_12 : decode cX9_isSet 12 = .ok (.invokestatic 56, 3) := by decide +kernel
theorem dX9_isSet_15 : decode cX9_isSet 15 = .ok (.ireturn, 1) := by decide +kernel
set_option maxRecDepth 20000 in
theorem ggX9_points_X9_isBetween : GoodIn wsX9_points wsX9_isBetween := goodIn_r _ [9] (by decide +kernel) (by decide +kernel)
set_option maxRecDepth 20000 in
theorem gX9_points_X9_isBetween : GoodIn wsX9_points (va_wsS RX9 56 yX9_isBetween wsX9_isBetween) := goodIn_app (goodIn_of _ (by decide +kernel)) ggX9_points_X9_isBetween
set_option maxRecDepth 20000 in
theorem ggX9_points_X9_isWrong : GoodIn wsX9_points wsX9_isWrong := goodIn_r _ [13, 14, 28, 29, 30, 31, 32, 33, 34, 35, 36, 37, 38, 39, 40, 41, 42, 43, 44] (by decide +kernel) (by decide +kernel)
set_option maxRecDepth 20000 in
theorem gX9_points_X9_isWrong : GoodIn wsX9_points (wsV RX9 62 RX9 yX9_isWrong wsX9_isWrong) := goodIn_app (goodIn_of _ (by decide +kernel)) ggX9_points_X9_isWrong
set_option maxRecDepth 20000 in
theorem ggX9_points_Jx4a65c_size_8abf5 : GoodIn wsX9_points wsJx4a65c_size_8abf5 := goodIn_r _ [19, 20, 45, 46, 47] (by decide +kernel) (by decide +kernel)
set_option maxRecDepth 20000 in
theorem gX9_points_Jx4a65c_size_8abf5_f50Jx4a65c : GoodIn wsX9_points (va_wsF RX9 50 RJx4a65c ⟨"java/util/List", "size", "()I"⟩ yJx4a65c_size_8abf5 wsJx4a65c_size_8abf5) := goodIn_app (goodIn_of _ (by decide +kernel)) ggX9_points_Jx4a65c_size_8abf5
set_option maxRecDepth 20000 in
theorem ggX9_points_Jx4a65c_clear_da8c8 : GoodIn wsX9_points wsJx4a65c_clear_da8c8 := goodIn_r _ [24, 25, 26, 27, 20, 45, 46, 47] (by decide +kernel) (by decide +kernel)
set_option maxRecDepth 20000 in
theorem gX9_points_Jx4a65c_clear_da8c8_f66Jx4a65c : GoodIn wsX9_points (va_wsF RX9 66 RJx4a65c ⟨"java/util/List", "clear", "()V"⟩ yJx4a65c_clear_da8c8 wsJx4a65c_clear_da8c8) := goodIn_app (goodIn_of _ (by decide +kernel)) ggX9_points_Jx4a65c_clear_da8c8
theorem dX9_points_0 : decode cX9_points 0 = .ok (.aload_n 0, 1) := by decide +kernel
theorem dX9_points_1 : decode cX9_points 1 = .ok (.iload_n 1, 1) := by decide +kernel
theorem dX9_points_2 : decode cX9_points 2 = .ok (.i2l, 1) := by decide +kernel
theorem dX9_points_3 : decode cX9_points 3 = .ok (.lconst 1, 1) := by decide +kernel
theorem dX9_points_4 : decode cX9_points 4 = .ok (.ldc2_w 60, 3) := by decide +kernel
theorem dX9_points_7 : decode cX9_points 7 = .ok (.invokestatic 56, 3) := by decide +kernel
theorem dX9_points_10 : decode cX9_points 10 = .ok (.ifCond .eq 7, 3) := by decide +kernel
theorem dX9_points_13 : decode cX9_points 13 = .ok (.iconst 0, 1) := by decide +kernel
theorem dX9_points_14 : decode cX9_points 14 = .ok (.goto 4, 3) := by decide +kernel
theorem dX9_points_17 : decode cX9_points 17 = .ok (.iconst 1, 1) := by decide +kernel
theorem dX9_points_18 : decode cX9_points 18 = .ok (.invokevirtual 62, 3) := by decide +kernel
theorem dX9_points_21 : decode cX9_points 21 = .ok (.ifCond .eq 5, 3) := by decide +kernel
theorem dX9_points_24 : decode cX9_points 24 = .ok (.iconst 0, 1) := by decide +kernel
theorem dX9_points_25 : decode cX9_points 25 = .ok (.ireturn, 1) := by decide +kernel
theorem dX9_points_26 : decode cX9_points 26 = .ok (.aload_n 0, 1) := by decide +kernel
theorem dX9_points_27 : decode cX9_points 27 = .ok (.getfield 10, 3) := by decide +kernel
theorem dX9_points_30 : decode cX9_points 30 = .ok (.invokeinterface 50 1, 5) := by decide +kernel
theorem dX9_points_35 : decode cX9_points 35 = .ok (.istore_n 2, 1) := by decide +kernel
theorem dX9_points_36 : decode cX9_points 36 = .ok (.aload_n 0, 1) := by decide +kernel
theorem dX9_points_37 : decode cX9_points 37 = .ok (.iload_n 1, 1) := by decide +kernel
theorem dX9_points_38 : decode cX9_points 38 = .ok (.putfield 16, 3) := by decide +kernel
theorem dX9_points_41 : decode cX9_points 41 = .ok (.aload_n 0, 1) := by decide +kernel
theorem dX9_points_42 : decode cX9_points 42 = .ok (.getfield 10, 3) := by decide +kernel
theorem dX9_points_45 : decode cX9_points 45 = .ok (.invokeinterface 66 1, 5) := by decide +kernel
theorem dX9_points_50 : decode cX9_points 50 = .ok (.aload_n 0, 1) := by decide +kernel
theorem dX9_points_51 : decode cX9_points 51 = .ok (.bipush 45, 2) := by decide +kernel
theorem dX9_points_53 : decode cX9_points 53 = .ok (.putfield 23, 3) := by decide +kernel
theorem dX9_points_56 : decode cX9_points 56 = .ok (.aload_n 0, 1) := by decide +kernel
theorem dX9_points_57 : decode cX9_points 57 = .ok (.iconst 0, 1) := by decide +kernel
theorem dX9_points_58 : decode cX9_points 58 = .ok (.putfield 69, 3) := by decide +kernel
theorem dX9_points_61 : decode cX9_points 61 = .ok (.iload_n 2, 1) := by decide +kernel
theorem dX9_points_62 : decode cX9_points 62 = .ok (.ireturn, 1) := by decide +kernel
set_option maxRecDepth 20000 in
theorem ggX9_has_Jx4a65c_iterator_32c93 : GoodIn wsX9_has wsJx4a65c_iterator_32c93 := goodIn_r _ [7, 8, 9, 10, 11, 12, 13, 14, 15, 16, 17, 18, 19, 20, 21, 53, 54, 55, 56, 57, 58, 59] (by decide +kernel) (by decide +kernel)
set_option maxRecDepth 20000 in
theorem gX9_has_Jx4a65c_iterator_32c93_f72Jx4a65c : GoodIn wsX9_has (va_wsF RX9 72 RJx4a65c ⟨"java/util/List", "iterator", "()Ljava/util/Iterator;"⟩ yJx4a65c_iterator_32c93 wsJx4a65c_iterator_32c93) := goodIn_app (goodIn_of _ (by decide +kernel)) ggX9_has_Jx4a65c_iterator_32c93
set_option maxRecDepth 20000 in
theorem ggX9_has_Jx35411_hasNext_aae02 : GoodIn wsX9_has wsJx35411_hasNext_aae02 := goodIn_r _ [25, 26, 14, 53, 54, 55, 56, 57, 58, 59] (by decide +kernel) (by decide +kernel)
set_option maxRecDepth 20000 in
theorem gX9_has_Jx35411_hasNext_aae02_f76Jx35411 : GoodIn wsX9_has (va_wsF RX9 76 RJx35411 ⟨"java/util/Iterator", "hasNext", "()Z"⟩ yJx35411_hasNext_aae02 wsJx35411_hasNext_aae02) := goodIn_app (goodIn_of _ (by decide +kernel)) ggX9_has_Jx35411_hasNext_aae02
set_option maxRecDepth 20000 in
theorem ggX9_has_Jx35411_next_0502b : GoodIn wsX9_has wsJx35411_next_0502b := goodIn_r _ [30, 26, 14, 31, 18, 32, 33, 34, 10, 35, 19, 20, 21, 53, 54, 55, 56, 57, 58, 59] (by decide +kernel) (by decide +kernel)
set_option maxRecDepth 20000 in
theorem gX9_has_Jx35411_next_0502b_f82Jx35411 : GoodIn wsX9_has (va_wsF RX9 82 RJx35411 ⟨"java/util/Iterator", "next", "()Ljava/lang/Object;"⟩ yJx35411_next_0502b wsJx35411_next_0502b) := goodIn_app (goodIn_of _ (by decide +kernel)) ggX9_has_Jx35411_next_0502b
theorem dX9_has_0 : decode cX9_has 0 = .ok (.iconst 0, 1) := by decide +kernel
theorem dX9_has_1 : decode cX9_has 1 = .ok (.istore_n 2, 1) := by decide +kernel
theorem dX9_has_2 : decode cX9_has 2 = .ok (.aload_n 0, 1) := by decide +kernel
theorem dX9_has_3 : decode cX9_has 3 = .ok (.getfield 10, 3) := by decide +kernel
theorem dX9_has_6 : decode cX9_has 6 = .ok (.invokeinterface 72 1, 5) := by decide +kernel
theorem dX9_has_11 : decode cX9_has 11 = .ok (.astore_n 3, 1) := by decide +kernel
theorem dX9_has_12 : decode cX9_has 12 = .ok (.aload_n 3, 1) := by decide +kernel
theorem dX9_has_13 : decode cX9_has 13 = .ok (.invokeinterface 76 1, 5) := by decide +kernel
theorem dX9_has_18 : decode cX9_has 18 = .ok (.ifCond .eq 33, 3) := by decide +kernel
theorem dX9_has_21 : decode cX9_has 21 = .ok (.aload_n 3, 1) := by decide +kernel
theorem dX9_has_22 : decode cX9_has 22 = .ok (.invokeinterface 82 1, 5) := by decide +kernel
theorem dX9_has_27 : decode cX9_has 27 = .ok (.checkcast 86, 3) := by decide +kernel
theorem dX9_has_30 : decode cX9_has 30 = .ok (.astore 4, 2) := by decide +kernel
theorem dX9_has_32 : decode cX9_has 32 = .ok (.iload_n 2, 1) := by decide +kernel
theorem dX9_has_33 : decode cX9_has 33 = .ok (.aload 4, 2) := by decide +kernel
theorem dX9_has_35 : decode cX9_has 35 = .ok (.iconst 0, 1) := by decide +kernel
theorem dX9_has_36 : decode cX9_has 36 = .ok (.iaload, 1) := by decide +kernel
theorem dX9_has_37 : decode cX9_has 37 = .ok (.iload_n 1, 1) := by decide +kernel
theorem dX9_has_38 : decode cX9_has 38 = .ok (.if_icmp .ne 7, 3) := by decide +kernel
theorem dX9_has_41 : decode cX9_has 41 = .ok (.iconst 1, 1) := by decide +kernel
theorem dX9_has_42 : decode cX9_has 42 = .ok (.goto 4, 3) := by decide +kernel
theorem dX9_has_45 : decode cX9_has 45 = .ok (.iconst 0, 1) := by decide +kernel
theorem dX9_has_46 : decode cX9_has 46 = .ok (.ior, 1) := by decide +kernel
theorem dX9_has_47 : decode cX9_has 47 = .ok (.istore_n 2, 1) := by decide +kernel
theorem dX9_has_48 : decode cX9_has 48 = .ok (.goto (-36), 3) := by decide +kernel
theorem dX9_has_51 : decode cX9_has 51 = .ok (.iload_n 2, 1) := by decide +kernel
theorem dX9_has_52 : decode cX9_has 52 = .ok (.ireturn, 1) := by decide +kernel
set_option maxRecDepth 20000 in
theorem ggX9_concept_X9_isSet : GoodIn wsX9_concept wsX9_isSet := goodIn_r _ [8, 9, 10, 11, 7, 12, 114, 115, 116, 117, 118, 119, 120, 121, 122, 123, 124, 125, 126, 127, 128, 129, 130] (by decide +kernel) (by decide +kernel)
set_option maxRecDepth 20000 in
theorem gX9_concept_X9_isSet : GoodIn wsX9_concept (wsV RX9 88 RX9 yX9_isSet wsX9_isSet) := goodIn_app (goodIn_of _ (by decide +kernel)) ggX9_concept_X9_isSet
set_option maxRecDepth 20000 in
theorem ggX9_concept_X9_has : GoodIn wsX9_concept wsX9_has := goodIn_r _ [16, 2, 17, 18, 19, 20, 21, 22, 23, 24, 25, 26, 27, 28, 29, 30, 31, 32, 33, 34, 35, 36, 37, 38, 39, 40, 41, 42, 43, 44, 45, 46, 47, 48, 49, 50, 114, 115, 116, 117, 118, 119, 120, 121, 122, 123, 124, 125, 126, 127, 128, 129, 130, 131, 132, 133, 134, 135, 136, 137] (by decide +kernel) (by decide +kernel)
set_option maxRecDepth 20000 in
theorem gX9_concept_X9_has : GoodIn wsX9_concept (wsV RX9 91 RX9 yX9_has wsX9_has) := goodIn_app (goodIn_of _ (by decide +kernel)) ggX9_concept_X9_has
set_option maxRecDepth 20000 in
theorem ggX9_concept_Jx4a65c_size_8abf5 : GoodIn wsX9_concept wsJx4a65c_size_8abf5 := goodIn_r _ [54, 55, 135, 136, 137] (by decide +kernel) (by decide +kernel)
set_option maxRecDepth 20000 in
theorem gX9_concept_Jx4a65c_size_8abf5_f50Jx4a65c : GoodIn wsX9_concept (va_wsF RX9 50 RJx4a65c ⟨"java/util/List", "size", "()I"⟩ yJx4a65c_size_8abf5 wsJx4a65c_size_8abf5) := goodIn_app (goodIn_of _ (by decide +kernel)) ggX9_concept_Jx4a65c_size_8abf5
set_option maxRecDepth 20000 in
theorem ggX9_concept_X9_isWrong : GoodIn wsX9_concept wsX9_isWrong := goodIn_r _ [59, 60, 114, 115, 116, 117, 118, 119, 120, 121, 122, 123, 124, 125, 126, 127, 128, 129, 130] (by decide +kernel) (by decide +kernel)
set_option maxRecDepth 20000 in
theorem gX9_concept_X9_isWrong : GoodIn wsX9_concept (wsV RX9 62 RX9 yX9_isWrong wsX9_isWrong) := goodIn_app (goodIn_of _ (by decide +kernel)) ggX9_concept_X9_isWrong
set_option maxRecDepth 20000 in
theorem ggX9_concept_Jx4a65c_add_9ea2d : GoodIn wsX9_concept wsJx4a65c_add_9ea2d := goodIn_r _ [64, 65, 35, 66, 55, 67, 68, 69, 21, 70, 71, 72, 73, 74, 75, 76, 77, 78, 79, 80, 81, 82, 83, 84, 85, 86, 87, 88, 89, 90, 91, 92, 93, 94, 95, 96, 97, 98, 99, 100, 101, 102, 103, 104, 105, 106, 107, 108, 109, 110, 111, 112, 113, 135, 136, 137] (by decide +kernel) (by decide +kernel)
set_option maxRecDepth 20000 in
theorem gX9_concept_Jx4a65c_add_9ea2d_f94Jx4a65c : GoodIn wsX9_concept (va_wsF RX9 94 RJx4a65c ⟨"java/util/List", "add", "(Ljava/lang/Object;)Z"⟩ yJx4a65c_add_9ea2d wsJx4a65c_add_9ea2d) := goodIn_app (goodIn_of _ (by decide +kernel)) ggX9_concept_Jx4a65c_add_9ea2d
theorem dX9_concept_0 : decode cX9_concept 0 = .ok (.aload_n 0, 1) := by decide +kernel
theorem dX9_concept_1 : decode cX9_concept 1 = .ok (.aload_n 0, 1) := by decide +kernel
theorem dX9_concept_2 : decode cX9_concept 2 = .ok (.iload_n 1, 1) := by decide +kernel
theorem dX9_concept_3 : decode cX9_concept 3 = .ok (.invokevirtual 88, 3) := by decide +kernel
theorem dX9_concept_6 : decode cX9_concept 6 = .ok (.ifCond .ne 7, 3) := by decide +kernel
theorem dX9_concept_9 : decode cX9_concept 9 = .ok (.iconst 1, 1) := by decide +kernel
theorem dX9_concept_10 : decode cX9_concept 10 = .ok (.goto 41, 3) := by decide +kernel
theorem dX9_concept_13 : decode cX9_concept 13 = .ok (.aload_n 0, 1) := by decide +kernel
theorem dX9_concept_14 : decode cX9_concept 14 = .ok (.iload_n 1, 1) := by decide +kernel
theorem dX9_concept_15 : decode cX9_concept 15 = .ok (.invokevirtual 91, 3) := by decide +kernel
theorem dX9_concept_18 : decode cX9_concept 18 = .ok (.ifCond .ne 10, 3) := by decide +kernel
theorem dX9_concept_21 : decode cX9_concept 21 = .ok (.aload_n 0, 1) := by decide +kernel
theorem dX9_concept_22 : decode cX9_concept 22 = .ok (.getfield 69, 3) := by decide +kernel
theorem dX9_concept_25 : decode cX9_concept 25 = .ok (.ifCond .le 7, 3) := by decide +kernel
theorem dX9_concept_28 : decode cX9_concept 28 = .ok (.iconst 2, 1) := by decide +kernel
theorem dX9_concept_29 : decode cX9_concept 29 = .ok (.goto 22, 3) := by decide +kernel
theorem dX9_concept_32 : decode cX9_concept 32 = .ok (.aload_n 0, 1) := by decide +kernel
theorem dX9_concept_33 : decode cX9_concept 33 = .ok (.getfield 10, 3) := by decide +kernel
theorem dX9_concept_36 : decode cX9_concept 36 = .ok (.invokeinterface 50 1, 5) := by decide +kernel
theorem dX9_concept_41 : decode cX9_concept 41 = .ok (.bipush 24, 2) := by decide +kernel
theorem dX9_concept_43 : decode cX9_concept 43 = .ok (.if_icmp .ne 7, 3) := by decide +kernel
theorem dX9_concept_46 : decode cX9_concept 46 = .ok (.iconst 3, 1) := by decide +kernel
theorem dX9_concept_47 : decode cX9_concept 47 = .ok (.goto 4, 3) := by decide +kernel
theorem dX9_concept_50 : decode cX9_concept 50 = .ok (.iconst 0, 1) := by decide +kernel
theorem dX9_concept_51 : decode cX9_concept 51 = .ok (.invokevirtual 62, 3) := by decide +kernel
theorem dX9_concept_54 : decode cX9_concept 54 = .ok (.ifCond .eq 5, 3) := by decide +kernel
theorem dX9_concept_57 : decode cX9_concept 57 = .ok (.iconst 0, 1) := by decide +kernel
theorem dX9_concept_58 : decode cX9_concept 58 = .ok (.ireturn, 1) := by decide +kernel
theorem dX9_concept_59 : decode cX9_concept 59 = .ok (.aload_n 0, 1) := by decide +kernel
theorem dX9_concept_60 : decode cX9_concept 60 = .ok (.getfield 10, 3) := by decide +kernel
theorem dX9_concept_63 : decode cX9_concept 63 = .ok (.iconst 3, 1) := by decide +kernel
theorem dX9_concept_64 : decode cX9_concept 64 = .ok (.newarray .int, 2) := by decide +kernel
theorem dX9_concept_66 : decode cX9_concept 66 = .ok (.dup, 1) := by decide +kernel
theorem dX9_concept_67 : decode cX9_concept 67 = .ok (.iconst 0, 1) := by decide +kernel
theorem dX9_concept_68 : decode cX9_concept 68 = .ok (.iload_n 1, 1) := by decide +kernel
theorem dX9_concept_69 : decode cX9_concept 69 = .ok (.iastore, 1) := by decide +kernel
theorem dX9_concept_70 : decode cX9_concept 70 = .ok (.dup, 1) := by decide +kernel
theorem dX9_concept_71 : decode cX9_concept 71 = .ok (.iconst 1, 1) := by decide +kernel
theorem dX9_concept_72 : decode cX9_concept 72 = .ok (.iconst 0, 1) := by decide +kernel
theorem dX9_concept_73 : decode cX9_concept 73 = .ok (.iastore, 1) := by decide +kernel
theorem dX9_concept_74 : decode cX9_concept 74 = .ok (.dup, 1) := by decide +kernel
theorem dX9_concept_75 : decode cX9_concept 75 = .ok (.iconst 2, 1) := by decide +kernel
theorem dX9_concept_76 : decode cX9_concept 76 = .ok (.iconst 0, 1) := by decide +kernel
theorem dX9_concept_77 : decode cX9_concept 77 = .ok (.iastore, 1) := by decide +kernel
theorem dX9_concept_78 : decode cX9_concept 78 = .ok (.invokeinterface 94 2, 5) := by decide +kernel
theorem dX9_concept_83 : decode cX9_concept 83 = .ok (.pop, 1) := by decide +kernel
theorem dX9_concept_84 : decode cX9_concept 84 = .ok (.aload_n 0, 1) := by decide +kernel
theorem dX9_concept_85 : decode cX9_concept 85 = .ok (.getfield 10, 3) := by decide +kernel
theorem dX9_concept_88 : decode cX9_concept 88 = .ok (.invokeinterface 50 1, 5) := by decide +kernel
theorem dX9_concept_93 : decode cX9_concept 93 = .ok (.iconst 1, 1) := by decide +kernel
theorem dX9_concept_94 : decode cX9_concept 94 = .ok (.isub, 1) := by decide +kernel
theorem dX9_concept_95 : decode cX9_concept 95 = .ok (.ireturn, 1) := by decide +kernel
set_option maxRecDepth 20000 in
theorem ggX9_isIn_J6_bitCount_0f7a4 : GoodIn wsX9_isIn wsJ6_bitCount_0f7a4 := goodIn_r _ [4, 5, 6, 7] (by decide +kernel) (by decide +kernel)
set_option maxRecDepth 20000 in
theorem gX9_isIn_J6_bitCount_0f7a4 : GoodIn wsX9_isIn (va_wsS RX9 98 yJ6_bitCount_0f7a4 wsJ6_bitCount_0f7a4) := goodIn_app (goodIn_of _ (by decide +kernel)) ggX9_isIn_J6_bitCount_0f7a4
theorem dX9_isIn_0 : decode cX9_isIn 0 = .ok (.iload_n 1, 1) := by decide +kernel
theorem dX9_isIn_1 : decode cX9_isIn 1 = .ok (.invokestatic 98, 3) := by decide +kernel
theorem dX9_isIn_4 : decode cX9_isIn 4 = .ok (.istore_n 2, 1) := by decide +kernel
theorem dX9_isIn_5 : decode cX9_isIn 5 = .ok (.iload_n 1, 1) := by decide +kernel
theorem dX9_isIn_6 : decode cX9_isIn 6 = .ok (.iload_n 1, 1) := by decide +kernel
theorem dX9_isIn_7 : decode cX9_isIn 7 = .ok (.ineg, 1) := by decide +kernel
theorem dX9_isIn_8 : decode cX9_isIn 8 = .ok (.iand, 1) := by decide +kernel
theorem dX9_isIn_9 : decode cX9_isIn 9 = .ok (.istore_n 3, 1) := by decide +kernel
theorem dX9_isIn_10 : decode cX9_isIn 10 = .ok (.iload_n 1, 1) := by decide +kernel
theorem dX9_isIn_11 : decode cX9_isIn 11 = .ok (.ifCond .eq 11, 3) := by decide +kernel
theorem dX9_isIn_14 : decode cX9_isIn 14 = .ok (.iload_n 1, 1) := by decide +kernel
theorem dX9_isIn_15 : decode cX9_isIn 15 = .ok (.iload_n 3, 1) := by decide +kernel
theorem dX9_isIn_16 : decode cX9_isIn 16 = .ok (.iadd, 1) := by decide +kernel
theorem dX9_isIn_17 : decode cX9_isIn 17 = .ok (.iload_n 1, 1) := by decide +kernel
theorem dX9_isIn_18 : decode cX9_isIn 18 = .ok (.iand, 1) := by decide +kernel
theorem dX9_isIn_19 : decode cX9_isIn 19 = .ok (.ifCond .ne 7, 3) := by decide +kernel
theorem dX9_isIn_22 : decode cX9_isIn 22 = .ok (.iconst 1, 1) := by decide +kernel
theorem dX9_isIn_23 : decode cX9_isIn 23 = .ok (.goto 4, 3) := by decide +kernel
theorem dX9_isIn_26 : decode cX9_isIn 26 = .ok (.iconst 0, 1) := by decide +kernel
theorem dX9_isIn_27 : decode cX9_isIn 27 = .ok (.istore 4, 2) := by decide +kernel
theorem dX9_isIn_29 : decode cX9_isIn 29 = .ok (.iload_n 0, 1) := by decide +kernel
theorem dX9_isIn_30 : decode cX9_isIn 30 = .ok (.bipush 116, 2) := by decide +kernel
theorem dX9_isIn_32 : decode cX9_isIn 32 = .ok (.if_icmp .ne 19, 3) := by decide +kernel
theorem dX9_isIn_35 : decode cX9_isIn 35 = .ok (.iload_n 1, 1) := by decide +kernel
theorem dX9_isIn_36 : decode cX9_isIn 36 = .ok (.iload_n 1, 1) := by decide +kernel
theorem dX9_isIn_37 : decode cX9_isIn 37 = .ok (.iconst 1, 1) := by decide +kernel
theorem dX9_isIn_38 : decode cX9_isIn 38 = .ok (.iadd, 1) := by decide +kernel
theorem dX9_isIn_39 : decode cX9_isIn 39 = .ok (.iand, 1) := by decide +kernel
theorem dX9_isIn_40 : decode cX9_isIn 40 = .ok (.ifCond .ne 7, 3) := by decide +kernel
theorem dX9_isIn_43 : decode cX9_isIn 43 = .ok (.iconst 1, 1) := by decide +kernel
theorem dX9_isIn_44 : decode cX9_isIn 44 = .ok (.goto 48, 3) := by decide +kernel
theorem dX9_isIn_47 : decode cX9_isIn 47 = .ok (.iconst 0, 1) := by decide +kernel
theorem dX9_isIn_48 : decode cX9_isIn 48 = .ok (.goto 44, 3) := by decide +kernel
theorem dX9_isIn_51 : decode cX9_isIn 51 = .ok (.iload_n 0, 1) := by decide +kernel
theorem dX9_isIn_52 : decode cX9_isIn 52 = .ok (.bipush 115, 2) := by decide +kernel
theorem dX9_isIn_54 : decode cX9_isIn 54 = .ok (.if_icmp .ne 16, 3) := by decide +kernel
theorem dX9_isIn_57 : decode cX9_isIn 57 = .ok (.iload_n 2, 1) := by decide +kernel
theorem dX9_isIn_58 : decode cX9_isIn 58 = .ok (.iconst 1, 1) := by decide +kernel
theorem dX9_isIn_59 : decode cX9_isIn 59 = .ok (.if_icmp .gt 7, 3) := by decide +kernel
theorem dX9_isIn_62 : decode cX9_isIn 62 = .ok (.iconst 1, 1) := by decide +kernel
theorem dX9_isIn_63 : decode cX9_isIn 63 = .ok (.goto 29, 3) := by decide +kernel
theorem dX9_isIn_66 : decode cX9_isIn 66 = .ok (.iconst 0, 1) := by decide +kernel
theorem dX9_isIn_67 : decode cX9_isIn 67 = .ok (.goto 25, 3) := by decide +kernel
theorem dX9_isIn_70 : decode cX9_isIn 70 = .ok (.iload_n 0, 1) := by decide +kernel
theorem dX9_isIn_71 : decode cX9_isIn 71 = .ok (.bipush 105, 2) := by decide +kernel
theorem dX9_isIn_73 : decode cX9_isIn 73 = .ok (.if_icmp .ne 8, 3) := by decide +kernel
theorem dX9_isIn_76 : decode cX9_isIn 76 = .ok (.iload 4, 2) := by decide +kernel
theorem dX9_isIn_78 : decode cX9_isIn 78 = .ok (.goto 14, 3) := by decide +kernel
theorem dX9_isIn_81 : decode cX9_isIn 81 = .ok (.iload_n 2, 1) := by decide +kernel
theorem dX9_isIn_82 : decode cX9_isIn 82 = .ok (.iconst 2, 1) := by decide +kernel
theorem dX9_isIn_83 : decode cX9_isIn 83 = .ok (.irem, 1) := by decide +kernel
theorem dX9_isIn_84 : decode cX9_isIn 84 = .ok (.ifCond .ne 7, 3) := by decide +kernel
theorem dX9_isIn_87 : decode cX9_isIn 87 = .ok (.iconst 1, 1) := by decide +kernel
theorem dX9_isIn_88 : decode cX9_isIn 88 = .ok (.goto 4, 3) := by decide +kernel
theorem dX9_isIn_91 : decode cX9_isIn 91 = .ok (.iconst 0, 1) := by decide +kernel
theorem dX9_isIn_92 : decode cX9_isIn 92 = .ok (.ireturn, 1) := by decide +kernel
set_option maxRecDepth 20000 in
theorem ggX9_family_J0_indexOf_0f7a4 : GoodIn wsX9_family wsJ0_indexOf_0f7a4 := goodIn_r _ [13, 14, 15, 16, 12, 17, 18, 19, 20, 21, 22, 23, 24, 25, 26, 27, 28, 29, 30, 31, 32, 33, 34, 35, 36, 37, 38, 39, 40, 41, 42, 43, 44, 45, 46, 47, 48, 49, 50, 51, 52, 53, 54, 55, 56, 57, 58, 59, 60, 61, 62, 63, 64, 65, 66, 67, 68, 69, 70, 71, 72, 73, 74, 75, 76, 77, 78, 79, 80, 81, 82, 83, 84, 85, 86, 87, 88, 89, 90, 91, 92, 93, 94, 95, 96, 97] (by decide +kernel) (by decide +kernel)
set_option maxRecDepth 20000 in
theorem gX9_family_J0_indexOf_0f7a4 : GoodIn wsX9_family (wsV RX9 106 RJ0 yJ0_indexOf_0f7a4 wsJ0_indexOf_0f7a4) := goodIn_app (goodIn_of _ (by decide +kernel)) ggX9_family_J0_indexOf_0f7a4
set_option maxRecDepth 20000 in
theorem ggX9_family_X9_isWrong : GoodIn wsX9_family wsX9_isWrong := goodIn_r _ [102, 103, 237, 238, 239, 240, 241, 242, 243, 244, 245, 246, 247, 248, 249, 250, 251, 252, 253] (by decide +kernel) (by decide +kernel)
set_option maxRecDepth 20000 in
theorem gX9_family_X9_isWrong : GoodIn wsX9_family (wsV RX9 62 RX9 yX9_isWrong wsX9_isWrong) := goodIn_app (goodIn_of _ (by decide +kernel)) ggX9_family_X9_isWrong
set_option maxRecDepth 20000 in
theorem ggX9_family_Jx4a65c_init_da8c8 : GoodIn wsX9_family wsJx4a65c_init_da8c8 := goodIn_r _ [106, 107, 108, 109, 110, 111, 112, 113, 114, 115, 116, 117, 118, 119, 120, 254, 255, 256] (by decide +kernel) (by decide +kernel)
set_option maxRecDepth 20000 in
theorem gX9_family_Jx4a65c_init_da8c8 : GoodIn wsX9_family (wsJx4a65c_init_da8c8) := ggX9_family_Jx4a65c_init_da8c8
set_option maxRecDepth 20000 in
theorem ggX9_family_X9_isIn : GoodIn wsX9_family wsX9_isIn := goodIn_r _ [123, 124, 125, 126, 127, 128, 129, 130] (by decide +kernel) (by decide +kernel)
set_option maxRecDepth 20000 in
theorem gX9_family_X9_isIn : GoodIn wsX9_family (va_wsS RX9 111 yX9_isIn wsX9_isIn) := goodIn_app (goodIn_of _ (by decide +kernel)) ggX9_family_X9_isIn
set_option maxRecDepth 20000 in
theorem ggX9_family_X9_has : GoodIn wsX9_family wsX9_has := goodIn_r _ [134, 6, 135, 136, 137, 138, 4, 139, 140, 141, 142, 143, 144, 145, 146, 147, 119, 120, 148, 149, 150, 151, 152, 153, 154, 155, 156, 157, 158, 159, 160, 161, 162, 163, 164, 165, 237, 238, 239, 240, 241, 242, 243, 244, 245, 246, 247, 248, 249, 250, 251, 252, 253, 257, 258, 259, 260, 254, 255, 256] (by decide +kernel) (by decide +kernel)
set_option maxRecDepth 20000 in
theorem gX9_family_X9_has : GoodIn wsX9_family (wsV RX9 91 RX9 yX9_has wsX9_has) := goodIn_app (goodIn_of _ (by decide +kernel)) ggX9_family_X9_has
set_option maxRecDepth 20000 in
theorem ggX9_family_J6_valueOf_2dffe : GoodIn wsX9_family wsJ6_valueOf_2dffe := goodIn_r _ [168, 169, 170, 171, 172, 126, 173, 174, 175, 176, 177, 178, 179, 180, 181, 119, 120, 261] (by decide +kernel) (by decide +kernel)
set_option maxRecDepth 20000 in
theorem gX9_family_J6_valueOf_2dffe : GoodIn wsX9_family (va_wsS RX9 115 yJ6_valueOf_2dffe wsJ6_valueOf_2dffe) := goodIn_app (goodIn_of _ (by decide +kernel)) ggX9_family_J6_valueOf_2dffe
set_option maxRecDepth 20000 in
theorem ggX9_family_Jx4a65c_add_9ea2d : GoodIn wsX9_family wsJx4a65c_add_9ea2d := goodIn_r _ [185, 186, 150, 108, 187, 188, 189, 190, 4, 191, 192, 193, 194, 195, 196, 197, 198, 199, 107, 200, 38, 39, 40, 201, 202, 203, 204, 205, 206, 207, 208, 209, 210, 211, 212, 213, 214, 215, 216, 217, 218, 219, 220, 221, 222, 223, 224, 42, 43, 225, 226, 227, 228, 254, 255, 256] (by decide +kernel) (by decide +kernel)
set_option maxRecDepth 20000 in
theorem gX9_family_Jx4a65c_add_9ea2d_f94Jx4a65c : GoodIn wsX9_family (va_wsF RX9 94 RJx4a65c ⟨"java/util/List", "add", "(Ljava/lang/Object;)Z"⟩ yJx4a65c_add_9ea2d wsJx4a65c_add_9ea2d) := goodIn_app (goodIn_of _ (by decide +kernel)) ggX9_family_Jx4a65c_add_9ea2d
set_option maxRecDepth 20000 in
theorem ggX9_family_Jx4a65c_size_8abf5 : GoodIn wsX9_family wsJx4a65c_size_8abf5 := goodIn_r _ [232, 187, 254, 255, 256] (by decide +kernel) (by decide +kernel)
set_option maxRecDepth 20000 in
theorem gX9_family_Jx4a65c_size_8abf5_f50Jx4a65c : GoodIn wsX9_family (va_wsF RX9 50 RJx4a65c ⟨"java/util/List", "size", "()I"⟩ yJx4a65c_size_8abf5 wsJx4a65c_size_8abf5) := goodIn_app (goodIn_of _ (by decide +kernel)) ggX9_family_Jx4a65c_size_8abf5
set_option maxRecDepth 20000 in
theorem ggX9_family_Jx4a65c_iterator_32c93 : GoodIn wsX9_family wsJx4a65c_iterator_32c93 := goodIn_r _ [139, 140, 141, 142, 143, 144, 145, 146, 147, 119, 120, 148, 149, 150, 151, 257, 258, 259, 260, 254, 255, 256] (by decide +kernel) (by decide +kernel)
set_option maxRecDepth 20000 in
theorem gX9_family_Jx4a65c_iterator_32c93_f72Jx4a65c : GoodIn wsX9_family (va_wsF RX9 72 RJx4a65c ⟨"java/util/List", "iterator", "()Ljava/util/Iterator;"⟩ yJx4a65c_iterator_32c93 wsJx4a65c_iterator_32c93) := goodIn_app (goodIn_of _ (by decide +kernel)) ggX9_family_Jx4a65c_iterator_32c93
set_option maxRecDepth 20000 in
theorem ggX9_family_Jx35411_hasNext_aae02 : GoodIn wsX9_family wsJx35411_hasNext_aae02 := goodIn_r _ [155, 156, 146, 257, 258, 259, 260, 254, 255, 256] (by decide +kernel) (by decide +kernel)
set_option maxRecDepth 20000 in
theorem gX9_family_Jx35411_hasNext_aae02_f76Jx35411 : GoodIn wsX9_family (va_wsF RX9 76 RJx35411 ⟨"java/util/Iterator", "hasNext", "()Z"⟩ yJx35411_hasNext_aae02 wsJx35411_hasNext_aae02) := goodIn_app (goodIn_of _ (by decide +kernel)) ggX9_family_Jx35411_hasNext_aae02
set_option maxRecDepth 20000 in
theorem ggX9_family_Jx35411_next_0502b : GoodIn wsX9_family wsJx35411_next_0502b := goodIn_r _ [160, 156, 146, 161, 148, 162, 163, 164, 142, 165, 149, 150, 151, 257, 258, 259, 260, 254, 255, 256] (by decide +kernel) (by decide +kernel)
set_option maxRecDepth 20000 in
theorem gX9_family_Jx35411_next_0502b_f82Jx35411 : GoodIn wsX9_family (va_wsF RX9 82 RJx35411 ⟨"java/util/Iterator", "next", "()Ljava/lang/Object;"⟩ yJx35411_next_0502b wsJx35411_next_0502b) := goodIn_app (goodIn_of _ (by decide +kernel)) ggX9_family_Jx35411_next_0502b
set_option maxRecDepth 20000 in
theorem ggX9_family_J6_intValue_8abf5 : GoodIn wsX9_family wsJ6_intValue_8abf5 := goodIn_r _ [236, 176, 261] (by decide +kernel) (by decide +kernel)
set_option maxRecDepth 20000 in
theorem gX9_family_J6_intValue_8abf5 : GoodIn wsX9_family (wsV RX9 119 RJ6 yJ6_intValue_8abf5 wsJ6_intValue_8abf5) := goodIn_app (goodIn_of _ (by decide +kernel)) ggX9_family_J6_intValue_8abf5
theorem dX9_family_0 : decode cX9_family 0 = .ok (.aload_n 0, 1) := by decide +kernel
theorem dX9_family_1 : decode cX9_family 1 = .ok (.ldc 104, 2) := by decide +kernel
theorem dX9_family_3 : decode cX9_family 3 = .ok (.iload_n 1, 1) := by decide +kernel
theorem dX9_family_4 : decode cX9_family 4 = .ok (.invokevirtual 106, 3) := by decide +kernel
theorem dX9_family_7 : decode cX9_family 7 = .ok (.ifCond .ge 7, 3) := by decide +kernel
theorem dX9_family_10 : decode cX9_family 10 = .ok (.iconst 1, 1) := by decide +kernel
theorem dX9_family_11 : decode cX9_family 11 = .ok (.goto 15, 3) := by decide +kernel
theorem dX9_family_14 : decode cX9_family 14 = .ok (.aload_n 0, 1) := by decide +kernel
theorem dX9_family_15 : decode cX9_family 15 = .ok (.getfield 69, 3) := by decide +kernel
theorem dX9_family_18 : decode cX9_family 18 = .ok (.ifCond .le 7, 3) := by decide +kernel
theorem dX9_family_21 : decode cX9_family 21 = .ok (.iconst 2, 1) := by decide +kernel
theorem dX9_family_22 : decode cX9_family 22 = .ok (.goto 4, 3) := by decide +kernel
theorem dX9_family_25 : decode cX9_family 25 = .ok (.iconst 0, 1) := by decide +kernel
theorem dX9_family_26 : decode cX9_family 26 = .ok (.invokevirtual 62, 3) := by decide +kernel
theorem dX9_family_29 : decode cX9_family 29 = .ok (.ifCond .eq 5, 3) := by decide +kernel
theorem dX9_family_32 : decode cX9_family 32 = .ok (.iconst 0, 1) := by decide +kernel
theorem dX9_family_33 : decode cX9_family 33 = .ok (.ireturn, 1) := by decide +kernel
theorem dX9_family_34 : decode cX9_family 34 = .ok (.new 7, 3) := by decide +kernel
theorem dX9_family_37 : decode cX9_family 37 = .ok (.dup, 1) := by decide +kernel
theorem dX9_family_38 : decode cX9_family 38 = .ok (.invokespecial 9, 3) := by decide +kernel
theorem dX9_family_41 : decode cX9_family 41 = .ok (.astore_n 2, 1) := by decide +kernel
theorem dX9_family_42 : decode cX9_family 42 = .ok (.iconst 0, 1) := by decide +kernel
theorem dX9_family_43 : decode cX9_family 43 = .ok (.istore_n 3, 1) := by decide +kernel
theorem dX9_family_44 : decode cX9_family 44 = .ok (.iload_n 3, 1) := by decide +kernel
theorem dX9_family_45 : decode cX9_family 45 = .ok (.iconst 1, 1) := by decide +kernel
theorem dX9_family_46 : decode cX9_family 46 = .ok (.aload_n 0, 1) := by decide +kernel
theorem dX9_family_47 : decode cX9_family 47 = .ok (.getfield 16, 3) := by decide +kernel
theorem dX9_family_50 : decode cX9_family 50 = .ok (.ishl, 1) := by decide +kernel
theorem dX9_family_51 : decode cX9_family 51 = .ok (.if_icmp .ge 36, 3) := by decide +kernel
theorem dX9_family_54 : decode cX9_family 54 = .ok (.iload_n 1, 1) := by decide +kernel
theorem dX9_family_55 : decode cX9_family 55 = .ok (.iload_n 3, 1) := by decide +kernel
theorem dX9_family_56 : decode cX9_family 56 = .ok (.invokestatic 111, 3) := by decide +kernel
theorem dX9_family_59 : decode cX9_family 59 = .ok (.ifCond .eq 22, 3) := by decide +kernel
theorem dX9_family_62 : decode cX9_family 62 = .ok (.aload_n 0, 1) := by decide +kernel
theorem dX9_family_63 : decode cX9_family 63 = .ok (.iload_n 3, 1) := by decide +kernel
theorem dX9_family_64 : decode cX9_family 64 = .ok (.invokevirtual 91, 3) := by decide +kernel
theorem dX9_family_67 : decode cX9_family 67 = .ok (.ifCond .ne 14, 3) := by decide +kernel
theorem dX9_family_70 : decode cX9_family 70 = .ok (.aload_n 2, 1) := by decide +kernel
theorem dX9_family_71 : decode cX9_family 71 = .ok (.iload_n 3, 1) := by decide +kernel
theorem dX9_family_72 : decode cX9_family 72 = .ok (.invokestatic 115, 3) := by decide +kernel
theorem dX9_family_75 : decode cX9_family 75 = .ok (.invokeinterface 94 2, 5) := by decide +kernel
theorem dX9_family_80 : decode cX9_family 80 = .ok (.pop, 1) := by decide +kernel
theorem dX9_family_81 : decode cX9_family 81 = .ok (.iinc 3 1, 3) := by decide +kernel
theorem dX9_family_84 : decode cX9_family 84 = .ok (.goto (-40), 3) := by decide +kernel
theorem dX9_family_87 : decode cX9_family 87 = .ok (.aload_n 0, 1) := by decide +kernel
theorem dX9_family_88 : decode cX9_family 88 = .ok (.aload_n 0, 1) := by decide +kernel
theorem dX9_family_89 : decode cX9_family 89 = .ok (.getfield 10, 3) := by decide +kernel
theorem dX9_family_92 : decode cX9_family 92 = .ok (.invokeinterface 50 1, 5) := by decide +kernel
theorem dX9_family_97 : decode cX9_family 97 = .ok (.aload_n 2, 1) := by decide +kernel
theorem dX9_family_98 : decode cX9_family 98 = .ok (.invokeinterface 50 1, 5) := by decide +kernel
theorem dX9_family_103 : decode cX9_family 103 = .ok (.iadd, 1) := by decide +kernel
theorem dX9_family_104 : decode cX9_family 104 = .ok (.bipush 24, 2) := by decide +kernel
theorem dX9_family_106 : decode cX9_family 106 = .ok (.if_icmp .le 7, 3) := by decide +kernel
theorem dX9_family_109 : decode cX9_family 109 = .ok (.iconst 3, 1) := by decide +kernel
theorem dX9_family_110 : decode cX9_family 110 = .ok (.goto 4, 3) := by decide +kernel
theorem dX9_family_113 : decode cX9_family 113 = .ok (.iconst 0, 1) := by decide +kernel
theorem dX9_family_114 : decode cX9_family 114 = .ok (.invokevirtual 62, 3) := by decide +kernel
theorem dX9_family_117 : decode cX9_family 117 = .ok (.ifCond .eq 5, 3) := by decide +kernel
theorem dX9_family_120 : decode cX9_family 120 = .ok (.iconst 0, 1) := by decide +kernel
theorem dX9_family_121 : decode cX9_family 121 = .ok (.ireturn, 1) := by decide +kernel
theorem dX9_family_122 : decode cX9_family 122 = .ok (.aload_n 2, 1) := by decide +kernel
theorem dX9_family_123 : decode cX9_family 123 = .ok (.invokeinterface 72 1, 5) := by decide +kernel
theorem dX9_family_128 : decode cX9_family 128 = .ok (.astore_n 3, 1) := by decide +kernel
theorem dX9_family_129 : decode cX9_family 129 = .ok (.aload_n 3, 1) := by decide +kernel
theorem dX9_family_130 : decode cX9_family 130 = .ok (.invokeinterface 76 1, 5) := by decide +kernel
theorem dX9_family_135 : decode cX9_family 135 = .ok (.ifCond .eq 46, 3) := by decide +kernel
theorem dX9_family_138 : decode cX9_family 138 = .ok (.aload_n 3, 1) := by decide +kernel
theorem dX9_family_139 : decode cX9_family 139 = .ok (.invokeinterface 82 1, 5) := by decide +kernel
theorem dX9_family_144 : decode cX9_family 144 = .ok (.checkcast 99, 3) := by decide +kernel
theorem dX9_family_147 : decode cX9_family 147 = .ok (.invokevirtual 119, 3) := by decide +kernel
theorem dX9_family_150 : decode cX9_family 150 = .ok (.istore 4, 2) := by decide +kernel
theorem dX9_family_152 : decode cX9_family 152 = .ok (.aload_n 0, 1) := by decide +kernel
theorem dX9_family_153 : decode cX9_family 153 = .ok (.getfield 10, 3) := by decide +kernel
theorem dX9_family_156 : decode cX9_family 156 = .ok (.iconst 3, 1) := by decide +kernel
theorem dX9_family_157 : decode cX9_family 157 = .ok (.newarray .int, 2) := by decide +kernel
theorem dX9_family_159 : decode cX9_family 159 = .ok (.dup, 1) := by decide +kernel
theorem dX9_family_160 : decode cX9_family 160 = .ok (.iconst 0, 1) := by decide +kernel
theorem dX9_family_161 : decode cX9_family 161 = .ok (.iload 4, 2) := by decide +kernel
theorem dX9_family_163 : decode cX9_family 163 = .ok (.iastore, 1) := by decide +kernel
theorem dX9_family_164 : decode cX9_family 164 = .ok (.dup, 1) := by decide +kernel
theorem dX9_family_165 : decode cX9_family 165 = .ok (.iconst 1, 1) := by decide +kernel
theorem dX9_family_166 : decode cX9_family 166 = .ok (.iconst 0, 1) := by decide +kernel
theorem dX9_family_167 : decode cX9_family 167 = .ok (.iastore, 1) := by decide +kernel
theorem dX9_family_168 : decode cX9_family 168 = .ok (.dup, 1) := by decide +kernel
theorem dX9_family_169 : decode cX9_family 169 = .ok (.iconst 2, 1) := by decide +kernel
theorem dX9_family_170 : decode cX9_family 170 = .ok (.iconst 0, 1) := by decide +kernel
theorem dX9_family_171 : decode cX9_family 171 = .ok (.iastore, 1) := by decide +kernel
theorem dX9_family_172 : decode cX9_family 172 = .ok (.invokeinterface 94 2, 5) := by decide +kernel
theorem dX9_family_177 : decode cX9_family 177 = .ok (.pop, 1) := by decide +kernel
theorem dX9_family_178 : decode cX9_family 178 = .ok (.goto (-49), 3) := by decide +kernel
theorem dX9_family_181 : decode cX9_family 181 = .ok (.aload_n 0, 1) := by decide +kernel
theorem dX9_family_182 : decode cX9_family 182 = .ok (.getfield 10, 3) := by decide +kernel
theorem dX9_family_185 : decode cX9_family 185 = .ok (.invokeinterface 50 1, 5) := by decide +kernel
theorem dX9_family_190 : decode cX9_family 190 = .ok (.ireturn, 1) := by decide +kernel
set_option maxRecDepth 20000 in
theorem ggX9_isNoConcept_X9_isOf : GoodIn wsX9_isNoConcept wsX9_isOf := goodIn_r _ [5, 6, 7, 8, 9, 10, 11, 34, 35, 36] (by decide +kernel) (by decide +kernel)
set_option maxRecDepth 20000 in
theorem gX9_isNoConcept_X9_isOf : GoodIn wsX9_isNoConcept (va_wsS RX9 122 yX9_isOf wsX9_isOf) := goodIn_app (goodIn_of _ (by decide +kernel)) ggX9_isNoConcept_X9_isOf
set_option maxRecDepth 20000 in
theorem ggX9_isNoConcept_X9_isWrong : GoodIn wsX9_isNoConcept wsX9_isWrong := goodIn_r _ [15, 16, 17, 18, 19, 20, 21, 22, 23, 24, 25, 26, 27, 28, 29, 30, 31, 32, 33] (by decide +kernel) (by decide +kernel)
set_option maxRecDepth 20000 in
theorem gX9_isNoConcept_X9_isWrong : GoodIn wsX9_isNoConcept (wsV RX9 62 RX9 yX9_isWrong wsX9_isWrong) := goodIn_app (goodIn_of _ (by decide +kernel)) ggX9_isNoConcept_X9_isWrong
theorem dX9_isNoConcept_0 : decode cX9_isNoConcept 0 = .ok (.aload_n 0, 1) := by decide +kernel
theorem dX9_isNoConcept_1 : decode cX9_isNoConcept 1 = .ok (.aload_n 0, 1) := by decide +kernel
theorem dX9_isNoConcept_2 : decode cX9_isNoConcept 2 = .ok (.getfield 10, 3) := by decide +kernel
theorem dX9_isNoConcept_5 : decode cX9_isNoConcept 5 = .ok (.iload_n 1, 1) := by decide +kernel
theorem dX9_isNoConcept_6 : decode cX9_isNoConcept 6 = .ok (.invokestatic 122, 3) := by decide +kernel
theorem dX9_isNoConcept_9 : decode cX9_isNoConcept 9 = .ok (.ifCond .eq 7, 3) := by decide +kernel
theorem dX9_isNoConcept_12 : decode cX9_isNoConcept 12 = .ok (.iconst 0, 1) := by decide +kernel
theorem dX9_isNoConcept_13 : decode cX9_isNoConcept 13 = .ok (.goto 4, 3) := by decide +kernel
theorem dX9_isNoConcept_16 : decode cX9_isNoConcept 16 = .ok (.iconst 1, 1) := by decide +kernel
theorem dX9_isNoConcept_17 : decode cX9_isNoConcept 17 = .ok (.invokevirtual 62, 3) := by decide +kernel
theorem dX9_isNoConcept_20 : decode cX9_isNoConcept 20 = .ok (.ireturn, 1) := by decide +kernel
set_option maxRecDepth 20000 in
theorem ggX9_setOf_X9_isNoConcept : GoodIn wsX9_setOf wsX9_isNoConcept := goodIn_r _ [7, 1, 8, 9, 6, 10, 11, 12, 13, 14, 15, 16, 17, 18, 19, 20, 21, 39, 40, 41, 42, 43, 44, 45, 46, 47, 48, 49, 50, 51, 52, 53, 54, 55, 56, 57, 58] (by decide +kernel) (by decide +kernel)
set_option maxRecDepth 20000 in
theorem gX9_setOf_X9_isNoConcept : GoodIn wsX9_setOf (wsV RX9 126 RX9 yX9_isNoConcept wsX9_isNoConcept) := goodIn_app (goodIn_of _ (by decide +kernel)) ggX9_setOf_X9_isNoConcept
set_option maxRecDepth 20000 in
theorem ggX9_setOf_Jx4a65c_get_915e3 : GoodIn wsX9_setOf wsJx4a65c_get_915e3 := goodIn_r _ [25, 16, 26, 27, 28, 29, 30, 31, 32, 33, 34, 35, 36, 14, 37, 38, 56, 57, 58] (by decide +kernel) (by decide +kernel)
set_option maxRecDepth 20000 in
theorem gX9_setOf_Jx4a65c_get_915e3_f129Jx4a65c : GoodIn wsX9_setOf (va_wsF RX9 129 RJx4a65c ⟨"java/util/List", "get", "(I)Ljava/lang/Object;"⟩ yJx4a65c_get_915e3 wsJx4a65c_get_915e3) := goodIn_app (goodIn_of _ (by decide +kernel)) ggX9_setOf_Jx4a65c_get_915e3
theorem dX9_setOf_0 : decode cX9_setOf 0 = .ok (.aload_n 0, 1) := by decide +kernel
theorem dX9_setOf_1 : decode cX9_setOf 1 = .ok (.iload_n 1, 1) := by decide +kernel
theorem dX9_setOf_2 : decode cX9_setOf 2 = .ok (.invokevirtual 126, 3) := by decide +kernel
theorem dX9_setOf_5 : decode cX9_setOf 5 = .ok (.ifCond .eq 7, 3) := by decide +kernel
theorem dX9_setOf_8 : decode cX9_setOf 8 = .ok (.iconst 0, 1) := by decide +kernel
theorem dX9_setOf_9 : decode cX9_setOf 9 = .ok (.goto 18, 3) := by decide +kernel
theorem dX9_setOf_12 : decode cX9_setOf 12 = .ok (.aload_n 0, 1) := by decide +kernel
theorem dX9_setOf_13 : decode cX9_setOf 13 = .ok (.getfield 10, 3) := by decide +kernel
theorem dX9_setOf_16 : decode cX9_setOf 16 = .ok (.iload_n 1, 1) := by decide +kernel
theorem dX9_setOf_17 : decode cX9_setOf 17 = .ok (.invokeinterface 129 2, 5) := by decide +kernel
theorem dX9_setOf_22 : decode cX9_setOf 22 = .ok (.checkcast 86, 3) := by decide +kernel
theorem dX9_setOf_25 : decode cX9_setOf 25 = .ok (.iconst 0, 1) := by decide +kernel
theorem dX9_setOf_26 : decode cX9_setOf 26 = .ok (.iaload, 1) := by decide +kernel
theorem dX9_setOf_27 : decode cX9_setOf 27 = .ok (.ireturn, 1) := by decide +kernel
set_option maxRecDepth 20000 in
theorem ggX9_teach_X9_isBetween : GoodIn wsX9_teach wsX9_isBetween := goodIn_r _ [12] (by decide +kernel) (by decide +kernel)
set_option maxRecDepth 20000 in
theorem gX9_teach_X9_isBetween : GoodIn wsX9_teach (va_wsS RX9 56 yX9_isBetween wsX9_isBetween) := goodIn_app (goodIn_of _ (by decide +kernel)) ggX9_teach_X9_isBetween
set_option maxRecDepth 20000 in
theorem ggX9_teach_X9_isOf : GoodIn wsX9_teach wsX9_isOf := goodIn_r _ [15, 16, 17, 18, 19, 20, 21, 80, 81, 82] (by decide +kernel) (by decide +kernel)
set_option maxRecDepth 20000 in
theorem gX9_teach_X9_isOf : GoodIn wsX9_teach (va_wsS RX9 122 yX9_isOf wsX9_isOf) := goodIn_app (goodIn_of _ (by decide +kernel)) ggX9_teach_X9_isOf
set_option maxRecDepth 20000 in
theorem ggX9_teach_Jx4a65c_isEmpty_aae02 : GoodIn wsX9_teach wsJx4a65c_isEmpty_aae02 := goodIn_r _ [25, 21, 80, 81, 82] (by decide +kernel) (by decide +kernel)
set_option maxRecDepth 20000 in
theorem gX9_teach_Jx4a65c_isEmpty_aae02_f135Jx4a65c : GoodIn wsX9_teach (va_wsF RX9 135 RJx4a65c ⟨"java/util/List", "isEmpty", "()Z"⟩ yJx4a65c_isEmpty_aae02 wsJx4a65c_isEmpty_aae02) := goodIn_app (goodIn_of _ (by decide +kernel)) ggX9_teach_Jx4a65c_isEmpty_aae02
set_option maxRecDepth 20000 in
theorem ggX9_teach_X9_isWrong : GoodIn wsX9_teach wsX9_isWrong := goodIn_r _ [29, 30, 63, 64, 65, 66, 67, 68, 69, 70, 71, 72, 73, 74, 75, 76, 77, 78, 79] (by decide +kernel) (by decide +kernel)
set_option maxRecDepth 20000 in
theorem gX9_teach_X9_isWrong : GoodIn wsX9_teach (wsV RX9 62 RX9 yX9_isWrong wsX9_isWrong) := goodIn_app (goodIn_of _ (by decide +kernel)) ggX9_teach_X9_isWrong
set_option maxRecDepth 20000 in
theorem ggX9_teach_Jx4a65c_iterator_32c93 : GoodIn wsX9_teach wsJx4a65c_iterator_32c93 := goodIn_r _ [34, 35, 36, 37, 38, 39, 40, 41, 42, 43, 44, 45, 46, 47, 48, 83, 84, 85, 86, 80, 81, 82] (by decide +kernel) (by decide +kernel)
set_option maxRecDepth 20000 in
theorem gX9_teach_Jx4a65c_iterator_32c93_f72Jx4a65c : GoodIn wsX9_teach (va_wsF RX9 72 RJx4a65c ⟨"java/util/List", "iterator", "()Ljava/util/Iterator;"⟩ yJx4a65c_iterator_32c93 wsJx4a65c_iterator_32c93) := goodIn_app (goodIn_of _ (by decide +kernel)) ggX9_teach_Jx4a65c_iterator_32c93
set_option maxRecDepth 20000 in
theorem ggX9_teach_Jx35411_hasNext_aae02 : GoodIn wsX9_teach wsJx35411_hasNext_aae02 := goodIn_r _ [52, 53, 41, 83, 84, 85, 86, 80, 81, 82] (by decide +kernel) (by decide +kernel)
set_option maxRecDepth 20000 in
theorem gX9_teach_Jx35411_hasNext_aae02_f76Jx35411 : GoodIn wsX9_teach (va_wsF RX9 76 RJx35411 ⟨"java/util/Iterator", "hasNext", "()Z"⟩ yJx35411_hasNext_aae02 wsJx35411_hasNext_aae02) := goodIn_app (goodIn_of _ (by decide +kernel)) ggX9_teach_Jx35411_hasNext_aae02
set_option maxRecDepth 20000 in
theorem ggX9_teach_Jx35411_next_0502b : GoodIn wsX9_teach wsJx35411_next_0502b := goodIn_r _ [57, 53, 41, 58, 45, 59, 60, 61, 37, 62, 46, 47, 48, 83, 84, 85, 86, 80, 81, 82] (by decide +kernel) (by decide +kernel)
set_option maxRecDepth 20000 in
theorem gX9_teach_Jx35411_next_0502b_f82Jx35411 : GoodIn wsX9_teach (va_wsF RX9 82 RJx35411 ⟨"java/util/Iterator", "next", "()Ljava/lang/Object;"⟩ yJx35411_next_0502b wsJx35411_next_0502b) := goodIn_app (goodIn_of _ (by decide +kernel)) ggX9_teach_Jx35411_next_0502b
theorem dX9_teach_0 : decode cX9_teach 0 = .ok (.iload_n 1, 1) := by decide +kernel
theorem dX9_teach_1 : decode cX9_teach 1 = .ok (.bipush 104, 2) := by decide +kernel
theorem dX9_teach_3 : decode cX9_teach 3 = .ok (.if_icmp .eq 15, 3) := by decide +kernel
theorem dX9_teach_6 : decode cX9_teach 6 = .ok (.iload_n 1, 1) := by decide +kernel
theorem dX9_teach_7 : decode cX9_teach 7 = .ok (.bipush 108, 2) := by decide +kernel
theorem dX9_teach_9 : decode cX9_teach 9 = .ok (.if_icmp .eq 9, 3) := by decide +kernel
theorem dX9_teach_12 : decode cX9_teach 12 = .ok (.iload_n 1, 1) := by decide +kernel
theorem dX9_teach_13 : decode cX9_teach 13 = .ok (.bipush 97, 2) := by decide +kernel
theorem dX9_teach_15 : decode cX9_teach 15 = .ok (.if_icmp .ne 7, 3) := by decide +kernel
theorem dX9_teach_18 : decode cX9_teach 18 = .ok (.iconst 1, 1) := by decide +kernel
theorem dX9_teach_19 : decode cX9_teach 19 = .ok (.goto 4, 3) := by decide +kernel
theorem dX9_teach_22 : decode cX9_teach 22 = .ok (.iconst 0, 1) := by decide +kernel
theorem dX9_teach_23 : decode cX9_teach 23 = .ok (.istore 4, 2) := by decide +kernel
theorem dX9_teach_25 : decode cX9_teach 25 = .ok (.aload_n 0, 1) := by decide +kernel
theorem dX9_teach_26 : decode cX9_teach 26 = .ok (.iload 4, 2) := by decide +kernel
theorem dX9_teach_28 : decode cX9_teach 28 = .ok (.ifCond .eq 21, 3) := by decide +kernel
theorem dX9_teach_31 : decode cX9_teach 31 = .ok (.iload_n 1, 1) := by decide +kernel
theorem dX9_teach_32 : decode cX9_teach 32 = .ok (.bipush 108, 2) := by decide +kernel
theorem dX9_teach_34 : decode cX9_teach 34 = .ok (.if_icmp .ne 19, 3) := by decide +kernel
theorem dX9_teach_37 : decode cX9_teach 37 = .ok (.iload_n 3, 1) := by decide +kernel
theorem dX9_teach_38 : decode cX9_teach 38 = .ok (.i2l, 1) := by decide +kernel
theorem dX9_teach_39 : decode cX9_teach 39 = .ok (.lconst 0, 1) := by decide +kernel
theorem dX9_teach_40 : decode cX9_teach 40 = .ok (.ldc2_w 133, 3) := by decide +kernel
theorem dX9_teach_43 : decode cX9_teach 43 = .ok (.invokestatic 56, 3) := by decide +kernel
theorem dX9_teach_46 : decode cX9_teach 46 = .ok (.ifCond .ne 7, 3) := by decide +kernel
theorem dX9_teach_49 : decode cX9_teach 49 = .ok (.iconst 1, 1) := by decide +kernel
theorem dX9_teach_50 : decode cX9_teach 50 = .ok (.goto 41, 3) := by decide +kernel
theorem dX9_teach_53 : decode cX9_teach 53 = .ok (.iload_n 1, 1) := by decide +kernel
theorem dX9_teach_54 : decode cX9_teach 54 = .ok (.bipush 97, 2) := by decide +kernel
theorem dX9_teach_56 : decode cX9_teach 56 = .ok (.if_icmp .eq 18, 3) := by decide +kernel
theorem dX9_teach_59 : decode cX9_teach 59 = .ok (.aload_n 0, 1) := by decide +kernel
theorem dX9_teach_60 : decode cX9_teach 60 = .ok (.getfield 10, 3) := by decide +kernel
theorem dX9_teach_63 : decode cX9_teach 63 = .ok (.iload_n 2, 1) := by decide +kernel
theorem dX9_teach_64 : decode cX9_teach 64 = .ok (.invokestatic 122, 3) := by decide +kernel
theorem dX9_teach_67 : decode cX9_teach 67 = .ok (.ifCond .ne 7, 3) := by decide +kernel
theorem dX9_teach_70 : decode cX9_teach 70 = .ok (.iconst 2, 1) := by decide +kernel
theorem dX9_teach_71 : decode cX9_teach 71 = .ok (.goto 20, 3) := by decide +kernel
theorem dX9_teach_74 : decode cX9_teach 74 = .ok (.aload_n 0, 1) := by decide +kernel
theorem dX9_teach_75 : decode cX9_teach 75 = .ok (.getfield 10, 3) := by decide +kernel
theorem dX9_teach_78 : decode cX9_teach 78 = .ok (.invokeinterface 135 1, 5) := by decide +kernel
theorem dX9_teach_83 : decode cX9_teach 83 = .ok (.ifCond .eq 7, 3) := by decide +kernel
theorem dX9_teach_86 : decode cX9_teach 86 = .ok (.iconst 3, 1) := by decide +kernel
theorem dX9_teach_87 : decode cX9_teach 87 = .ok (.goto 4, 3) := by decide +kernel
theorem dX9_teach_90 : decode cX9_teach 90 = .ok (.iconst 0, 1) := by decide +kernel
theorem dX9_teach_91 : decode cX9_teach 91 = .ok (.invokevirtual 62, 3) := by decide +kernel
theorem dX9_teach_94 : decode cX9_teach 94 = .ok (.ifCond .eq 5, 3) := by decide +kernel
theorem dX9_teach_97 : decode cX9_teach 97 = .ok (.iconst 0, 1) := by decide +kernel
theorem dX9_teach_98 : decode cX9_teach 98 = .ok (.ireturn, 1) := by decide +kernel
theorem dX9_teach_99 : decode cX9_teach 99 = .ok (.aload_n 0, 1) := by decide +kernel
theorem dX9_teach_100 : decode cX9_teach 100 = .ok (.getfield 23, 3) := by decide +kernel
theorem dX9_teach_103 : decode cX9_teach 103 = .ok (.bipush 45, 2) := by decide +kernel
theorem dX9_teach_105 : decode cX9_teach 105 = .ok (.if_icmp .eq 7, 3) := by decide +kernel
theorem dX9_teach_108 : decode cX9_teach 108 = .ok (.iconst 1, 1) := by decide +kernel
theorem dX9_teach_109 : decode cX9_teach 109 = .ok (.goto 4, 3) := by decide +kernel
theorem dX9_teach_112 : decode cX9_teach 112 = .ok (.iconst 0, 1) := by decide +kernel
theorem dX9_teach_113 : decode cX9_teach 113 = .ok (.istore 5, 2) := by decide +kernel
theorem dX9_teach_115 : decode cX9_teach 115 = .ok (.aload_n 0, 1) := by decide +kernel
theorem dX9_teach_116 : decode cX9_teach 116 = .ok (.iload_n 1, 1) := by decide +kernel
theorem dX9_teach_117 : decode cX9_teach 117 = .ok (.putfield 23, 3) := by decide +kernel
theorem dX9_teach_120 : decode cX9_teach 120 = .ok (.aload_n 0, 1) := by decide +kernel
theorem dX9_teach_121 : decode cX9_teach 121 = .ok (.iload_n 2, 1) := by decide +kernel
theorem dX9_teach_122 : decode cX9_teach 122 = .ok (.putfield 138, 3) := by decide +kernel
theorem dX9_teach_125 : decode cX9_teach 125 = .ok (.aload_n 0, 1) := by decide +kernel
theorem dX9_teach_126 : decode cX9_teach 126 = .ok (.iload_n 1, 1) := by decide +kernel
theorem dX9_teach_127 : decode cX9_teach 127 = .ok (.bipush 108, 2) := by decide +kernel
theorem dX9_teach_129 : decode cX9_teach 129 = .ok (.if_icmp .ne 7, 3) := by decide +kernel
theorem dX9_teach_132 : decode cX9_teach 132 = .ok (.iload_n 3, 1) := by decide +kernel
theorem dX9_teach_133 : decode cX9_teach 133 = .ok (.goto 4, 3) := by decide +kernel
theorem dX9_teach_136 : decode cX9_teach 136 = .ok (.iconst 0, 1) := by decide +kernel
theorem dX9_teach_137 : decode cX9_teach 137 = .ok (.putfield 141, 3) := by decide +kernel
theorem dX9_teach_140 : decode cX9_teach 140 = .ok (.aload_n 0, 1) := by decide +kernel
theorem dX9_teach_141 : decode cX9_teach 141 = .ok (.iconst 0, 1) := by decide +kernel
theorem dX9_teach_142 : decode cX9_teach 142 = .ok (.putfield 69, 3) := by decide +kernel
theorem dX9_teach_145 : decode cX9_teach 145 = .ok (.aload_n 0, 1) := by decide +kernel
theorem dX9_teach_146 : decode cX9_teach 146 = .ok (.iconst 0, 1) := by decide +kernel
theorem dX9_teach_147 : decode cX9_teach 147 = .ok (.putfield 144, 3) := by decide +kernel
theorem dX9_teach_150 : decode cX9_teach 150 = .ok (.aload_n 0, 1) := by decide +kernel
theorem dX9_teach_151 : decode cX9_teach 151 = .ok (.getfield 10, 3) := by decide +kernel
theorem dX9_teach_154 : decode cX9_teach 154 = .ok (.invokeinterface 72 1, 5) := by decide +kernel
theorem dX9_teach_159 : decode cX9_teach 159 = .ok (.astore 6, 2) := by decide +kernel
theorem dX9_teach_161 : decode cX9_teach 161 = .ok (.aload 6, 2) := by decide +kernel
theorem dX9_teach_163 : decode cX9_teach 163 = .ok (.invokeinterface 76 1, 5) := by decide +kernel
theorem dX9_teach_168 : decode cX9_teach 168 = .ok (.ifCond .eq 28, 3) := by decide +kernel
theorem dX9_teach_171 : decode cX9_teach 171 = .ok (.aload 6, 2) := by decide +kernel
theorem dX9_teach_173 : decode cX9_teach 173 = .ok (.invokeinterface 82 1, 5) := by decide +kernel
theorem dX9_teach_178 : decode cX9_teach 178 = .ok (.checkcast 86, 3) := by decide +kernel
theorem dX9_teach_181 : decode cX9_teach 181 = .ok (.astore 7, 2) := by decide +kernel
theorem dX9_teach_183 : decode cX9_teach 183 = .ok (.aload 7, 2) := by decide +kernel
theorem dX9_teach_185 : decode cX9_teach 185 = .ok (.iconst 1, 1) := by decide +kernel
theorem dX9_teach_186 : decode cX9_teach 186 = .ok (.iconst 0, 1) := by decide +kernel
theorem dX9_teach_187 : decode cX9_teach 187 = .ok (.iastore, 1) := by decide +kernel
theorem dX9_teach_188 : decode cX9_teach 188 = .ok (.aload 7, 2) := by decide +kernel
theorem dX9_teach_190 : decode cX9_teach 190 = .ok (.iconst 2, 1) := by decide +kernel
theorem dX9_teach_191 : decode cX9_teach 191 = .ok (.iconst 0, 1) := by decide +kernel
theorem dX9_teach_192 : decode cX9_teach 192 = .ok (.iastore, 1) := by decide +kernel
theorem dX9_teach_193 : decode cX9_teach 193 = .ok (.goto (-32), 3) := by decide +kernel
theorem dX9_teach_196 : decode cX9_teach 196 = .ok (.iload 5, 2) := by decide +kernel
theorem dX9_teach_198 : decode cX9_teach 198 = .ok (.ireturn, 1) := by decide +kernel
set_option maxRecDepth 20000 in
theorem ggX9_seed_X9_isBetween : GoodIn wsX9_seed wsX9_isBetween := goodIn_r _ [6] (by decide +kernel) (by decide +kernel)
set_option maxRecDepth 20000 in
theorem gX9_seed_X9_isBetween : GoodIn wsX9_seed (va_wsS RX9 56 yX9_isBetween wsX9_isBetween) := goodIn_app (goodIn_of _ (by decide +kernel)) ggX9_seed_X9_isBetween
set_option maxRecDepth 20000 in
theorem ggX9_seed_X9_isWrong : GoodIn wsX9_seed wsX9_isWrong := goodIn_r _ [10, 11, 12, 13, 14, 15, 16, 17, 18, 19, 20, 21, 22, 23, 24, 25, 26, 27, 28] (by decide +kernel) (by decide +kernel)
set_option maxRecDepth 20000 in
theorem gX9_seed_X9_isWrong : GoodIn wsX9_seed (wsV RX9 62 RX9 yX9_isWrong wsX9_isWrong) := goodIn_app (goodIn_of _ (by decide +kernel)) ggX9_seed_X9_isWrong
theorem dX9_seed_0 : decode cX9_seed 0 = .ok (.aload_n 0, 1) := by decide +kernel
theorem dX9_seed_1 : decode cX9_seed 1 = .ok (.iload_n 1, 1) := by decide +kernel
theorem dX9_seed_2 : decode cX9_seed 2 = .ok (.i2l, 1) := by decide +kernel
theorem dX9_seed_3 : decode cX9_seed 3 = .ok (.lconst 1, 1) := by decide +kernel
theorem dX9_seed_4 : decode cX9_seed 4 = .ok (.ldc2_w 147, 3) := by decide +kernel
theorem dX9_seed_7 : decode cX9_seed 7 = .ok (.invokestatic 56, 3) := by decide +kernel
theorem dX9_seed_10 : decode cX9_seed 10 = .ok (.ifCond .eq 7, 3) := by decide +kernel
theorem dX9_seed_13 : decode cX9_seed 13 = .ok (.iconst 0, 1) := by decide +kernel
theorem dX9_seed_14 : decode cX9_seed 14 = .ok (.goto 4, 3) := by decide +kernel
theorem dX9_seed_17 : decode cX9_seed 17 = .ok (.iconst 1, 1) := by decide +kernel
theorem dX9_seed_18 : decode cX9_seed 18 = .ok (.invokevirtual 62, 3) := by decide +kernel
theorem dX9_seed_21 : decode cX9_seed 21 = .ok (.ifCond .eq 5, 3) := by decide +kernel
theorem dX9_seed_24 : decode cX9_seed 24 = .ok (.iconst 0, 1) := by decide +kernel
theorem dX9_seed_25 : decode cX9_seed 25 = .ok (.ireturn, 1) := by decide +kernel
theorem dX9_seed_26 : decode cX9_seed 26 = .ok (.aload_n 0, 1) := by decide +kernel
theorem dX9_seed_27 : decode cX9_seed 27 = .ok (.getfield 20, 3) := by decide +kernel
theorem dX9_seed_30 : decode cX9_seed 30 = .ok (.istore_n 2, 1) := by decide +kernel
theorem dX9_seed_31 : decode cX9_seed 31 = .ok (.aload_n 0, 1) := by decide +kernel
theorem dX9_seed_32 : decode cX9_seed 32 = .ok (.iload_n 1, 1) := by decide +kernel
theorem dX9_seed_33 : decode cX9_seed 33 = .ok (.putfield 20, 3) := by decide +kernel
theorem dX9_seed_36 : decode cX9_seed 36 = .ok (.iload_n 2, 1) := by decide +kernel
theorem dX9_seed_37 : decode cX9_seed 37 = .ok (.ireturn, 1) := by decide +kernel
theorem dX9_lives_0 : decode cX9_lives 0 = .ok (.aload_n 1, 1) := by decide +kernel
theorem dX9_lives_1 : decode cX9_lives 1 = .ok (.iconst 2, 1) := by decide +kernel
theorem dX9_lives_2 : decode cX9_lives 2 = .ok (.iaload, 1) := by decide +kernel
theorem dX9_lives_3 : decode cX9_lives 3 = .ok (.ifCond .ne 17, 3) := by decide +kernel
theorem dX9_lives_6 : decode cX9_lives 6 = .ok (.aload_n 1, 1) := by decide +kernel
theorem dX9_lives_7 : decode cX9_lives 7 = .ok (.iconst 1, 1) := by decide +kernel
theorem dX9_lives_8 : decode cX9_lives 8 = .ok (.iaload, 1) := by decide +kernel
theorem dX9_lives_9 : decode cX9_lives 9 = .ok (.aload_n 0, 1) := by decide +kernel
theorem dX9_lives_10 : decode cX9_lives 10 = .ok (.getfield 141, 3) := by decide +kernel
theorem dX9_lives_13 : decode cX9_lives 13 = .ok (.if_icmp .gt 7, 3) := by decide +kernel
theorem dX9_lives_16 : decode cX9_lives 16 = .ok (.iconst 1, 1) := by decide +kernel
theorem dX9_lives_17 : decode cX9_lives 17 = .ok (.goto 4, 3) := by decide +kernel
theorem dX9_lives_20 : decode cX9_lives 20 = .ok (.iconst 0, 1) := by decide +kernel
theorem dX9_lives_21 : decode cX9_lives 21 = .ok (.ireturn, 1) := by decide +kernel
theorem dX9_hasPoint_0 : decode cX9_hasPoint 0 = .ok (.iload_n 0, 1) := by decide +kernel
theorem dX9_hasPoint_1 : decode cX9_hasPoint 1 = .ok (.iload_n 1, 1) := by decide +kernel
theorem dX9_hasPoint_2 : decode cX9_hasPoint 2 = .ok (.ishr, 1) := by decide +kernel
theorem dX9_hasPoint_3 : decode cX9_hasPoint 3 = .ok (.iconst 1, 1) := by decide +kernel
theorem dX9_hasPoint_4 : decode cX9_hasPoint 4 = .ok (.iand, 1) := by decide +kernel
theorem dX9_hasPoint_5 : decode cX9_hasPoint 5 = .ok (.iconst 1, 1) := by decide +kernel
theorem dX9_hasPoint_6 : decode cX9_hasPoint 6 = .ok (.if_icmp .ne 7, 3) := by decide +kernel
theorem dX9_hasPoint_9 : decode cX9_hasPoint 9 = .ok (.iconst 1, 1) := by decide +kernel
theorem dX9_hasPoint_10 : decode cX9_hasPoint 10 = .ok (.goto 4, 3) := by decide +kernel
theorem dX9_hasPoint_13 : decode cX9_hasPoint 13 = .ok (.iconst 0, 1) := by decide +kernel
theorem dX9_hasPoint_14 : decode cX9_hasPoint 14 = .ok (.ireturn, 1) := by decide +kernel
set_option maxRecDepth 20000 in
theorem ggX9_living_Jx4a65c_iterator_32c93 : GoodIn wsX9_living wsJx4a65c_iterator_32c93 := goodIn_r _ [7, 8, 9, 10, 11, 12, 13, 14, 15, 16, 17, 18, 19, 20, 21, 59, 60, 61, 62, 63, 64, 65] (by decide +kernel) (by decide +kernel)
set_option maxRecDepth 20000 in
theorem gX9_living_Jx4a65c_iterator_32c93_f72Jx4a65c : GoodIn wsX9_living (va_wsF RX9 72 RJx4a65c ⟨"java/util/List", "iterator", "()Ljava/util/Iterator;"⟩ yJx4a65c_iterator_32c93 wsJx4a65c_iterator_32c93) := goodIn_app (goodIn_of _ (by decide +kernel)) ggX9_living_Jx4a65c_iterator_32c93
set_option maxRecDepth 20000 in
theorem ggX9_living_Jx35411_hasNext_aae02 : GoodIn wsX9_living wsJx35411_hasNext_aae02 := goodIn_r _ [25, 26, 14, 59, 60, 61, 62, 63, 64, 65] (by decide +kernel) (by decide +kernel)
set_option maxRecDepth 20000 in
theorem gX9_living_Jx35411_hasNext_aae02_f76Jx35411 : GoodIn wsX9_living (va_wsF RX9 76 RJx35411 ⟨"java/util/Iterator", "hasNext", "()Z"⟩ yJx35411_hasNext_aae02 wsJx35411_hasNext_aae02) := goodIn_app (goodIn_of _ (by decide +kernel)) ggX9_living_Jx35411_hasNext_aae02
set_option maxRecDepth 20000 in
theorem ggX9_living_Jx35411_next_0502b : GoodIn wsX9_living wsJx35411_next_0502b := goodIn_r _ [30, 26, 14, 31, 18, 32, 33, 34, 10, 35, 19, 20, 21, 59, 60, 61, 62, 63, 64, 65] (by decide +kernel) (by decide +kernel)
set_option maxRecDepth 20000 in
theorem gX9_living_Jx35411_next_0502b_f82Jx35411 : GoodIn wsX9_living (va_wsF RX9 82 RJx35411 ⟨"java/util/Iterator", "next", "()Ljava/lang/Object;"⟩ yJx35411_next_0502b wsJx35411_next_0502b) := goodIn_app (goodIn_of _ (by decide +kernel)) ggX9_living_Jx35411_next_0502b
set_option maxRecDepth 20000 in
theorem ggX9_living_X9_lives : GoodIn wsX9_living wsX9_lives := goodIn_r _ [40, 41, 42, 43, 44, 45, 46, 47, 48, 49, 50, 51, 52, 53, 54, 55, 56, 57, 58] (by decide +kernel) (by decide +kernel)
set_option maxRecDepth 20000 in
theorem gX9_living_X9_lives : GoodIn wsX9_living (wsV RX9 149 RX9 yX9_lives wsX9_lives) := goodIn_app (goodIn_of _ (by decide +kernel)) ggX9_living_X9_lives
theorem dX9_living_0 : decode cX9_living 0 = .ok (.iconst 0, 1) := by decide +kernel
theorem dX9_living_1 : decode cX9_living 1 = .ok (.istore_n 1, 1) := by decide +kernel
theorem dX9_living_2 : decode cX9_living 2 = .ok (.aload_n 0, 1) := by decide +kernel
theorem dX9_living_3 : decode cX9_living 3 = .ok (.getfield 10, 3) := by decide +kernel
theorem dX9_living_6 : decode cX9_living 6 = .ok (.invokeinterface 72 1, 5) := by decide +kernel
theorem dX9_living_11 : decode cX9_living 11 = .ok (.astore_n 2, 1) := by decide +kernel
theorem dX9_living_12 : decode cX9_living 12 = .ok (.aload_n 2, 1) := by decide +kernel
theorem dX9_living_13 : decode cX9_living 13 = .ok (.invokeinterface 76 1, 5) := by decide +kernel
theorem dX9_living_18 : decode cX9_living 18 = .ok (.ifCond .eq 32, 3) := by decide +kernel
theorem dX9_living_21 : decode cX9_living 21 = .ok (.aload_n 2, 1) := by decide +kernel
theorem dX9_living_22 : decode cX9_living 22 = .ok (.invokeinterface 82 1, 5) := by decide +kernel
theorem dX9_living_27 : decode cX9_living 27 = .ok (.checkcast 86, 3) := by decide +kernel
theorem dX9_living_30 : decode cX9_living 30 = .ok (.astore_n 3, 1) := by decide +kernel
theorem dX9_living_31 : decode cX9_living 31 = .ok (.iload_n 1, 1) := by decide +kernel
theorem dX9_living_32 : decode cX9_living 32 = .ok (.aload_n 0, 1) := by decide +kernel
theorem dX9_living_33 : decode cX9_living 33 = .ok (.aload_n 3, 1) := by decide +kernel
theorem dX9_living_34 : decode cX9_living 34 = .ok (.invokevirtual 149, 3) := by decide +kernel
theorem dX9_living_37 : decode cX9_living 37 = .ok (.ifCond .eq 7, 3) := by decide +kernel
theorem dX9_living_40 : decode cX9_living 40 = .ok (.iconst 1, 1) := by decide +kernel
theorem dX9_living_41 : decode cX9_living 41 = .ok (.goto 4, 3) := by decide +kernel
theorem dX9_living_44 : decode cX9_living 44 = .ok (.iconst 0, 1) := by decide +kernel
theorem dX9_living_45 : decode cX9_living 45 = .ok (.iadd, 1) := by decide +kernel
theorem dX9_living_46 : decode cX9_living 46 = .ok (.istore_n 1, 1) := by decide +kernel
theorem dX9_living_47 : decode cX9_living 47 = .ok (.goto (-35), 3) := by decide +kernel
theorem dX9_living_50 : decode cX9_living 50 = .ok (.iload_n 1, 1) := by decide +kernel
theorem dX9_living_51 : decode cX9_living 51 = .ok (.ireturn, 1) := by decide +kernel
set_option maxRecDepth 20000 in
theorem ggX9_livingWith_Jx4a65c_iterator_32c93 : GoodIn wsX9_livingWith wsJx4a65c_iterator_32c93 := goodIn_r _ [7, 8, 9, 10, 11, 12, 13, 14, 15, 16, 17, 18, 19, 20, 21, 62, 63, 64, 65, 66, 67, 68] (by decide +kernel) (by decide +kernel)
set_option maxRecDepth 20000 in
theorem gX9_livingWith_Jx4a65c_iterator_32c93_f72Jx4a65c : GoodIn wsX9_livingWith (va_wsF RX9 72 RJx4a65c ⟨"java/util/List", "iterator", "()Ljava/util/Iterator;"⟩ yJx4a65c_iterator_32c93 wsJx4a65c_iterator_32c93) := goodIn_app (goodIn_of _ (by decide +kernel)) ggX9_livingWith_Jx4a65c_iterator_32c93
set_option maxRecDepth 20000 in
theorem ggX9_livingWith_Jx35411_hasNext_aae02 : GoodIn wsX9_livingWith wsJx35411_hasNext_aae02 := goodIn_r _ [25, 26, 14, 62, 63, 64, 65, 66, 67, 68] (by decide +kernel) (by decide +kernel)
set_option maxRecDepth 20000 in
theorem gX9_livingWith_Jx35411_hasNext_aae02_f76Jx35411 : GoodIn wsX9_livingWith (va_wsF RX9 76 RJx35411 ⟨"java/util/Iterator", "hasNext", "()Z"⟩ yJx35411_hasNext_aae02 wsJx35411_hasNext_aae02) := goodIn_app (goodIn_of _ (by decide +kernel)) ggX9_livingWith_Jx35411_hasNext_aae02
set_option maxRecDepth 20000 in
theorem ggX9_livingWith_Jx35411_next_0502b : GoodIn wsX9_livingWith wsJx35411_next_0502b := goodIn_r _ [30, 26, 14, 31, 18, 32, 33, 34, 10, 35, 19, 20, 21, 62, 63, 64, 65, 66, 67, 68] (by decide +kernel) (by decide +kernel)
set_option maxRecDepth 20000 in
theorem gX9_livingWith_Jx35411_next_0502b_f82Jx35411 : GoodIn wsX9_livingWith (va_wsF RX9 82 RJx35411 ⟨"java/util/Iterator", "next", "()Ljava/lang/Object;"⟩ yJx35411_next_0502b wsJx35411_next_0502b) := goodIn_app (goodIn_of _ (by decide +kernel)) ggX9_livingWith_Jx35411_next_0502b
set_option maxRecDepth 20000 in
theorem ggX9_livingWith_X9_lives : GoodIn wsX9_livingWith wsX9_lives := goodIn_r _ [40, 41, 45, 46, 47, 48, 49, 50, 51, 52, 53, 54, 55, 56, 57, 58, 59, 60, 61] (by decide +kernel) (by decide +kernel)
set_option maxRecDepth 20000 in
theorem gX9_livingWith_X9_lives : GoodIn wsX9_livingWith (wsV RX9 149 RX9 yX9_lives wsX9_lives) := goodIn_app (goodIn_of _ (by decide +kernel)) ggX9_livingWith_X9_lives
set_option maxRecDepth 20000 in
theorem ggX9_livingWith_X9_hasPoint : GoodIn wsX9_livingWith wsX9_hasPoint := goodIn_r _ [44] (by decide +kernel) (by decide +kernel)
set_option maxRecDepth 20000 in
theorem gX9_livingWith_X9_hasPoint : GoodIn wsX9_livingWith (va_wsS RX9 153 yX9_hasPoint wsX9_hasPoint) := goodIn_app (goodIn_of _ (by decide +kernel)) ggX9_livingWith_X9_hasPoint
theorem dX9_livingWith_0 : decode cX9_livingWith 0 = .ok (.iconst 0, 1) := by decide +kernel
theorem dX9_livingWith_1 : decode cX9_livingWith 1 = .ok (.istore_n 2, 1) := by decide +kernel
theorem dX9_livingWith_2 : decode cX9_livingWith 2 = .ok (.aload_n 0, 1) := by decide +kernel
theorem dX9_livingWith_3 : decode cX9_livingWith 3 = .ok (.getfield 10, 3) := by decide +kernel
theorem dX9_livingWith_6 : decode cX9_livingWith 6 = .ok (.invokeinterface 72 1, 5) := by decide +kernel
theorem dX9_livingWith_11 : decode cX9_livingWith 11 = .ok (.astore_n 3, 1) := by decide +kernel
theorem dX9_livingWith_12 : decode cX9_livingWith 12 = .ok (.aload_n 3, 1) := by decide +kernel
theorem dX9_livingWith_13 : decode cX9_livingWith 13 = .ok (.invokeinterface 76 1, 5) := by decide +kernel
theorem dX9_livingWith_18 : decode cX9_livingWith 18 = .ok (.ifCond .eq 45, 3) := by decide +kernel
theorem dX9_livingWith_21 : decode cX9_livingWith 21 = .ok (.aload_n 3, 1) := by decide +kernel
theorem dX9_livingWith_22 : decode cX9_livingWith 22 = .ok (.invokeinterface 82 1, 5) := by decide +kernel
theorem dX9_livingWith_27 : decode cX9_livingWith 27 = .ok (.checkcast 86, 3) := by decide +kernel
theorem dX9_livingWith_30 : decode cX9_livingWith 30 = .ok (.astore 4, 2) := by decide +kernel
theorem dX9_livingWith_32 : decode cX9_livingWith 32 = .ok (.iload_n 2, 1) := by decide +kernel
theorem dX9_livingWith_33 : decode cX9_livingWith 33 = .ok (.aload_n 0, 1) := by decide +kernel
theorem dX9_livingWith_34 : decode cX9_livingWith 34 = .ok (.aload 4, 2) := by decide +kernel
theorem dX9_livingWith_36 : decode cX9_livingWith 36 = .ok (.invokevirtual 149, 3) := by decide +kernel
theorem dX9_livingWith_39 : decode cX9_livingWith 39 = .ok (.ifCond .eq 18, 3) := by decide +kernel
theorem dX9_livingWith_42 : decode cX9_livingWith 42 = .ok (.aload 4, 2) := by decide +kernel
theorem dX9_livingWith_44 : decode cX9_livingWith 44 = .ok (.iconst 0, 1) := by decide +kernel
theorem dX9_livingWith_45 : decode cX9_livingWith 45 = .ok (.iaload, 1) := by decide +kernel
theorem dX9_livingWith_46 : decode cX9_livingWith 46 = .ok (.iload_n 1, 1) := by decide +kernel
theorem dX9_livingWith_47 : decode cX9_livingWith 47 = .ok (.invokestatic 153, 3) := by decide +kernel
theorem dX9_livingWith_50 : decode cX9_livingWith 50 = .ok (.ifCond .eq 7, 3) := by decide +kernel
theorem dX9_livingWith_53 : decode cX9_livingWith 53 = .ok (.iconst 1, 1) := by decide +kernel
theorem dX9_livingWith_54 : decode cX9_livingWith 54 = .ok (.goto 4, 3) := by decide +kernel
theorem dX9_livingWith_57 : decode cX9_livingWith 57 = .ok (.iconst 0, 1) := by decide +kernel
theorem dX9_livingWith_58 : decode cX9_livingWith 58 = .ok (.iadd, 1) := by decide +kernel
theorem dX9_livingWith_59 : decode cX9_livingWith 59 = .ok (.istore_n 2, 1) := by decide +kernel
theorem dX9_livingWith_60 : decode cX9_livingWith 60 = .ok (.goto (-48), 3) := by decide +kernel
theorem dX9_livingWith_63 : decode cX9_livingWith 63 = .ok (.iload_n 2, 1) := by decide +kernel
theorem dX9_livingWith_64 : decode cX9_livingWith 64 = .ok (.ireturn, 1) := by decide +kernel
set_option maxRecDepth 20000 in
theorem ggX9_answer_X9_livingWith : GoodIn wsX9_answer wsX9_livingWith := goodIn_r _ [14, 2, 4, 15, 16, 17, 18, 19, 20, 21, 22, 23, 24, 25, 26, 27, 28, 29, 30, 31, 32, 33, 34, 35, 36, 37, 38, 39, 40, 41, 42, 43, 44, 45, 46, 47, 48, 49, 50, 13, 51, 6, 52, 53, 54, 77, 78, 79, 80, 81, 82, 83, 84, 85, 86, 87, 88, 89, 90, 91, 92, 93, 94, 95, 96, 97, 98, 99, 100] (by decide +kernel) (by decide +kernel)
set_option maxRecDepth 20000 in
theorem gX9_answer_X9_livingWith : GoodIn wsX9_answer (wsV RX9 157 RX9 yX9_livingWith wsX9_livingWith) := goodIn_app (goodIn_of _ (by decide +kernel)) ggX9_answer_X9_livingWith
set_option maxRecDepth 20000 in
theorem ggX9_answer_X9_living : GoodIn wsX9_answer wsX9_living := goodIn_r _ [58, 2, 4, 15, 16, 17, 18, 19, 20, 21, 22, 23, 24, 25, 26, 27, 28, 29, 30, 31, 32, 33, 34, 35, 36, 37, 38, 39, 40, 41, 42, 43, 44, 45, 46, 47, 48, 49, 50, 13, 51, 6, 77, 78, 79, 80, 81, 82, 83, 84, 85, 86, 87, 88, 89, 90, 91, 92, 93, 94, 95, 96, 97, 98, 99, 100] (by decide +kernel) (by decide +kernel)
set_option maxRecDepth 20000 in
theorem gX9_answer_X9_living : GoodIn wsX9_answer (wsV RX9 160 RX9 yX9_living wsX9_living) := goodIn_app (goodIn_of _ (by decide +kernel)) ggX9_answer_X9_living
set_option maxRecDepth 20000 in
theorem ggX9_answer_Jx4a65c_get_915e3 : GoodIn wsX9_answer wsJx4a65c_get_915e3 := goodIn_r _ [62, 63, 64, 65, 66, 67, 68, 69, 70, 71, 72, 73, 74, 18, 75, 76, 98, 99, 100] (by decide +kernel) (by decide +kernel)
set_option maxRecDepth 20000 in
theorem gX9_answer_Jx4a65c_get_915e3_f129Jx4a65c : GoodIn wsX9_answer (va_wsF RX9 129 RJx4a65c ⟨"java/util/List", "get", "(I)Ljava/lang/Object;"⟩ yJx4a65c_get_915e3 wsJx4a65c_get_915e3) := goodIn_app (goodIn_of _ (by decide +kernel)) ggX9_answer_Jx4a65c_get_915e3
set_option maxRecDepth 20000 in
theorem ggX9_answer_X9_hasPoint : GoodIn wsX9_answer wsX9_hasPoint := goodIn_r _ [54] (by decide +kernel) (by decide +kernel)
set_option maxRecDepth 20000 in
theorem gX9_answer_X9_hasPoint : GoodIn wsX9_answer (va_wsS RX9 153 yX9_hasPoint wsX9_hasPoint) := goodIn_app (goodIn_of _ (by decide +kernel)) ggX9_answer_X9_hasPoint
theorem dX9_answer_0 : decode cX9_answer 0 = .ok (.aload_n 0, 1) := by decide +kernel
theorem dX9_answer_1 : decode cX9_answer 1 = .ok (.getfield 23, 3) := by decide +kernel
theorem dX9_answer_4 : decode cX9_answer 4 = .ok (.bipush 97, 2) := by decide +kernel
theorem dX9_answer_6 : decode cX9_answer 6 = .ok (.if_icmp .ne 23, 3) := by decide +kernel
theorem dX9_answer_9 : decode cX9_answer 9 = .ok (.iconst 2, 1) := by decide +kernel
theorem dX9_answer_10 : decode cX9_answer 10 = .ok (.aload_n 0, 1) := by decide +kernel
theorem dX9_answer_11 : decode cX9_answer 11 = .ok (.iload_n 1, 1) := by decide +kernel
theorem dX9_answer_12 : decode cX9_answer 12 = .ok (.invokevirtual 157, 3) := by decide +kernel
theorem dX9_answer_15 : decode cX9_answer 15 = .ok (.imul, 1) := by decide +kernel
theorem dX9_answer_16 : decode cX9_answer 16 = .ok (.aload_n 0, 1) := by decide +kernel
theorem dX9_answer_17 : decode cX9_answer 17 = .ok (.invokevirtual 160, 3) := by decide +kernel
theorem dX9_answer_20 : decode cX9_answer 20 = .ok (.if_icmp .lt 7, 3) := by decide +kernel
theorem dX9_answer_23 : decode cX9_answer 23 = .ok (.iconst 1, 1) := by decide +kernel
theorem dX9_answer_24 : decode cX9_answer 24 = .ok (.goto 4, 3) := by decide +kernel
theorem dX9_answer_27 : decode cX9_answer 27 = .ok (.iconst 0, 1) := by decide +kernel
theorem dX9_answer_28 : decode cX9_answer 28 = .ok (.ireturn, 1) := by decide +kernel
theorem dX9_answer_29 : decode cX9_answer 29 = .ok (.aload_n 0, 1) := by decide +kernel
theorem dX9_answer_30 : decode cX9_answer 30 = .ok (.getfield 10, 3) := by decide +kernel
theorem dX9_answer_33 : decode cX9_answer 33 = .ok (.aload_n 0, 1) := by decide +kernel
theorem dX9_answer_34 : decode cX9_answer 34 = .ok (.getfield 138, 3) := by decide +kernel
theorem dX9_answer_37 : decode cX9_answer 37 = .ok (.invokeinterface 129 2, 5) := by decide +kernel
theorem dX9_answer_42 : decode cX9_answer 42 = .ok (.checkcast 86, 3) := by decide +kernel
theorem dX9_answer_45 : decode cX9_answer 45 = .ok (.iconst 0, 1) := by decide +kernel
theorem dX9_answer_46 : decode cX9_answer 46 = .ok (.iaload, 1) := by decide +kernel
theorem dX9_answer_47 : decode cX9_answer 47 = .ok (.iload_n 1, 1) := by decide +kernel
theorem dX9_answer_48 : decode cX9_answer 48 = .ok (.invokestatic 153, 3) := by decide +kernel
theorem dX9_answer_51 : decode cX9_answer 51 = .ok (.istore_n 2, 1) := by decide +kernel
theorem dX9_answer_52 : decode cX9_answer 52 = .ok (.aload_n 0, 1) := by decide +kernel
theorem dX9_answer_53 : decode cX9_answer 53 = .ok (.getfield 23, 3) := by decide +kernel
theorem dX9_answer_56 : decode cX9_answer 56 = .ok (.bipush 104, 2) := by decide +kernel
theorem dX9_answer_58 : decode cX9_answer 58 = .ok (.if_icmp .eq 14, 3) := by decide +kernel
theorem dX9_answer_61 : decode cX9_answer 61 = .ok (.aload_n 0, 1) := by decide +kernel
theorem dX9_answer_62 : decode cX9_answer 62 = .ok (.getfield 144, 3) := by decide +kernel
theorem dX9_answer_65 : decode cX9_answer 65 = .ok (.aload_n 0, 1) := by decide +kernel
theorem dX9_answer_66 : decode cX9_answer 66 = .ok (.getfield 141, 3) := by decide +kernel
theorem dX9_answer_69 : decode cX9_answer 69 = .ok (.if_icmp .ne 5, 3) := by decide +kernel
theorem dX9_answer_72 : decode cX9_answer 72 = .ok (.iload_n 2, 1) := by decide +kernel
theorem dX9_answer_73 : decode cX9_answer 73 = .ok (.ireturn, 1) := by decide +kernel
theorem dX9_answer_74 : decode cX9_answer 74 = .ok (.aload_n 0, 1) := by decide +kernel
theorem dX9_answer_75 : decode cX9_answer 75 = .ok (.aload_n 0, 1) := by decide +kernel
theorem dX9_answer_76 : decode cX9_answer 76 = .ok (.getfield 20, 3) := by decide +kernel
theorem dX9_answer_79 : decode cX9_answer 79 = .ok (.i2l, 1) := by decide +kernel
theorem dX9_answer_80 : decode cX9_answer 80 = .ok (.ldc2_w 163, 3) := by decide +kernel
theorem dX9_answer_83 : decode cX9_answer 83 = .ok (.lmul, 1) := by decide +kernel
theorem dX9_answer_84 : decode cX9_answer 84 = .ok (.ldc2_w 165, 3) := by decide +kernel
theorem dX9_answer_87 : decode cX9_answer 87 = .ok (.lrem, 1) := by decide +kernel
theorem dX9_answer_88 : decode cX9_answer 88 = .ok (.l2i, 1) := by decide +kernel
theorem dX9_answer_89 : decode cX9_answer 89 = .ok (.putfield 20, 3) := by decide +kernel
theorem dX9_answer_92 : decode cX9_answer 92 = .ok (.aload_n 0, 1) := by decide +kernel
theorem dX9_answer_93 : decode cX9_answer 93 = .ok (.getfield 20, 3) := by decide +kernel
theorem dX9_answer_96 : decode cX9_answer 96 = .ok (.iconst 3, 1) := by decide +kernel
theorem dX9_answer_97 : decode cX9_answer 97 = .ok (.irem, 1) := by decide +kernel
theorem dX9_answer_98 : decode cX9_answer 98 = .ok (.ifCond .eq 5, 3) := by decide +kernel
theorem dX9_answer_101 : decode cX9_answer 101 = .ok (.iload_n 2, 1) := by decide +kernel
theorem dX9_answer_102 : decode cX9_answer 102 = .ok (.ireturn, 1) := by decide +kernel
theorem dX9_answer_103 : decode cX9_answer 103 = .ok (.aload_n 0, 1) := by decide +kernel
theorem dX9_answer_104 : decode cX9_answer 104 = .ok (.dup, 1) := by decide +kernel
theorem dX9_answer_105 : decode cX9_answer 105 = .ok (.getfield 144, 3) := by decide +kernel
theorem dX9_answer_108 : decode cX9_answer 108 = .ok (.iconst 1, 1) := by decide +kernel
theorem dX9_answer_109 : decode cX9_answer 109 = .ok (.iadd, 1) := by decide +kernel
theorem dX9_answer_110 : decode cX9_answer 110 = .ok (.putfield 144, 3) := by decide +kernel
theorem dX9_answer_113 : decode cX9_answer 113 = .ok (.iload_n 2, 1) := by decide +kernel
theorem dX9_answer_114 : decode cX9_answer 114 = .ok (.ifCond .ne 7, 3) := by decide +kernel
theorem dX9_answer_117 : decode cX9_answer 117 = .ok (.iconst 1, 1) := by decide +kernel
theorem dX9_answer_118 : decode cX9_answer 118 = .ok (.goto 4, 3) := by decide +kernel
theorem dX9_answer_121 : decode cX9_answer 121 = .ok (.iconst 0, 1) := by decide +kernel
theorem dX9_answer_122 : decode cX9_answer 122 = .ok (.ireturn, 1) := by decide +kernel
set_option maxRecDepth 20000 in
theorem ggX9_asks_X9_answer : GoodIn wsX9_asks wsX9_answer := goodIn_r _ [8, 9, 1, 10, 2, 11, 12, 13, 14, 15, 16, 17, 18, 7, 19, 20, 21, 22, 23, 24, 25, 26, 27, 28, 29, 30, 31, 32, 33, 34, 35, 36, 37, 38, 39, 40, 41, 42, 43, 44, 45, 46, 47, 48, 49, 50, 51, 52, 53, 54, 55, 56, 57, 58, 59, 60, 61, 62, 63, 64, 65, 66, 67, 68, 69, 70, 71, 72, 73, 74, 75, 76, 77, 78, 79, 80, 81, 82, 83, 84, 85, 86, 87, 88, 89, 90, 91, 92, 93, 94, 95, 96, 97, 98, 99, 100, 101, 102, 103, 104, 105] (by decide +kernel) (by decide +kernel)
set_option maxRecDepth 20000 in
theorem gX9_asks_X9_answer : GoodIn wsX9_asks (wsV RX9 167 RX9 yX9_answer wsX9_answer) := goodIn_app (goodIn_of _ (by decide +kernel)) ggX9_asks_X9_answer
set_option maxRecDepth 20000 in
theorem ggX9_asks_Jx4a65c_iterator_32c93 : GoodIn wsX9_asks wsJx4a65c_iterator_32c93 := goodIn_r _ [24, 25, 26, 27, 28, 29, 30, 31, 32, 33, 34, 35, 36, 37, 38, 99, 100, 101, 102, 103, 104, 105] (by decide +kernel) (by decide +kernel)
set_option maxRecDepth 20000 in
theorem gX9_asks_Jx4a65c_iterator_32c93_f72Jx4a65c : GoodIn wsX9_asks (va_wsF RX9 72 RJx4a65c ⟨"java/util/List", "iterator", "()Ljava/util/Iterator;"⟩ yJx4a65c_iterator_32c93 wsJx4a65c_iterator_32c93) := goodIn_app (goodIn_of _ (by decide +kernel)) ggX9_asks_Jx4a65c_iterator_32c93
set_option maxRecDepth 20000 in
theorem ggX9_asks_Jx35411_hasNext_aae02 : GoodIn wsX9_asks wsJx35411_hasNext_aae02 := goodIn_r _ [42, 43, 31, 99, 100, 101, 102, 103, 104, 105] (by decide +kernel) (by decide +kernel)
set_option maxRecDepth 20000 in
theorem gX9_asks_Jx35411_hasNext_aae02_f76Jx35411 : GoodIn wsX9_asks (va_wsF RX9 76 RJx35411 ⟨"java/util/Iterator", "hasNext", "()Z"⟩ yJx35411_hasNext_aae02 wsJx35411_hasNext_aae02) := goodIn_app (goodIn_of _ (by decide +kernel)) ggX9_asks_Jx35411_hasNext_aae02
set_option maxRecDepth 20000 in
theorem ggX9_asks_Jx35411_next_0502b : GoodIn wsX9_asks wsJx35411_next_0502b := goodIn_r _ [47, 43, 31, 48, 35, 49, 50, 51, 27, 52, 36, 37, 38, 99, 100, 101, 102, 103, 104, 105] (by decide +kernel) (by decide +kernel)
set_option maxRecDepth 20000 in
theorem gX9_asks_Jx35411_next_0502b_f82Jx35411 : GoodIn wsX9_asks (va_wsF RX9 82 RJx35411 ⟨"java/util/Iterator", "next", "()Ljava/lang/Object;"⟩ yJx35411_next_0502b wsJx35411_next_0502b) := goodIn_app (goodIn_of _ (by decide +kernel)) ggX9_asks_Jx35411_next_0502b
set_option maxRecDepth 20000 in
theorem ggX9_asks_X9_hasPoint : GoodIn wsX9_asks wsX9_hasPoint := goodIn_r _ [59] (by decide +kernel) (by decide +kernel)
set_option maxRecDepth 20000 in
theorem gX9_asks_X9_hasPoint : GoodIn wsX9_asks (va_wsS RX9 153 yX9_hasPoint wsX9_hasPoint) := goodIn_app (goodIn_of _ (by decide +kernel)) ggX9_asks_X9_hasPoint
theorem dX9_asks_0 : decode cX9_asks 0 = .ok (.aload_n 0, 1) := by decide +kernel
theorem dX9_asks_1 : decode cX9_asks 1 = .ok (.iload_n 1, 1) := by decide +kernel
theorem dX9_asks_2 : decode cX9_asks 2 = .ok (.invokevirtual 167, 3) := by decide +kernel
theorem dX9_asks_5 : decode cX9_asks 5 = .ok (.istore_n 2, 1) := by decide +kernel
theorem dX9_asks_6 : decode cX9_asks 6 = .ok (.aload_n 0, 1) := by decide +kernel
theorem dX9_asks_7 : decode cX9_asks 7 = .ok (.getfield 10, 3) := by decide +kernel
theorem dX9_asks_10 : decode cX9_asks 10 = .ok (.invokeinterface 72 1, 5) := by decide +kernel
theorem dX9_asks_15 : decode cX9_asks 15 = .ok (.astore_n 3, 1) := by decide +kernel
theorem dX9_asks_16 : decode cX9_asks 16 = .ok (.aload_n 3, 1) := by decide +kernel
theorem dX9_asks_17 : decode cX9_asks 17 = .ok (.invokeinterface 76 1, 5) := by decide +kernel
theorem dX9_asks_22 : decode cX9_asks 22 = .ok (.ifCond .eq 41, 3) := by decide +kernel
theorem dX9_asks_25 : decode cX9_asks 25 = .ok (.aload_n 3, 1) := by decide +kernel
theorem dX9_asks_26 : decode cX9_asks 26 = .ok (.invokeinterface 82 1, 5) := by decide +kernel
theorem dX9_asks_31 : decode cX9_asks 31 = .ok (.checkcast 86, 3) := by decide +kernel
theorem dX9_asks_34 : decode cX9_asks 34 = .ok (.astore 4, 2) := by decide +kernel
theorem dX9_asks_36 : decode cX9_asks 36 = .ok (.aload 4, 2) := by decide +kernel
theorem dX9_asks_38 : decode cX9_asks 38 = .ok (.iconst 1, 1) := by decide +kernel
theorem dX9_asks_39 : decode cX9_asks 39 = .ok (.dup2, 1) := by decide +kernel
theorem dX9_asks_40 : decode cX9_asks 40 = .ok (.iaload, 1) := by decide +kernel
theorem dX9_asks_41 : decode cX9_asks 41 = .ok (.aload 4, 2) := by decide +kernel
theorem dX9_asks_43 : decode cX9_asks 43 = .ok (.iconst 0, 1) := by decide +kernel
theorem dX9_asks_44 : decode cX9_asks 44 = .ok (.iaload, 1) := by decide +kernel
theorem dX9_asks_45 : decode cX9_asks 45 = .ok (.iload_n 1, 1) := by decide +kernel
theorem dX9_asks_46 : decode cX9_asks 46 = .ok (.invokestatic 153, 3) := by decide +kernel
theorem dX9_asks_49 : decode cX9_asks 49 = .ok (.iload_n 2, 1) := by decide +kernel
theorem dX9_asks_50 : decode cX9_asks 50 = .ok (.if_icmp .ne 7, 3) := by decide +kernel
theorem dX9_asks_53 : decode cX9_asks 53 = .ok (.iconst 0, 1) := by decide +kernel
theorem dX9_asks_54 : decode cX9_asks 54 = .ok (.goto 4, 3) := by decide +kernel
theorem dX9_asks_57 : decode cX9_asks 57 = .ok (.iconst 1, 1) := by decide +kernel
theorem dX9_asks_58 : decode cX9_asks 58 = .ok (.iadd, 1) := by decide +kernel
theorem dX9_asks_59 : decode cX9_asks 59 = .ok (.iastore, 1) := by decide +kernel
theorem dX9_asks_60 : decode cX9_asks 60 = .ok (.goto (-44), 3) := by decide +kernel
theorem dX9_asks_63 : decode cX9_asks 63 = .ok (.aload_n 0, 1) := by decide +kernel
theorem dX9_asks_64 : decode cX9_asks 64 = .ok (.dup, 1) := by decide +kernel
theorem dX9_asks_65 : decode cX9_asks 65 = .ok (.getfield 69, 3) := by decide +kernel
theorem dX9_asks_68 : decode cX9_asks 68 = .ok (.iconst 1, 1) := by decide +kernel
theorem dX9_asks_69 : decode cX9_asks 69 = .ok (.iadd, 1) := by decide +kernel
theorem dX9_asks_70 : decode cX9_asks 70 = .ok (.putfield 69, 3) := by decide +kernel
theorem dX9_asks_73 : decode cX9_asks 73 = .ok (.iload_n 2, 1) := by decide +kernel
theorem dX9_asks_74 : decode cX9_asks 74 = .ok (.ireturn, 1) := by decide +kernel
set_option maxRecDepth 20000 in
theorem ggX9_ask_X9_isBetween : GoodIn wsX9_ask wsX9_isBetween := goodIn_r _ [7] (by decide +kernel) (by decide +kernel)
set_option maxRecDepth 20000 in
theorem gX9_ask_X9_isBetween : GoodIn wsX9_ask (va_wsS RX9 56 yX9_isBetween wsX9_isBetween) := goodIn_app (goodIn_of _ (by decide +kernel)) ggX9_ask_X9_isBetween
set_option maxRecDepth 20000 in
theorem ggX9_ask_X9_isWrong : GoodIn wsX9_ask wsX9_isWrong := goodIn_r _ [11, 12, 95, 96, 97, 98, 99, 100, 101, 102, 103, 104, 105, 106, 107, 108, 109, 110, 111] (by decide +kernel) (by decide +kernel)
set_option maxRecDepth 20000 in
theorem gX9_ask_X9_isWrong : GoodIn wsX9_ask (wsV RX9 62 RX9 yX9_isWrong wsX9_isWrong) := goodIn_app (goodIn_of _ (by decide +kernel)) ggX9_ask_X9_isWrong
set_option maxRecDepth 20000 in
theorem ggX9_ask_X9_asks : GoodIn wsX9_ask wsX9_asks := goodIn_r _ [16, 17, 18, 3, 19, 20, 21, 6, 22, 2, 23, 24, 25, 26, 27, 28, 29, 30, 31, 32, 33, 34, 35, 36, 37, 38, 39, 40, 41, 42, 43, 44, 45, 46, 47, 48, 49, 50, 51, 52, 53, 54, 55, 56, 57, 58, 59, 60, 61, 62, 63, 64, 65, 66, 67, 68, 69, 70, 71, 72, 73, 74, 75, 76, 77, 78, 79, 80, 81, 82, 83, 84, 85, 86, 87, 88, 89, 90, 91, 92, 93, 94, 95, 96, 97, 98, 99, 100, 101, 102, 103, 104, 105, 106, 107, 108, 109, 110, 111, 112, 113, 114, 115, 116, 117, 118] (by decide +kernel) (by decide +kernel)
set_option maxRecDepth 20000 in
theorem gX9_ask_X9_asks : GoodIn wsX9_ask (wsV RX9 170 RX9 yX9_asks wsX9_asks) := goodIn_app (goodIn_of _ (by decide +kernel)) ggX9_ask_X9_asks
theorem dX9_ask_0 : decode cX9_ask 0 = .ok (.aload_n 0, 1) := by decide +kernel
theorem dX9_ask_1 : decode cX9_ask 1 = .ok (.iload_n 1, 1) := by decide +kernel
theorem dX9_ask_2 : decode cX9_ask 2 = .ok (.i2l, 1) := by decide +kernel
theorem dX9_ask_3 : decode cX9_ask 3 = .ok (.lconst 0, 1) := by decide +kernel
theorem dX9_ask_4 : decode cX9_ask 4 = .ok (.aload_n 0, 1) := by decide +kernel
theorem dX9_ask_5 : decode cX9_ask 5 = .ok (.getfield 16, 3) := by decide +kernel
theorem dX9_ask_8 : decode cX9_ask 8 = .ok (.iconst 1, 1) := by decide +kernel
theorem dX9_ask_9 : decode cX9_ask 9 = .ok (.isub, 1) := by decide +kernel
theorem dX9_ask_10 : decode cX9_ask 10 = .ok (.i2l, 1) := by decide +kernel
theorem dX9_ask_11 : decode cX9_ask 11 = .ok (.invokestatic 56, 3) := by decide +kernel
theorem dX9_ask_14 : decode cX9_ask 14 = .ok (.ifCond .ne 7, 3) := by decide +kernel
theorem dX9_ask_17 : decode cX9_ask 17 = .ok (.iconst 1, 1) := by decide +kernel
theorem dX9_ask_18 : decode cX9_ask 18 = .ok (.goto 30, 3) := by decide +kernel
theorem dX9_ask_21 : decode cX9_ask 21 = .ok (.aload_n 0, 1) := by decide +kernel
theorem dX9_ask_22 : decode cX9_ask 22 = .ok (.getfield 23, 3) := by decide +kernel
theorem dX9_ask_25 : decode cX9_ask 25 = .ok (.bipush 45, 2) := by decide +kernel
theorem dX9_ask_27 : decode cX9_ask 27 = .ok (.if_icmp .ne 7, 3) := by decide +kernel
theorem dX9_ask_30 : decode cX9_ask 30 = .ok (.iconst 2, 1) := by decide +kernel
theorem dX9_ask_31 : decode cX9_ask 31 = .ok (.goto 17, 3) := by decide +kernel
theorem dX9_ask_34 : decode cX9_ask 34 = .ok (.aload_n 0, 1) := by decide +kernel
theorem dX9_ask_35 : decode cX9_ask 35 = .ok (.getfield 69, 3) := by decide +kernel
theorem dX9_ask_38 : decode cX9_ask 38 = .ok (.bipush 40, 2) := by decide +kernel
theorem dX9_ask_40 : decode cX9_ask 40 = .ok (.if_icmp .ne 7, 3) := by decide +kernel
theorem dX9_ask_43 : decode cX9_ask 43 = .ok (.iconst 3, 1) := by decide +kernel
theorem dX9_ask_44 : decode cX9_ask 44 = .ok (.goto 4, 3) := by decide +kernel
theorem dX9_ask_47 : decode cX9_ask 47 = .ok (.iconst 0, 1) := by decide +kernel
theorem dX9_ask_48 : decode cX9_ask 48 = .ok (.invokevirtual 62, 3) := by decide +kernel
theorem dX9_ask_51 : decode cX9_ask 51 = .ok (.ifCond .ne 15, 3) := by decide +kernel
theorem dX9_ask_54 : decode cX9_ask 54 = .ok (.aload_n 0, 1) := by decide +kernel
theorem dX9_ask_55 : decode cX9_ask 55 = .ok (.iload_n 1, 1) := by decide +kernel
theorem dX9_ask_56 : decode cX9_ask 56 = .ok (.invokevirtual 170, 3) := by decide +kernel
theorem dX9_ask_59 : decode cX9_ask 59 = .ok (.ifCond .eq 7, 3) := by decide +kernel
theorem dX9_ask_62 : decode cX9_ask 62 = .ok (.iconst 1, 1) := by decide +kernel
theorem dX9_ask_63 : decode cX9_ask 63 = .ok (.goto 4, 3) := by decide +kernel
theorem dX9_ask_66 : decode cX9_ask 66 = .ok (.iconst 0, 1) := by decide +kernel
theorem dX9_ask_67 : decode cX9_ask 67 = .ok (.ireturn, 1) := by decide +kernel
set_option maxRecDepth 20000 in
theorem ggX9_counter_X9_hasPoint : GoodIn wsX9_counter wsX9_hasPoint := goodIn_r _ [9] (by decide +kernel) (by decide +kernel)
set_option maxRecDepth 20000 in
theorem gX9_counter_X9_hasPoint : GoodIn wsX9_counter (va_wsS RX9 153 yX9_hasPoint wsX9_hasPoint) := goodIn_app (goodIn_of _ (by decide +kernel)) ggX9_counter_X9_hasPoint
set_option maxRecDepth 20000 in
theorem ggX9_counter_X9_living : GoodIn wsX9_counter wsX9_living := goodIn_r _ [13, 14, 15, 16, 17, 18, 19, 20, 21, 22, 23, 24, 25, 26, 27, 28, 29, 30, 31, 32, 33, 34, 35, 36, 37, 38, 39, 40, 41, 42, 43, 44, 45, 46, 47, 48, 49, 50, 51, 8, 52, 53, 58, 59, 60, 61, 62, 63, 64, 65, 66, 67, 68, 69, 70, 71, 72, 73, 74, 75, 76, 77, 78, 79, 80, 81] (by decide +kernel) (by decide +kernel)
set_option maxRecDepth 20000 in
theorem gX9_counter_X9_living : GoodIn wsX9_counter (wsV RX9 160 RX9 yX9_living wsX9_living) := goodIn_app (goodIn_of _ (by decide +kernel)) ggX9_counter_X9_living
set_option maxRecDepth 20000 in
theorem ggX9_counter_X9_livingWith : GoodIn wsX9_counter wsX9_livingWith := goodIn_r _ [57, 14, 15, 16, 17, 18, 19, 20, 21, 22, 23, 24, 25, 26, 27, 28, 29, 30, 31, 32, 33, 34, 35, 36, 37, 38, 39, 40, 41, 42, 43, 44, 45, 46, 47, 48, 49, 50, 51, 8, 52, 53, 6, 7, 9, 58, 59, 60, 61, 62, 63, 64, 65, 66, 67, 68, 69, 70, 71, 72, 73, 74, 75, 76, 77, 78, 79, 80, 81] (by decide +kernel) (by decide +kernel)
set_option maxRecDepth 20000 in
theorem gX9_counter_X9_livingWith : GoodIn wsX9_counter (wsV RX9 157 RX9 yX9_livingWith wsX9_livingWith) := goodIn_app (goodIn_of _ (by decide +kernel)) ggX9_counter_X9_livingWith
theorem dX9_counter_0 : decode cX9_counter 0 = .ok (.iconst (-1), 1) := by decide +kernel
theorem dX9_counter_1 : decode cX9_counter 1 = .ok (.istore_n 2, 1) := by decide +kernel
theorem dX9_counter_2 : decode cX9_counter 2 = .ok (.iconst 0, 1) := by decide +kernel
theorem dX9_counter_3 : decode cX9_counter 3 = .ok (.istore_n 3, 1) := by decide +kernel
theorem dX9_counter_4 : decode cX9_counter 4 = .ok (.iconst 0, 1) := by decide +kernel
theorem dX9_counter_5 : decode cX9_counter 5 = .ok (.istore 4, 2) := by decide +kernel
theorem dX9_counter_7 : decode cX9_counter 7 = .ok (.iload 4, 2) := by decide +kernel
theorem dX9_counter_9 : decode cX9_counter 9 = .ok (.aload_n 0, 1) := by decide +kernel
theorem dX9_counter_10 : decode cX9_counter 10 = .ok (.getfield 16, 3) := by decide +kernel
theorem dX9_counter_13 : decode cX9_counter 13 = .ok (.if_icmp .ge 60, 3) := by decide +kernel
theorem dX9_counter_16 : decode cX9_counter 16 = .ok (.iload_n 1, 1) := by decide +kernel
theorem dX9_counter_17 : decode cX9_counter 17 = .ok (.iload 4, 2) := by decide +kernel
theorem dX9_counter_19 : decode cX9_counter 19 = .ok (.invokestatic 153, 3) := by decide +kernel
theorem dX9_counter_22 : decode cX9_counter 22 = .ok (.ifCond .eq 17, 3) := by decide +kernel
theorem dX9_counter_25 : decode cX9_counter 25 = .ok (.aload_n 0, 1) := by decide +kernel
theorem dX9_counter_26 : decode cX9_counter 26 = .ok (.invokevirtual 160, 3) := by decide +kernel
theorem dX9_counter_29 : decode cX9_counter 29 = .ok (.aload_n 0, 1) := by decide +kernel
theorem dX9_counter_30 : decode cX9_counter 30 = .ok (.iload 4, 2) := by decide +kernel
theorem dX9_counter_32 : decode cX9_counter 32 = .ok (.invokevirtual 157, 3) := by decide +kernel
theorem dX9_counter_35 : decode cX9_counter 35 = .ok (.isub, 1) := by decide +kernel
theorem dX9_counter_36 : decode cX9_counter 36 = .ok (.goto 9, 3) := by decide +kernel
theorem dX9_counter_39 : decode cX9_counter 39 = .ok (.aload_n 0, 1) := by decide +kernel
theorem dX9_counter_40 : decode cX9_counter 40 = .ok (.iload 4, 2) := by decide +kernel
theorem dX9_counter_42 : decode cX9_counter 42 = .ok (.invokevirtual 157, 3) := by decide +kernel
theorem dX9_counter_45 : decode cX9_counter 45 = .ok (.istore 5, 2) := by decide +kernel
theorem dX9_counter_47 : decode cX9_counter 47 = .ok (.iload 5, 2) := by decide +kernel
theorem dX9_counter_49 : decode cX9_counter 49 = .ok (.iload_n 3, 1) := by decide +kernel
theorem dX9_counter_50 : decode cX9_counter 50 = .ok (.if_icmp .le 8, 3) := by decide +kernel
theorem dX9_counter_53 : decode cX9_counter 53 = .ok (.iload 4, 2) := by decide +kernel
theorem dX9_counter_55 : decode cX9_counter 55 = .ok (.goto 4, 3) := by decide +kernel
theorem dX9_counter_58 : decode cX9_counter 58 = .ok (.iload_n 2, 1) := by decide +kernel
theorem dX9_counter_59 : decode cX9_counter 59 = .ok (.istore_n 2, 1) := by decide +kernel
theorem dX9_counter_60 : decode cX9_counter 60 = .ok (.iload_n 3, 1) := by decide +kernel
theorem dX9_counter_61 : decode cX9_counter 61 = .ok (.iload 5, 2) := by decide +kernel
theorem dX9_counter_63 : decode cX9_counter 63 = .ok (.invokestatic 173, 3) := by decide +kernel
theorem dX9_counter_66 : decode cX9_counter 66 = .ok (.istore_n 3, 1) := by decide +kernel
theorem dX9_counter_67 : decode cX9_counter 67 = .ok (.iinc 4 1, 3) := by decide +kernel
theorem dX9_counter_70 : decode cX9_counter 70 = .ok (.goto (-63), 3) := by decide +kernel
theorem dX9_counter_73 : decode cX9_counter 73 = .ok (.iload_n 2, 1) := by decide +kernel
theorem dX9_counter_74 : decode cX9_counter 74 = .ok (.ireturn, 1) := by decide +kernel
set_option maxRecDepth 20000 in
theorem ggX9_equal_X9_isSet : GoodIn wsX9_equal wsX9_isSet := goodIn_r _ [10, 11, 12, 13, 9, 14, 100, 101, 102, 103, 104, 105, 106, 107, 108, 109, 110, 111, 112, 113, 114, 115, 116] (by decide +kernel) (by decide +kernel)
set_option maxRecDepth 20000 in
theorem gX9_equal_X9_isSet : GoodIn wsX9_equal (wsV RX9 88 RX9 yX9_isSet wsX9_isSet) := goodIn_app (goodIn_of _ (by decide +kernel)) ggX9_equal_X9_isSet
set_option maxRecDepth 20000 in
theorem ggX9_equal_X9_isWrong : GoodIn wsX9_equal wsX9_isWrong := goodIn_r _ [18, 19, 100, 101, 102, 103, 104, 105, 106, 107, 108, 109, 110, 111, 112, 113, 114, 115, 116] (by decide +kernel) (by decide +kernel)
set_option maxRecDepth 20000 in
theorem gX9_equal_X9_isWrong : GoodIn wsX9_equal (wsV RX9 62 RX9 yX9_isWrong wsX9_isWrong) := goodIn_app (goodIn_of _ (by decide +kernel)) ggX9_equal_X9_isWrong
set_option maxRecDepth 20000 in
theorem ggX9_equal_Jx4a65c_get_915e3 : GoodIn wsX9_equal wsJx4a65c_get_915e3 := goodIn_r _ [24, 25, 26, 27, 28, 29, 30, 31, 32, 33, 34, 35, 36, 23, 37, 38, 117, 118, 119] (by decide +kernel) (by decide +kernel)
set_option maxRecDepth 20000 in
theorem gX9_equal_Jx4a65c_get_915e3_f129Jx4a65c : GoodIn wsX9_equal (va_wsF RX9 129 RJx4a65c ⟨"java/util/List", "get", "(I)Ljava/lang/Object;"⟩ yJx4a65c_get_915e3 wsJx4a65c_get_915e3) := goodIn_app (goodIn_of _ (by decide +kernel)) ggX9_equal_Jx4a65c_get_915e3
set_option maxRecDepth 20000 in
theorem ggX9_equal_X9_counter : GoodIn wsX9_equal wsX9_counter := goodIn_r _ [42, 11, 43, 44, 45, 46, 47, 48, 9, 49, 50, 51, 52, 53, 3, 5, 54, 55, 56, 23, 57, 58, 59, 60, 61, 62, 63, 64, 65, 66, 67, 68, 69, 70, 71, 72, 73, 74, 75, 76, 77, 78, 79, 80, 81, 82, 83, 84, 85, 86, 87, 88, 89, 90, 91, 92, 93, 94, 100, 101, 102, 103, 104, 105, 106, 107, 108, 109, 110, 111, 112, 113, 114, 115, 116, 120, 121, 122, 123, 117, 118, 119] (by decide +kernel) (by decide +kernel)
set_option maxRecDepth 20000 in
theorem gX9_equal_X9_counter : GoodIn wsX9_equal (wsV RX9 179 RX9 yX9_counter wsX9_counter) := goodIn_app (goodIn_of _ (by decide +kernel)) ggX9_equal_X9_counter
set_option maxRecDepth 20000 in
theorem ggX9_equal_J6_numberOfTrailingZeros_0f7a4 : GoodIn wsX9_equal wsJ6_numberOfTrailingZeros_0f7a4 := goodIn_r _ [98, 99] (by decide +kernel) (by decide +kernel)
set_option maxRecDepth 20000 in
theorem gX9_equal_J6_numberOfTrailingZeros_0f7a4 : GoodIn wsX9_equal (va_wsS RX9 182 yJ6_numberOfTrailingZeros_0f7a4 wsJ6_numberOfTrailingZeros_0f7a4) := goodIn_app (goodIn_of _ (by decide +kernel)) ggX9_equal_J6_numberOfTrailingZeros_0f7a4
set_option maxRecDepth 20000 in
theorem ggX9_equal_Jx4a65c_iterator_32c93 : GoodIn wsX9_equal wsJx4a65c_iterator_32c93 := goodIn_r _ [57, 58, 59, 60, 61, 62, 63, 64, 65, 66, 67, 68, 69, 70, 71, 120, 121, 122, 123, 117, 118, 119] (by decide +kernel) (by decide +kernel)
set_option maxRecDepth 20000 in
theorem gX9_equal_Jx4a65c_iterator_32c93_f72Jx4a65c : GoodIn wsX9_equal (va_wsF RX9 72 RJx4a65c ⟨"java/util/List", "iterator", "()Ljava/util/Iterator;"⟩ yJx4a65c_iterator_32c93 wsJx4a65c_iterator_32c93) := goodIn_app (goodIn_of _ (by decide +kernel)) ggX9_equal_Jx4a65c_iterator_32c93
set_option maxRecDepth 20000 in
theorem ggX9_equal_Jx35411_hasNext_aae02 : GoodIn wsX9_equal wsJx35411_hasNext_aae02 := goodIn_r _ [75, 76, 64, 120, 121, 122, 123, 117, 118, 119] (by decide +kernel) (by decide +kernel)
set_option maxRecDepth 20000 in
theorem gX9_equal_Jx35411_hasNext_aae02_f76Jx35411 : GoodIn wsX9_equal (va_wsF RX9 76 RJx35411 ⟨"java/util/Iterator", "hasNext", "()Z"⟩ yJx35411_hasNext_aae02 wsJx35411_hasNext_aae02) := goodIn_app (goodIn_of _ (by decide +kernel)) ggX9_equal_Jx35411_hasNext_aae02
set_option maxRecDepth 20000 in
theorem ggX9_equal_Jx35411_next_0502b : GoodIn wsX9_equal wsJx35411_next_0502b := goodIn_r _ [80, 76, 64, 81, 68, 82, 83, 84, 60, 85, 69, 70, 71, 120, 121, 122, 123, 117, 118, 119] (by decide +kernel) (by decide +kernel)
set_option maxRecDepth 20000 in
theorem gX9_equal_Jx35411_next_0502b_f82Jx35411 : GoodIn wsX9_equal (va_wsF RX9 82 RJx35411 ⟨"java/util/Iterator", "next", "()Ljava/lang/Object;"⟩ yJx35411_next_0502b wsJx35411_next_0502b) := goodIn_app (goodIn_of _ (by decide +kernel)) ggX9_equal_Jx35411_next_0502b
set_option maxRecDepth 20000 in
theorem ggX9_equal_X9_hasPoint : GoodIn wsX9_equal wsX9_hasPoint := goodIn_r _ [49] (by decide +kernel) (by decide +kernel)
set_option maxRecDepth 20000 in
theorem gX9_equal_X9_hasPoint : GoodIn wsX9_equal (va_wsS RX9 153 yX9_hasPoint wsX9_hasPoint) := goodIn_app (goodIn_of _ (by decide +kernel)) ggX9_equal_X9_hasPoint
theorem dX9_equal_0 : decode cX9_equal 0 = .ok (.aload_n 0, 1) := by decide +kernel
theorem dX9_equal_1 : decode cX9_equal 1 = .ok (.aload_n 0, 1) := by decide +kernel
theorem dX9_equal_2 : decode cX9_equal 2 = .ok (.iload_n 1, 1) := by decide +kernel
theorem dX9_equal_3 : decode cX9_equal 3 = .ok (.invokevirtual 88, 3) := by decide +kernel
theorem dX9_equal_6 : decode cX9_equal 6 = .ok (.ifCond .ne 7, 3) := by decide +kernel
theorem dX9_equal_9 : decode cX9_equal 9 = .ok (.iconst 1, 1) := by decide +kernel
theorem dX9_equal_10 : decode cX9_equal 10 = .ok (.goto 30, 3) := by decide +kernel
theorem dX9_equal_13 : decode cX9_equal 13 = .ok (.aload_n 0, 1) := by decide +kernel
theorem dX9_equal_14 : decode cX9_equal 14 = .ok (.getfield 23, 3) := by decide +kernel
theorem dX9_equal_17 : decode cX9_equal 17 = .ok (.bipush 45, 2) := by decide +kernel
theorem dX9_equal_19 : decode cX9_equal 19 = .ok (.if_icmp .ne 7, 3) := by decide +kernel
theorem dX9_equal_22 : decode cX9_equal 22 = .ok (.iconst 2, 1) := by decide +kernel
theorem dX9_equal_23 : decode cX9_equal 23 = .ok (.goto 17, 3) := by decide +kernel
theorem dX9_equal_26 : decode cX9_equal 26 = .ok (.aload_n 0, 1) := by decide +kernel
theorem dX9_equal_27 : decode cX9_equal 27 = .ok (.getfield 69, 3) := by decide +kernel
theorem dX9_equal_30 : decode cX9_equal 30 = .ok (.bipush 40, 2) := by decide +kernel
theorem dX9_equal_32 : decode cX9_equal 32 = .ok (.if_icmp .ne 7, 3) := by decide +kernel
theorem dX9_equal_35 : decode cX9_equal 35 = .ok (.iconst 3, 1) := by decide +kernel
theorem dX9_equal_36 : decode cX9_equal 36 = .ok (.goto 4, 3) := by decide +kernel
theorem dX9_equal_39 : decode cX9_equal 39 = .ok (.iconst 0, 1) := by decide +kernel
theorem dX9_equal_40 : decode cX9_equal 40 = .ok (.invokevirtual 62, 3) := by decide +kernel
theorem dX9_equal_43 : decode cX9_equal 43 = .ok (.ifCond .eq 5, 3) := by decide +kernel
theorem dX9_equal_46 : decode cX9_equal 46 = .ok (.iconst 0, 1) := by decide +kernel
theorem dX9_equal_47 : decode cX9_equal 47 = .ok (.ireturn, 1) := by decide +kernel
theorem dX9_equal_48 : decode cX9_equal 48 = .ok (.aload_n 0, 1) := by decide +kernel
theorem dX9_equal_49 : decode cX9_equal 49 = .ok (.getfield 23, 3) := by decide +kernel
theorem dX9_equal_52 : decode cX9_equal 52 = .ok (.bipush 97, 2) := by decide +kernel
theorem dX9_equal_54 : decode cX9_equal 54 = .ok (.if_icmp .ne 7, 3) := by decide +kernel
theorem dX9_equal_57 : decode cX9_equal 57 = .ok (.iconst 0, 1) := by decide +kernel
theorem dX9_equal_58 : decode cX9_equal 58 = .ok (.goto 23, 3) := by decide +kernel
theorem dX9_equal_61 : decode cX9_equal 61 = .ok (.iload_n 1, 1) := by decide +kernel
theorem dX9_equal_62 : decode cX9_equal 62 = .ok (.aload_n 0, 1) := by decide +kernel
theorem dX9_equal_63 : decode cX9_equal 63 = .ok (.getfield 10, 3) := by decide +kernel
theorem dX9_equal_66 : decode cX9_equal 66 = .ok (.aload_n 0, 1) := by decide +kernel
theorem dX9_equal_67 : decode cX9_equal 67 = .ok (.getfield 138, 3) := by decide +kernel
theorem dX9_equal_70 : decode cX9_equal 70 = .ok (.invokeinterface 129 2, 5) := by decide +kernel
theorem dX9_equal_75 : decode cX9_equal 75 = .ok (.checkcast 86, 3) := by decide +kernel
theorem dX9_equal_78 : decode cX9_equal 78 = .ok (.iconst 0, 1) := by decide +kernel
theorem dX9_equal_79 : decode cX9_equal 79 = .ok (.iaload, 1) := by decide +kernel
theorem dX9_equal_80 : decode cX9_equal 80 = .ok (.ixor, 1) := by decide +kernel
theorem dX9_equal_81 : decode cX9_equal 81 = .ok (.istore_n 2, 1) := by decide +kernel
theorem dX9_equal_82 : decode cX9_equal 82 = .ok (.aload_n 0, 1) := by decide +kernel
theorem dX9_equal_83 : decode cX9_equal 83 = .ok (.getfield 23, 3) := by decide +kernel
theorem dX9_equal_86 : decode cX9_equal 86 = .ok (.bipush 97, 2) := by decide +kernel
theorem dX9_equal_88 : decode cX9_equal 88 = .ok (.if_icmp .ne 11, 3) := by decide +kernel
theorem dX9_equal_91 : decode cX9_equal 91 = .ok (.aload_n 0, 1) := by decide +kernel
theorem dX9_equal_92 : decode cX9_equal 92 = .ok (.iload_n 1, 1) := by decide +kernel
theorem dX9_equal_93 : decode cX9_equal 93 = .ok (.invokevirtual 179, 3) := by decide +kernel
theorem dX9_equal_96 : decode cX9_equal 96 = .ok (.goto 15, 3) := by decide +kernel
theorem dX9_equal_99 : decode cX9_equal 99 = .ok (.iload_n 2, 1) := by decide +kernel
theorem dX9_equal_100 : decode cX9_equal 100 = .ok (.ifCond .ne 7, 3) := by decide +kernel
theorem dX9_equal_103 : decode cX9_equal 103 = .ok (.iconst (-1), 1) := by decide +kernel
theorem dX9_equal_104 : decode cX9_equal 104 = .ok (.goto 7, 3) := by decide +kernel
theorem dX9_equal_107 : decode cX9_equal 107 = .ok (.iload_n 2, 1) := by decide +kernel
theorem dX9_equal_108 : decode cX9_equal 108 = .ok (.invokestatic 182, 3) := by decide +kernel
theorem dX9_equal_111 : decode cX9_equal 111 = .ok (.istore_n 3, 1) := by decide +kernel
theorem dX9_equal_112 : decode cX9_equal 112 = .ok (.aload_n 0, 1) := by decide +kernel
theorem dX9_equal_113 : decode cX9_equal 113 = .ok (.getfield 10, 3) := by decide +kernel
theorem dX9_equal_116 : decode cX9_equal 116 = .ok (.invokeinterface 72 1, 5) := by decide +kernel
theorem dX9_equal_121 : decode cX9_equal 121 = .ok (.astore 4, 2) := by decide +kernel
theorem dX9_equal_123 : decode cX9_equal 123 = .ok (.aload 4, 2) := by decide +kernel
theorem dX9_equal_125 : decode cX9_equal 125 = .ok (.invokeinterface 76 1, 5) := by decide +kernel
theorem dX9_equal_130 : decode cX9_equal 130 = .ok (.ifCond .eq 79, 3) := by decide +kernel
theorem dX9_equal_133 : decode cX9_equal 133 = .ok (.aload 4, 2) := by decide +kernel
theorem dX9_equal_135 : decode cX9_equal 135 = .ok (.invokeinterface 82 1, 5) := by decide +kernel
theorem dX9_equal_140 : decode cX9_equal 140 = .ok (.checkcast 86, 3) := by decide +kernel
theorem dX9_equal_143 : decode cX9_equal 143 = .ok (.astore 5, 2) := by decide +kernel
theorem dX9_equal_145 : decode cX9_equal 145 = .ok (.iload_n 3, 1) := by decide +kernel
theorem dX9_equal_146 : decode cX9_equal 146 = .ok (.iconst (-1), 1) := by decide +kernel
theorem dX9_equal_147 : decode cX9_equal 147 = .ok (.if_icmp .ne 19, 3) := by decide +kernel
theorem dX9_equal_150 : decode cX9_equal 150 = .ok (.aload 5, 2) := by decide +kernel
theorem dX9_equal_152 : decode cX9_equal 152 = .ok (.iconst 0, 1) := by decide +kernel
theorem dX9_equal_153 : decode cX9_equal 153 = .ok (.iaload, 1) := by decide +kernel
theorem dX9_equal_154 : decode cX9_equal 154 = .ok (.iload_n 1, 1) := by decide +kernel
theorem dX9_equal_155 : decode cX9_equal 155 = .ok (.if_icmp .eq 7, 3) := by decide +kernel
theorem dX9_equal_158 : decode cX9_equal 158 = .ok (.iconst 1, 1) := by decide +kernel
theorem dX9_equal_159 : decode cX9_equal 159 = .ok (.goto 28, 3) := by decide +kernel
theorem dX9_equal_162 : decode cX9_equal 162 = .ok (.iconst 0, 1) := by decide +kernel
theorem dX9_equal_163 : decode cX9_equal 163 = .ok (.goto 24, 3) := by decide +kernel
theorem dX9_equal_166 : decode cX9_equal 166 = .ok (.aload 5, 2) := by decide +kernel
theorem dX9_equal_168 : decode cX9_equal 168 = .ok (.iconst 0, 1) := by decide +kernel
theorem dX9_equal_169 : decode cX9_equal 169 = .ok (.iaload, 1) := by decide +kernel
theorem dX9_equal_170 : decode cX9_equal 170 = .ok (.iload_n 3, 1) := by decide +kernel
theorem dX9_equal_171 : decode cX9_equal 171 = .ok (.invokestatic 153, 3) := by decide +kernel
theorem dX9_equal_174 : decode cX9_equal 174 = .ok (.iload_n 1, 1) := by decide +kernel
theorem dX9_equal_175 : decode cX9_equal 175 = .ok (.iload_n 3, 1) := by decide +kernel
theorem dX9_equal_176 : decode cX9_equal 176 = .ok (.invokestatic 153, 3) := by decide +kernel
theorem dX9_equal_179 : decode cX9_equal 179 = .ok (.if_icmp .ne 7, 3) := by decide +kernel
theorem dX9_equal_182 : decode cX9_equal 182 = .ok (.iconst 1, 1) := by decide +kernel
theorem dX9_equal_183 : decode cX9_equal 183 = .ok (.goto 4, 3) := by decide +kernel
theorem dX9_equal_186 : decode cX9_equal 186 = .ok (.iconst 0, 1) := by decide +kernel
theorem dX9_equal_187 : decode cX9_equal 187 = .ok (.istore 6, 2) := by decide +kernel
theorem dX9_equal_189 : decode cX9_equal 189 = .ok (.aload 5, 2) := by decide +kernel
theorem dX9_equal_191 : decode cX9_equal 191 = .ok (.iconst 2, 1) := by decide +kernel
theorem dX9_equal_192 : decode cX9_equal 192 = .ok (.iload 6, 2) := by decide +kernel
theorem dX9_equal_194 : decode cX9_equal 194 = .ok (.ifCond .eq 7, 3) := by decide +kernel
theorem dX9_equal_197 : decode cX9_equal 197 = .ok (.iconst 1, 1) := by decide +kernel
theorem dX9_equal_198 : decode cX9_equal 198 = .ok (.goto 7, 3) := by decide +kernel
theorem dX9_equal_201 : decode cX9_equal 201 = .ok (.aload 5, 2) := by decide +kernel
theorem dX9_equal_203 : decode cX9_equal 203 = .ok (.iconst 2, 1) := by decide +kernel
theorem dX9_equal_204 : decode cX9_equal 204 = .ok (.iaload, 1) := by decide +kernel
theorem dX9_equal_205 : decode cX9_equal 205 = .ok (.iastore, 1) := by decide +kernel
theorem dX9_equal_206 : decode cX9_equal 206 = .ok (.goto (-83), 3) := by decide +kernel
theorem dX9_equal_209 : decode cX9_equal 209 = .ok (.aload_n 0, 1) := by decide +kernel
theorem dX9_equal_210 : decode cX9_equal 210 = .ok (.dup, 1) := by decide +kernel
theorem dX9_equal_211 : decode cX9_equal 211 = .ok (.getfield 69, 3) := by decide +kernel
theorem dX9_equal_214 : decode cX9_equal 214 = .ok (.iconst 1, 1) := by decide +kernel
theorem dX9_equal_215 : decode cX9_equal 215 = .ok (.iadd, 1) := by decide +kernel
theorem dX9_equal_216 : decode cX9_equal 216 = .ok (.putfield 69, 3) := by decide +kernel
theorem dX9_equal_219 : decode cX9_equal 219 = .ok (.iload_n 3, 1) := by decide +kernel
theorem dX9_equal_220 : decode cX9_equal 220 = .ok (.ireturn, 1) := by decide +kernel
theorem dX9_answers_0 : decode cX9_answers 0 = .ok (.aload_n 0, 1) := by decide +kernel
theorem dX9_answers_1 : decode cX9_answers 1 = .ok (.iconst 0, 1) := by decide +kernel
theorem dX9_answers_2 : decode cX9_answers 2 = .ok (.putfield 47, 3) := by decide +kernel
theorem dX9_answers_5 : decode cX9_answers 5 = .ok (.aload_n 0, 1) := by decide +kernel
theorem dX9_answers_6 : decode cX9_answers 6 = .ok (.getfield 69, 3) := by decide +kernel
theorem dX9_answers_9 : decode cX9_answers 9 = .ok (.ireturn, 1) := by decide +kernel
set_option maxRecDepth 20000 in
theorem ggX9_conflicts_X9_isNoConcept : GoodIn wsX9_conflicts wsX9_isNoConcept := goodIn_r _ [7, 1, 8, 9, 6, 10, 11, 12, 13, 14, 15, 16, 17, 18, 19, 20, 21, 39, 40, 41, 42, 43, 44, 45, 46, 47, 48, 49, 50, 51, 52, 53, 54, 55, 56, 57, 58] (by decide +kernel) (by decide +kernel)
set_option maxRecDepth 20000 in
theorem gX9_conflicts_X9_isNoConcept : GoodIn wsX9_conflicts (wsV RX9 126 RX9 yX9_isNoConcept wsX9_isNoConcept) := goodIn_app (goodIn_of _ (by decide +kernel)) ggX9_conflicts_X9_isNoConcept
set_option maxRecDepth 20000 in
theorem ggX9_conflicts_Jx4a65c_get_915e3 : GoodIn wsX9_conflicts wsJx4a65c_get_915e3 := goodIn_r _ [25, 16, 26, 27, 28, 29, 30, 31, 32, 33, 34, 35, 36, 14, 37, 38, 56, 57, 58] (by decide +kernel) (by decide +kernel)
set_option maxRecDepth 20000 in
theorem gX9_conflicts_Jx4a65c_get_915e3_f129Jx4a65c : GoodIn wsX9_conflicts (va_wsF RX9 129 RJx4a65c ⟨"java/util/List", "get", "(I)Ljava/lang/Object;"⟩ yJx4a65c_get_915e3 wsJx4a65c_get_915e3) := goodIn_app (goodIn_of _ (by decide +kernel)) ggX9_conflicts_Jx4a65c_get_915e3
theorem dX9_conflicts_0 : decode cX9_conflicts 0 = .ok (.aload_n 0, 1) := by decide +kernel
theorem dX9_conflicts_1 : decode cX9_conflicts 1 = .ok (.iload_n 1, 1) := by decide +kernel
theorem dX9_conflicts_2 : decode cX9_conflicts 2 = .ok (.invokevirtual 126, 3) := by decide +kernel
theorem dX9_conflicts_5 : decode cX9_conflicts 5 = .ok (.ifCond .eq 7, 3) := by decide +kernel
theorem dX9_conflicts_8 : decode cX9_conflicts 8 = .ok (.iconst 0, 1) := by decide +kernel
theorem dX9_conflicts_9 : decode cX9_conflicts 9 = .ok (.goto 41, 3) := by decide +kernel
theorem dX9_conflicts_12 : decode cX9_conflicts 12 = .ok (.aload_n 0, 1) := by decide +kernel
theorem dX9_conflicts_13 : decode cX9_conflicts 13 = .ok (.getfield 10, 3) := by decide +kernel
theorem dX9_conflicts_16 : decode cX9_conflicts 16 = .ok (.iload_n 1, 1) := by decide +kernel
theorem dX9_conflicts_17 : decode cX9_conflicts 17 = .ok (.invokeinterface 129 2, 5) := by decide +kernel
theorem dX9_conflicts_22 : decode cX9_conflicts 22 = .ok (.checkcast 86, 3) := by decide +kernel
theorem dX9_conflicts_25 : decode cX9_conflicts 25 = .ok (.iconst 2, 1) := by decide +kernel
theorem dX9_conflicts_26 : decode cX9_conflicts 26 = .ok (.iaload, 1) := by decide +kernel
theorem dX9_conflicts_27 : decode cX9_conflicts 27 = .ok (.iconst 1, 1) := by decide +kernel
theorem dX9_conflicts_28 : decode cX9_conflicts 28 = .ok (.if_icmp .ne 7, 3) := by decide +kernel
theorem dX9_conflicts_31 : decode cX9_conflicts 31 = .ok (.iconst (-1), 1) := by decide +kernel
theorem dX9_conflicts_32 : decode cX9_conflicts 32 = .ok (.goto 18, 3) := by decide +kernel
theorem dX9_conflicts_35 : decode cX9_conflicts 35 = .ok (.aload_n 0, 1) := by decide +kernel
theorem dX9_conflicts_36 : decode cX9_conflicts 36 = .ok (.getfield 10, 3) := by decide +kernel
theorem dX9_conflicts_39 : decode cX9_conflicts 39 = .ok (.iload_n 1, 1) := by decide +kernel
theorem dX9_conflicts_40 : decode cX9_conflicts 40 = .ok (.invokeinterface 129 2, 5) := by decide +kernel
theorem dX9_conflicts_45 : decode cX9_conflicts 45 = .ok (.checkcast 86, 3) := by decide +kernel
theorem dX9_conflicts_48 : decode cX9_conflicts 48 = .ok (.iconst 1, 1) := by decide +kernel
theorem dX9_conflicts_49 : decode cX9_conflicts 49 = .ok (.iaload, 1) := by decide +kernel
theorem dX9_conflicts_50 : decode cX9_conflicts 50 = .ok (.ireturn, 1) := by decide +kernel
set_option maxRecDepth 20000 in
theorem ggX9_isAlive_X9_isNoConcept : GoodIn wsX9_isAlive wsX9_isNoConcept := goodIn_r _ [7, 1, 8, 9, 6, 10, 11, 12, 13, 14, 15, 16, 17, 18, 19, 20, 21, 44, 45, 46, 47, 48, 49, 50, 51, 52, 53, 54, 55, 56, 57, 58, 59, 60, 61, 62, 63] (by decide +kernel) (by decide +kernel)
set_option maxRecDepth 20000 in
theorem gX9_isAlive_X9_isNoConcept : GoodIn wsX9_isAlive (wsV RX9 126 RX9 yX9_isNoConcept wsX9_isNoConcept) := goodIn_app (goodIn_of _ (by decide +kernel)) ggX9_isAlive_X9_isNoConcept
set_option maxRecDepth 20000 in
theorem ggX9_isAlive_Jx4a65c_get_915e3 : GoodIn wsX9_isAlive wsJx4a65c_get_915e3 := goodIn_r _ [25, 16, 26, 27, 28, 29, 30, 31, 32, 33, 34, 35, 36, 14, 37, 38, 61, 62, 63] (by decide +kernel) (by decide +kernel)
set_option maxRecDepth 20000 in
theorem gX9_isAlive_Jx4a65c_get_915e3_f129Jx4a65c : GoodIn wsX9_isAlive (va_wsF RX9 129 RJx4a65c ⟨"java/util/List", "get", "(I)Ljava/lang/Object;"⟩ yJx4a65c_get_915e3 wsJx4a65c_get_915e3) := goodIn_app (goodIn_of _ (by decide +kernel)) ggX9_isAlive_Jx4a65c_get_915e3
set_option maxRecDepth 20000 in
theorem ggX9_isAlive_X9_lives : GoodIn wsX9_isAlive wsX9_lives := goodIn_r _ [42, 43, 44, 45, 46, 47, 48, 49, 50, 51, 52, 53, 54, 55, 56, 57, 58, 59, 60] (by decide +kernel) (by decide +kernel)
set_option maxRecDepth 20000 in
theorem gX9_isAlive_X9_lives : GoodIn wsX9_isAlive (wsV RX9 149 RX9 yX9_lives wsX9_lives) := goodIn_app (goodIn_of _ (by decide +kernel)) ggX9_isAlive_X9_lives
theorem dX9_isAlive_0 : decode cX9_isAlive 0 = .ok (.aload_n 0, 1) := by decide +kernel
theorem dX9_isAlive_1 : decode cX9_isAlive 1 = .ok (.iload_n 1, 1) := by decide +kernel
theorem dX9_isAlive_2 : decode cX9_isAlive 2 = .ok (.invokevirtual 126, 3) := by decide +kernel
theorem dX9_isAlive_5 : decode cX9_isAlive 5 = .ok (.ifCond .ne 27, 3) := by decide +kernel
theorem dX9_isAlive_8 : decode cX9_isAlive 8 = .ok (.aload_n 0, 1) := by decide +kernel
theorem dX9_isAlive_9 : decode cX9_isAlive 9 = .ok (.aload_n 0, 1) := by decide +kernel
theorem dX9_isAlive_10 : decode cX9_isAlive 10 = .ok (.getfield 10, 3) := by decide +kernel
theorem dX9_isAlive_13 : decode cX9_isAlive 13 = .ok (.iload_n 1, 1) := by decide +kernel
theorem dX9_isAlive_14 : decode cX9_isAlive 14 = .ok (.invokeinterface 129 2, 5) := by decide +kernel
theorem dX9_isAlive_19 : decode cX9_isAlive 19 = .ok (.checkcast 86, 3) := by decide +kernel
theorem dX9_isAlive_22 : decode cX9_isAlive 22 = .ok (.invokevirtual 149, 3) := by decide +kernel
theorem dX9_isAlive_25 : decode cX9_isAlive 25 = .ok (.ifCond .eq 7, 3) := by decide +kernel
theorem dX9_isAlive_28 : decode cX9_isAlive 28 = .ok (.iconst 1, 1) := by decide +kernel
theorem dX9_isAlive_29 : decode cX9_isAlive 29 = .ok (.goto 4, 3) := by decide +kernel
theorem dX9_isAlive_32 : decode cX9_isAlive 32 = .ok (.iconst 0, 1) := by decide +kernel
theorem dX9_isAlive_33 : decode cX9_isAlive 33 = .ok (.ireturn, 1) := by decide +kernel
set_option maxRecDepth 20000 in
theorem ggX9_alive_X9_living : GoodIn wsX9_alive wsX9_living := goodIn_r _ [6, 7, 8, 9, 10, 11, 12, 13, 14, 15, 16, 17, 18, 19, 20, 21, 22, 23, 24, 25, 26, 27, 28, 29, 30, 31, 32, 33, 34, 35, 36, 37, 38, 39, 40, 41, 42, 43, 44, 5, 45, 46, 47, 48, 49, 50, 51, 52, 53, 54, 55, 56, 57, 58, 59, 60, 61, 62, 63, 64, 65, 66, 67, 68, 69, 70] (by decide +kernel) (by decide +kernel)
set_option maxRecDepth 20000 in
theorem gX9_alive_X9_living : GoodIn wsX9_alive (wsV RX9 160 RX9 yX9_living wsX9_living) := goodIn_app (goodIn_of _ (by decide +kernel)) ggX9_alive_X9_living
theorem dX9_alive_0 : decode cX9_alive 0 = .ok (.aload_n 0, 1) := by decide +kernel
theorem dX9_alive_1 : decode cX9_alive 1 = .ok (.iconst 0, 1) := by decide +kernel
theorem dX9_alive_2 : decode cX9_alive 2 = .ok (.putfield 47, 3) := by decide +kernel
theorem dX9_alive_5 : decode cX9_alive 5 = .ok (.aload_n 0, 1) := by decide +kernel
theorem dX9_alive_6 : decode cX9_alive 6 = .ok (.invokevirtual 160, 3) := by decide +kernel
theorem dX9_alive_9 : decode cX9_alive 9 = .ok (.ireturn, 1) := by decide +kernel
set_option maxRecDepth 20000 in
theorem ggX9_sure_X9_isBetween : GoodIn wsX9_sure wsX9_isBetween := goodIn_r _ [5] (by decide +kernel) (by decide +kernel)
set_option maxRecDepth 20000 in
theorem gX9_sure_X9_isBetween : GoodIn wsX9_sure (va_wsS RX9 56 yX9_isBetween wsX9_isBetween) := goodIn_app (goodIn_of _ (by decide +kernel)) ggX9_sure_X9_isBetween
set_option maxRecDepth 20000 in
theorem ggX9_sure_X9_isWrong : GoodIn wsX9_sure wsX9_isWrong := goodIn_r _ [9, 10, 62, 63, 64, 65, 66, 67, 68, 69, 70, 71, 72, 73, 74, 75, 76, 77, 78] (by decide +kernel) (by decide +kernel)
set_option maxRecDepth 20000 in
theorem gX9_sure_X9_isWrong : GoodIn wsX9_sure (wsV RX9 62 RX9 yX9_isWrong wsX9_isWrong) := goodIn_app (goodIn_of _ (by decide +kernel)) ggX9_sure_X9_isWrong
set_option maxRecDepth 20000 in
theorem ggX9_sure_X9_livingWith : GoodIn wsX9_sure wsX9_livingWith := goodIn_r _ [14, 15, 16, 17, 18, 19, 20, 21, 22, 23, 24, 25, 26, 27, 28, 29, 30, 31, 32, 33, 34, 35, 36, 37, 38, 39, 40, 41, 42, 43, 44, 45, 46, 47, 48, 49, 50, 51, 52, 4, 53, 54, 55, 56, 57, 62, 63, 64, 65, 66, 67, 68, 69, 70, 71, 72, 73, 74, 75, 76, 77, 78, 79, 80, 81, 82, 83, 84, 85] (by decide +kernel) (by decide +kernel)
set_option maxRecDepth 20000 in
theorem gX9_sure_X9_livingWith : GoodIn wsX9_sure (wsV RX9 157 RX9 yX9_livingWith wsX9_livingWith) := goodIn_app (goodIn_of _ (by decide +kernel)) ggX9_sure_X9_livingWith
set_option maxRecDepth 20000 in
theorem ggX9_sure_X9_living : GoodIn wsX9_sure wsX9_living := goodIn_r _ [61, 15, 16, 17, 18, 19, 20, 21, 22, 23, 24, 25, 26, 27, 28, 29, 30, 31, 32, 33, 34, 35, 36, 37, 38, 39, 40, 41, 42, 43, 44, 45, 46, 47, 48, 49, 50, 51, 52, 4, 53, 54, 62, 63, 64, 65, 66, 67, 68, 69, 70, 71, 72, 73, 74, 75, 76, 77, 78, 79, 80, 81, 82, 83, 84, 85] (by decide +kernel) (by decide +kernel)
set_option maxRecDepth 20000 in
theorem gX9_sure_X9_living : GoodIn wsX9_sure (wsV RX9 160 RX9 yX9_living wsX9_living) := goodIn_app (goodIn_of _ (by decide +kernel)) ggX9_sure_X9_living
theorem dX9_sure_0 : decode cX9_sure 0 = .ok (.aload_n 0, 1) := by decide +kernel
theorem dX9_sure_1 : decode cX9_sure 1 = .ok (.iload_n 1, 1) := by decide +kernel
theorem dX9_sure_2 : decode cX9_sure 2 = .ok (.i2l, 1) := by decide +kernel
theorem dX9_sure_3 : decode cX9_sure 3 = .ok (.lconst 0, 1) := by decide +kernel
theorem dX9_sure_4 : decode cX9_sure 4 = .ok (.aload_n 0, 1) := by decide +kernel
theorem dX9_sure_5 : decode cX9_sure 5 = .ok (.getfield 16, 3) := by decide +kernel
theorem dX9_sure_8 : decode cX9_sure 8 = .ok (.iconst 1, 1) := by decide +kernel
theorem dX9_sure_9 : decode cX9_sure 9 = .ok (.isub, 1) := by decide +kernel
theorem dX9_sure_10 : decode cX9_sure 10 = .ok (.i2l, 1) := by decide +kernel
theorem dX9_sure_11 : decode cX9_sure 11 = .ok (.invokestatic 56, 3) := by decide +kernel
theorem dX9_sure_14 : decode cX9_sure 14 = .ok (.ifCond .eq 7, 3) := by decide +kernel
theorem dX9_sure_17 : decode cX9_sure 17 = .ok (.iconst 0, 1) := by decide +kernel
theorem dX9_sure_18 : decode cX9_sure 18 = .ok (.goto 4, 3) := by decide +kernel
theorem dX9_sure_21 : decode cX9_sure 21 = .ok (.iconst 1, 1) := by decide +kernel
theorem dX9_sure_22 : decode cX9_sure 22 = .ok (.invokevirtual 62, 3) := by decide +kernel
theorem dX9_sure_25 : decode cX9_sure 25 = .ok (.ifCond .eq 5, 3) := by decide +kernel
theorem dX9_sure_28 : decode cX9_sure 28 = .ok (.iconst 0, 1) := by decide +kernel
theorem dX9_sure_29 : decode cX9_sure 29 = .ok (.ireturn, 1) := by decide +kernel
theorem dX9_sure_30 : decode cX9_sure 30 = .ok (.aload_n 0, 1) := by decide +kernel
theorem dX9_sure_31 : decode cX9_sure 31 = .ok (.iload_n 1, 1) := by decide +kernel
theorem dX9_sure_32 : decode cX9_sure 32 = .ok (.invokevirtual 157, 3) := by decide +kernel
theorem dX9_sure_35 : decode cX9_sure 35 = .ok (.istore_n 2, 1) := by decide +kernel
theorem dX9_sure_36 : decode cX9_sure 36 = .ok (.aload_n 0, 1) := by decide +kernel
theorem dX9_sure_37 : decode cX9_sure 37 = .ok (.invokevirtual 160, 3) := by decide +kernel
theorem dX9_sure_40 : decode cX9_sure 40 = .ok (.ifCond .ne 8, 3) := by decide +kernel
theorem dX9_sure_43 : decode cX9_sure 43 = .ok (.bipush 63, 2) := by decide +kernel
theorem dX9_sure_45 : decode cX9_sure 45 = .ok (.goto 27, 3) := by decide +kernel
theorem dX9_sure_48 : decode cX9_sure 48 = .ok (.iload_n 2, 1) := by decide +kernel
theorem dX9_sure_49 : decode cX9_sure 49 = .ok (.aload_n 0, 1) := by decide +kernel
theorem dX9_sure_50 : decode cX9_sure 50 = .ok (.invokevirtual 160, 3) := by decide +kernel
theorem dX9_sure_53 : decode cX9_sure 53 = .ok (.if_icmp .ne 8, 3) := by decide +kernel
theorem dX9_sure_56 : decode cX9_sure 56 = .ok (.bipush 43, 2) := by decide +kernel
theorem dX9_sure_58 : decode cX9_sure 58 = .ok (.goto 14, 3) := by decide +kernel
theorem dX9_sure_61 : decode cX9_sure 61 = .ok (.iload_n 2, 1) := by decide +kernel
theorem dX9_sure_62 : decode cX9_sure 62 = .ok (.ifCond .ne 8, 3) := by decide +kernel
theorem dX9_sure_65 : decode cX9_sure 65 = .ok (.bipush 45, 2) := by decide +kernel
theorem dX9_sure_67 : decode cX9_sure 67 = .ok (.goto 5, 3) := by decide +kernel
theorem dX9_sure_70 : decode cX9_sure 70 = .ok (.bipush 63, 2) := by decide +kernel
theorem dX9_sure_72 : decode cX9_sure 72 = .ok (.ireturn, 1) := by decide +kernel
set_option maxRecDepth 20000 in
theorem ggX9_bestPoint_X9_livingWith : GoodIn wsX9_bestPoint wsX9_livingWith := goodIn_r _ [13, 14, 15, 16, 17, 18, 19, 20, 21, 22, 23, 24, 25, 26, 27, 28, 29, 30, 31, 32, 33, 34, 35, 36, 37, 38, 39, 40, 41, 42, 43, 44, 45, 46, 47, 48, 49, 50, 51, 12, 52, 53, 54, 55, 56, 61, 62, 63, 64, 65, 66, 67, 68, 69, 70, 71, 72, 73, 74, 75, 76, 77, 78, 79, 80, 81, 82, 83, 84] (by decide +kernel) (by decide +kernel)
set_option maxRecDepth 20000 in
theorem gX9_bestPoint_X9_livingWith : GoodIn wsX9_bestPoint (wsV RX9 157 RX9 yX9_livingWith wsX9_livingWith) := goodIn_app (goodIn_of _ (by decide +kernel)) ggX9_bestPoint_X9_livingWith
set_option maxRecDepth 20000 in
theorem ggX9_bestPoint_X9_living : GoodIn wsX9_bestPoint wsX9_living := goodIn_r _ [60, 14, 15, 16, 17, 18, 19, 20, 21, 22, 23, 24, 25, 26, 27, 28, 29, 30, 31, 32, 33, 34, 35, 36, 37, 38, 39, 40, 41, 42, 43, 44, 45, 46, 47, 48, 49, 50, 51, 12, 52, 53, 61, 62, 63, 64, 65, 66, 67, 68, 69, 70, 71, 72, 73, 74, 75, 76, 77, 78, 79, 80, 81, 82, 83, 84] (by decide +kernel) (by decide +kernel)
set_option maxRecDepth 20000 in
theorem gX9_bestPoint_X9_living : GoodIn wsX9_bestPoint (wsV RX9 160 RX9 yX9_living wsX9_living) := goodIn_app (goodIn_of _ (by decide +kernel)) ggX9_bestPoint_X9_living
theorem dX9_bestPoint_0 : decode cX9_bestPoint 0 = .ok (.iconst 0, 1) := by decide +kernel
theorem dX9_bestPoint_1 : decode cX9_bestPoint 1 = .ok (.istore_n 1, 1) := by decide +kernel
theorem dX9_bestPoint_2 : decode cX9_bestPoint 2 = .ok (.iconst (-1), 1) := by decide +kernel
theorem dX9_bestPoint_3 : decode cX9_bestPoint 3 = .ok (.istore_n 2, 1) := by decide +kernel
theorem dX9_bestPoint_4 : decode cX9_bestPoint 4 = .ok (.iconst 0, 1) := by decide +kernel
theorem dX9_bestPoint_5 : decode cX9_bestPoint 5 = .ok (.istore_n 3, 1) := by decide +kernel
theorem dX9_bestPoint_6 : decode cX9_bestPoint 6 = .ok (.iload_n 3, 1) := by decide +kernel
theorem dX9_bestPoint_7 : decode cX9_bestPoint 7 = .ok (.aload_n 0, 1) := by decide +kernel
theorem dX9_bestPoint_8 : decode cX9_bestPoint 8 = .ok (.getfield 16, 3) := by decide +kernel
theorem dX9_bestPoint_11 : decode cX9_bestPoint 11 = .ok (.if_icmp .ge 48, 3) := by decide +kernel
theorem dX9_bestPoint_14 : decode cX9_bestPoint 14 = .ok (.aload_n 0, 1) := by decide +kernel
theorem dX9_bestPoint_15 : decode cX9_bestPoint 15 = .ok (.iload_n 3, 1) := by decide +kernel
theorem dX9_bestPoint_16 : decode cX9_bestPoint 16 = .ok (.invokevirtual 157, 3) := by decide +kernel
theorem dX9_bestPoint_19 : decode cX9_bestPoint 19 = .ok (.aload_n 0, 1) := by decide +kernel
theorem dX9_bestPoint_20 : decode cX9_bestPoint 20 = .ok (.invokevirtual 160, 3) := by decide +kernel
theorem dX9_bestPoint_23 : decode cX9_bestPoint 23 = .ok (.aload_n 0, 1) := by decide +kernel
theorem dX9_bestPoint_24 : decode cX9_bestPoint 24 = .ok (.iload_n 3, 1) := by decide +kernel
theorem dX9_bestPoint_25 : decode cX9_bestPoint 25 = .ok (.invokevirtual 157, 3) := by decide +kernel
theorem dX9_bestPoint_28 : decode cX9_bestPoint 28 = .ok (.isub, 1) := by decide +kernel
theorem dX9_bestPoint_29 : decode cX9_bestPoint 29 = .ok (.invokestatic 185, 3) := by decide +kernel
theorem dX9_bestPoint_32 : decode cX9_bestPoint 32 = .ok (.istore 4, 2) := by decide +kernel
theorem dX9_bestPoint_34 : decode cX9_bestPoint 34 = .ok (.iload 4, 2) := by decide +kernel
theorem dX9_bestPoint_36 : decode cX9_bestPoint 36 = .ok (.iload_n 2, 1) := by decide +kernel
theorem dX9_bestPoint_37 : decode cX9_bestPoint 37 = .ok (.if_icmp .le 7, 3) := by decide +kernel
theorem dX9_bestPoint_40 : decode cX9_bestPoint 40 = .ok (.iload_n 3, 1) := by decide +kernel
theorem dX9_bestPoint_41 : decode cX9_bestPoint 41 = .ok (.goto 4, 3) := by decide +kernel
theorem dX9_bestPoint_44 : decode cX9_bestPoint 44 = .ok (.iload_n 1, 1) := by decide +kernel
theorem dX9_bestPoint_45 : decode cX9_bestPoint 45 = .ok (.istore_n 1, 1) := by decide +kernel
theorem dX9_bestPoint_46 : decode cX9_bestPoint 46 = .ok (.iload_n 2, 1) := by decide +kernel
theorem dX9_bestPoint_47 : decode cX9_bestPoint 47 = .ok (.iload 4, 2) := by decide +kernel
theorem dX9_bestPoint_49 : decode cX9_bestPoint 49 = .ok (.invokestatic 173, 3) := by decide +kernel
theorem dX9_bestPoint_52 : decode cX9_bestPoint 52 = .ok (.istore_n 2, 1) := by decide +kernel
theorem dX9_bestPoint_53 : decode cX9_bestPoint 53 = .ok (.iinc 3 1, 3) := by decide +kernel
theorem dX9_bestPoint_56 : decode cX9_bestPoint 56 = .ok (.goto (-50), 3) := by decide +kernel
theorem dX9_bestPoint_59 : decode cX9_bestPoint 59 = .ok (.iload_n 1, 1) := by decide +kernel
theorem dX9_bestPoint_60 : decode cX9_bestPoint 60 = .ok (.ireturn, 1) := by decide +kernel
set_option maxRecDepth 20000 in
theorem ggX9_best_X9_living : GoodIn wsX9_best wsX9_living := goodIn_r _ [5, 6, 7, 8, 9, 10, 11, 12, 13, 14, 15, 16, 17, 18, 19, 20, 21, 22, 23, 24, 25, 26, 27, 28, 29, 30, 31, 32, 33, 34, 35, 36, 37, 38, 39, 40, 41, 42, 43, 4, 44, 45, 70, 71, 72, 73, 74, 75, 76, 77, 78, 79, 80, 81, 82, 83, 84, 85, 86, 87, 88, 89, 90, 91, 92, 93] (by decide +kernel) (by decide +kernel)
set_option maxRecDepth 20000 in
theorem gX9_best_X9_living : GoodIn wsX9_best (wsV RX9 160 RX9 yX9_living wsX9_living) := goodIn_app (goodIn_of _ (by decide +kernel)) ggX9_best_X9_living
set_option maxRecDepth 20000 in
theorem ggX9_best_X9_isWrong : GoodIn wsX9_best wsX9_isWrong := goodIn_r _ [49, 50, 70, 71, 72, 73, 74, 75, 76, 77, 78, 79, 80, 81, 82, 83, 84, 85, 86] (by decide +kernel) (by decide +kernel)
set_option maxRecDepth 20000 in
theorem gX9_best_X9_isWrong : GoodIn wsX9_best (wsV RX9 62 RX9 yX9_isWrong wsX9_isWrong) := goodIn_app (goodIn_of _ (by decide +kernel)) ggX9_best_X9_isWrong
set_option maxRecDepth 20000 in
theorem ggX9_best_X9_bestPoint : GoodIn wsX9_best wsX9_bestPoint := goodIn_r _ [54, 55, 56, 57, 58, 59, 60, 61, 62, 63, 64, 65, 4, 66, 6, 7, 8, 9, 10, 11, 12, 13, 14, 15, 16, 17, 18, 19, 20, 21, 22, 23, 24, 25, 26, 27, 28, 29, 30, 31, 32, 33, 34, 35, 36, 37, 38, 39, 40, 41, 42, 43, 44, 45, 67, 68, 69, 1, 2, 3, 5, 70, 71, 72, 73, 74, 75, 76, 77, 78, 79, 80, 81, 82, 83, 84, 85, 86, 87, 88, 89, 90, 91, 92, 93] (by decide +kernel) (by decide +kernel)
set_option maxRecDepth 20000 in
theorem gX9_best_X9_bestPoint : GoodIn wsX9_best (wsV RX9 188 RX9 yX9_bestPoint wsX9_bestPoint) := goodIn_app (goodIn_of _ (by decide +kernel)) ggX9_best_X9_bestPoint
theorem dX9_best_0 : decode cX9_best 0 = .ok (.aload_n 0, 1) := by decide +kernel
theorem dX9_best_1 : decode cX9_best 1 = .ok (.aload_n 0, 1) := by decide +kernel
theorem dX9_best_2 : decode cX9_best 2 = .ok (.invokevirtual 160, 3) := by decide +kernel
theorem dX9_best_5 : decode cX9_best 5 = .ok (.iconst 2, 1) := by decide +kernel
theorem dX9_best_6 : decode cX9_best 6 = .ok (.if_icmp .ge 7, 3) := by decide +kernel
theorem dX9_best_9 : decode cX9_best 9 = .ok (.iconst 1, 1) := by decide +kernel
theorem dX9_best_10 : decode cX9_best 10 = .ok (.goto 4, 3) := by decide +kernel
theorem dX9_best_13 : decode cX9_best 13 = .ok (.iconst 0, 1) := by decide +kernel
theorem dX9_best_14 : decode cX9_best 14 = .ok (.invokevirtual 62, 3) := by decide +kernel
theorem dX9_best_17 : decode cX9_best 17 = .ok (.ifCond .eq 7, 3) := by decide +kernel
theorem dX9_best_20 : decode cX9_best 20 = .ok (.iconst 0, 1) := by decide +kernel
theorem dX9_best_21 : decode cX9_best 21 = .ok (.goto 7, 3) := by decide +kernel
theorem dX9_best_24 : decode cX9_best 24 = .ok (.aload_n 0, 1) := by decide +kernel
theorem dX9_best_25 : decode cX9_best 25 = .ok (.invokevirtual 188, 3) := by decide +kernel
theorem dX9_best_28 : decode cX9_best 28 = .ok (.ireturn, 1) := by decide +kernel
set_option maxRecDepth 20000 in
theorem ggX9_learn_X9_isWrong : GoodIn wsX9_learn wsX9_isWrong := goodIn_r _ [7, 8, 103, 104, 105, 106, 107, 108, 109, 110, 111, 112, 113, 114, 115, 116, 117, 118, 119] (by decide +kernel) (by decide +kernel)
set_option maxRecDepth 20000 in
theorem gX9_learn_X9_isWrong : GoodIn wsX9_learn (wsV RX9 62 RX9 yX9_isWrong wsX9_isWrong) := goodIn_app (goodIn_of _ (by decide +kernel)) ggX9_learn_X9_isWrong
set_option maxRecDepth 20000 in
theorem ggX9_learn_X9_living : GoodIn wsX9_learn wsX9_living := goodIn_r _ [12, 13, 14, 15, 16, 17, 18, 19, 20, 21, 22, 23, 24, 25, 26, 27, 28, 29, 30, 31, 32, 33, 34, 35, 36, 37, 38, 39, 40, 41, 42, 43, 44, 45, 46, 47, 48, 49, 50, 6, 51, 52, 103, 104, 105, 106, 107, 108, 109, 110, 111, 112, 113, 114, 115, 116, 117, 118, 119, 120, 121, 122, 123, 124, 125, 126] (by decide +kernel) (by decide +kernel)
set_option maxRecDepth 20000 in
theorem gX9_learn_X9_living : GoodIn wsX9_learn (wsV RX9 160 RX9 yX9_living wsX9_living) := goodIn_app (goodIn_of _ (by decide +kernel)) ggX9_learn_X9_living
set_option maxRecDepth 20000 in
theorem ggX9_learn_X9_bestPoint : GoodIn wsX9_learn wsX9_bestPoint := goodIn_r _ [56, 57, 58, 59, 60, 61, 62, 63, 64, 65, 66, 67, 6, 68, 13, 14, 15, 16, 17, 18, 19, 20, 21, 22, 23, 24, 25, 26, 27, 28, 29, 30, 31, 32, 33, 34, 35, 36, 37, 38, 39, 40, 41, 42, 43, 44, 45, 46, 47, 48, 49, 50, 51, 52, 69, 70, 71, 9, 10, 11, 12, 103, 104, 105, 106, 107, 108, 109, 110, 111, 112, 113, 114, 115, 116, 117, 118, 119, 120, 121, 122, 123, 124, 125, 126] (by decide +kernel) (by decide +kernel)
set_option maxRecDepth 20000 in
theorem gX9_learn_X9_bestPoint : GoodIn wsX9_learn (wsV RX9 188 RX9 yX9_bestPoint wsX9_bestPoint) := goodIn_app (goodIn_of _ (by decide +kernel)) ggX9_learn_X9_bestPoint
set_option maxRecDepth 20000 in
theorem ggX9_learn_X9_asks : GoodIn wsX9_learn wsX9_asks := goodIn_r _ [75, 13, 14, 2, 76, 77, 78, 6, 79, 1, 80, 81, 52, 82, 83, 84, 65, 66, 67, 68, 15, 16, 17, 18, 19, 20, 21, 22, 23, 24, 25, 26, 27, 28, 29, 30, 31, 32, 33, 34, 35, 36, 37, 38, 39, 40, 41, 42, 43, 44, 45, 46, 47, 48, 49, 50, 51, 69, 70, 71, 9, 10, 11, 12, 85, 86, 87, 88, 89, 90, 91, 92, 93, 94, 95, 96, 97, 98, 99, 100, 101, 102, 103, 104, 105, 106, 107, 108, 109, 110, 111, 112, 113, 114, 115, 116, 117, 118, 119, 120, 121, 122, 123, 124, 125, 126] (by decide +kernel) (by decide +kernel)
set_option maxRecDepth 20000 in
theorem gX9_learn_X9_asks : GoodIn wsX9_learn (wsV RX9 170 RX9 yX9_asks wsX9_asks) := goodIn_app (goodIn_of _ (by decide +kernel)) ggX9_learn_X9_asks
theorem dX9_learn_0 : decode cX9_learn 0 = .ok (.aload_n 0, 1) := by decide +kernel
theorem dX9_learn_1 : decode cX9_learn 1 = .ok (.aload_n 0, 1) := by decide +kernel
theorem dX9_learn_2 : decode cX9_learn 2 = .ok (.getfield 23, 3) := by decide +kernel
theorem dX9_learn_5 : decode cX9_learn 5 = .ok (.bipush 45, 2) := by decide +kernel
theorem dX9_learn_7 : decode cX9_learn 7 = .ok (.if_icmp .ne 7, 3) := by decide +kernel
theorem dX9_learn_10 : decode cX9_learn 10 = .ok (.iconst 1, 1) := by decide +kernel
theorem dX9_learn_11 : decode cX9_learn 11 = .ok (.goto 4, 3) := by decide +kernel
theorem dX9_learn_14 : decode cX9_learn 14 = .ok (.iconst 0, 1) := by decide +kernel
theorem dX9_learn_15 : decode cX9_learn 15 = .ok (.invokevirtual 62, 3) := by decide +kernel
theorem dX9_learn_18 : decode cX9_learn 18 = .ok (.ifCond .eq 5, 3) := by decide +kernel
theorem dX9_learn_21 : decode cX9_learn 21 = .ok (.iconst 0, 1) := by decide +kernel
theorem dX9_learn_22 : decode cX9_learn 22 = .ok (.ireturn, 1) := by decide +kernel
theorem dX9_learn_23 : decode cX9_learn 23 = .ok (.iconst 0, 1) := by decide +kernel
theorem dX9_learn_24 : decode cX9_learn 24 = .ok (.istore_n 1, 1) := by decide +kernel
theorem dX9_learn_25 : decode cX9_learn 25 = .ok (.aload_n 0, 1) := by decide +kernel
theorem dX9_learn_26 : decode cX9_learn 26 = .ok (.invokevirtual 160, 3) := by decide +kernel
theorem dX9_learn_29 : decode cX9_learn 29 = .ok (.iconst 2, 1) := by decide +kernel
theorem dX9_learn_30 : decode cX9_learn 30 = .ok (.if_icmp .lt 27, 3) := by decide +kernel
theorem dX9_learn_33 : decode cX9_learn 33 = .ok (.aload_n 0, 1) := by decide +kernel
theorem dX9_learn_34 : decode cX9_learn 34 = .ok (.getfield 69, 3) := by decide +kernel
theorem dX9_learn_37 : decode cX9_learn 37 = .ok (.bipush 40, 2) := by decide +kernel
theorem dX9_learn_39 : decode cX9_learn 39 = .ok (.if_icmp .ge 18, 3) := by decide +kernel
theorem dX9_learn_42 : decode cX9_learn 42 = .ok (.aload_n 0, 1) := by decide +kernel
theorem dX9_learn_43 : decode cX9_learn 43 = .ok (.aload_n 0, 1) := by decide +kernel
theorem dX9_learn_44 : decode cX9_learn 44 = .ok (.invokevirtual 188, 3) := by decide +kernel
theorem dX9_learn_47 : decode cX9_learn 47 = .ok (.invokevirtual 170, 3) := by decide +kernel
theorem dX9_learn_50 : decode cX9_learn 50 = .ok (.pop, 1) := by decide +kernel
theorem dX9_learn_51 : decode cX9_learn 51 = .ok (.iinc 1 1, 3) := by decide +kernel
theorem dX9_learn_54 : decode cX9_learn 54 = .ok (.goto (-29), 3) := by decide +kernel
theorem dX9_learn_57 : decode cX9_learn 57 = .ok (.iload_n 1, 1) := by decide +kernel
theorem dX9_learn_58 : decode cX9_learn 58 = .ok (.ireturn, 1) := by decide +kernel
set_option maxRecDepth 20000 in
theorem ggX9_found_X9_living : GoodIn wsX9_found wsX9_living := goodIn_r _ [7, 1, 2, 8, 9, 10, 11, 12, 13, 14, 15, 16, 17, 18, 19, 20, 21, 22, 23, 24, 25, 26, 27, 28, 29, 30, 31, 32, 33, 34, 35, 36, 37, 38, 39, 40, 41, 42, 43, 6, 44, 45, 73, 74, 75, 76, 77, 78, 79, 80, 81, 82, 83, 84, 85, 86, 87, 88, 89, 90, 91, 92, 93, 94, 95, 96] (by decide +kernel) (by decide +kernel)
set_option maxRecDepth 20000 in
theorem gX9_found_X9_living : GoodIn wsX9_found (wsV RX9 160 RX9 yX9_living wsX9_living) := goodIn_app (goodIn_of _ (by decide +kernel)) ggX9_found_X9_living
set_option maxRecDepth 20000 in
theorem ggX9_found_X9_isWrong : GoodIn wsX9_found wsX9_isWrong := goodIn_r _ [49, 50, 73, 74, 75, 76, 77, 78, 79, 80, 81, 82, 83, 84, 85, 86, 87, 88, 89] (by decide +kernel) (by decide +kernel)
set_option maxRecDepth 20000 in
theorem gX9_found_X9_isWrong : GoodIn wsX9_found (wsV RX9 62 RX9 yX9_isWrong wsX9_isWrong) := goodIn_app (goodIn_of _ (by decide +kernel)) ggX9_found_X9_isWrong
set_option maxRecDepth 20000 in
theorem ggX9_found_Jx4a65c_size_8abf5 : GoodIn wsX9_found wsJx4a65c_size_8abf5 := goodIn_r _ [54, 55, 94, 95, 96] (by decide +kernel) (by decide +kernel)
set_option maxRecDepth 20000 in
theorem gX9_found_Jx4a65c_size_8abf5_f50Jx4a65c : GoodIn wsX9_found (va_wsF RX9 50 RJx4a65c ⟨"java/util/List", "size", "()I"⟩ yJx4a65c_size_8abf5 wsJx4a65c_size_8abf5) := goodIn_app (goodIn_of _ (by decide +kernel)) ggX9_found_Jx4a65c_size_8abf5
set_option maxRecDepth 20000 in
theorem ggX9_found_Jx4a65c_get_915e3 : GoodIn wsX9_found wsJx4a65c_get_915e3 := goodIn_r _ [59, 55, 60, 61, 62, 63, 64, 65, 66, 67, 68, 69, 70, 11, 71, 72, 94, 95, 96] (by decide +kernel) (by decide +kernel)
set_option maxRecDepth 20000 in
theorem gX9_found_Jx4a65c_get_915e3_f129Jx4a65c : GoodIn wsX9_found (va_wsF RX9 129 RJx4a65c ⟨"java/util/List", "get", "(I)Ljava/lang/Object;"⟩ yJx4a65c_get_915e3 wsJx4a65c_get_915e3) := goodIn_app (goodIn_of _ (by decide +kernel)) ggX9_found_Jx4a65c_get_915e3
set_option maxRecDepth 20000 in
theorem ggX9_found_X9_lives : GoodIn wsX9_found wsX9_lives := goodIn_r _ [44, 45, 73, 74, 75, 76, 77, 78, 79, 80, 81, 82, 83, 84, 85, 86, 87, 88, 89] (by decide +kernel) (by decide +kernel)
set_option maxRecDepth 20000 in
theorem gX9_found_X9_lives : GoodIn wsX9_found (wsV RX9 149 RX9 yX9_lives wsX9_lives) := goodIn_app (goodIn_of _ (by decide +kernel)) ggX9_found_X9_lives
theorem dX9_found_0 : decode cX9_found 0 = .ok (.aload_n 0, 1) := by decide +kernel
theorem dX9_found_1 : decode cX9_found 1 = .ok (.aload_n 0, 1) := by decide +kernel
theorem dX9_found_2 : decode cX9_found 2 = .ok (.invokevirtual 160, 3) := by decide +kernel
theorem dX9_found_5 : decode cX9_found 5 = .ok (.iconst 1, 1) := by decide +kernel
theorem dX9_found_6 : decode cX9_found 6 = .ok (.if_icmp .ne 7, 3) := by decide +kernel
theorem dX9_found_9 : decode cX9_found 9 = .ok (.iconst 0, 1) := by decide +kernel
theorem dX9_found_10 : decode cX9_found 10 = .ok (.goto 4, 3) := by decide +kernel
theorem dX9_found_13 : decode cX9_found 13 = .ok (.iconst 1, 1) := by decide +kernel
theorem dX9_found_14 : decode cX9_found 14 = .ok (.invokevirtual 62, 3) := by decide +kernel
theorem dX9_found_17 : decode cX9_found 17 = .ok (.ifCond .eq 5, 3) := by decide +kernel
theorem dX9_found_20 : decode cX9_found 20 = .ok (.iconst 0, 1) := by decide +kernel
theorem dX9_found_21 : decode cX9_found 21 = .ok (.ireturn, 1) := by decide +kernel
theorem dX9_found_22 : decode cX9_found 22 = .ok (.iconst (-1), 1) := by decide +kernel
theorem dX9_found_23 : decode cX9_found 23 = .ok (.istore_n 1, 1) := by decide +kernel
theorem dX9_found_24 : decode cX9_found 24 = .ok (.iconst 0, 1) := by decide +kernel
theorem dX9_found_25 : decode cX9_found 25 = .ok (.istore_n 2, 1) := by decide +kernel
theorem dX9_found_26 : decode cX9_found 26 = .ok (.iload_n 2, 1) := by decide +kernel
theorem dX9_found_27 : decode cX9_found 27 = .ok (.aload_n 0, 1) := by decide +kernel
theorem dX9_found_28 : decode cX9_found 28 = .ok (.getfield 10, 3) := by decide +kernel
theorem dX9_found_31 : decode cX9_found 31 = .ok (.invokeinterface 50 1, 5) := by decide +kernel
theorem dX9_found_36 : decode cX9_found 36 = .ok (.if_icmp .ge 35, 3) := by decide +kernel
theorem dX9_found_39 : decode cX9_found 39 = .ok (.aload_n 0, 1) := by decide +kernel
theorem dX9_found_40 : decode cX9_found 40 = .ok (.aload_n 0, 1) := by decide +kernel
theorem dX9_found_41 : decode cX9_found 41 = .ok (.getfield 10, 3) := by decide +kernel
theorem dX9_found_44 : decode cX9_found 44 = .ok (.iload_n 2, 1) := by decide +kernel
theorem dX9_found_45 : decode cX9_found 45 = .ok (.invokeinterface 129 2, 5) := by decide +kernel
theorem dX9_found_50 : decode cX9_found 50 = .ok (.checkcast 86, 3) := by decide +kernel
theorem dX9_found_53 : decode cX9_found 53 = .ok (.invokevirtual 149, 3) := by decide +kernel
theorem dX9_found_56 : decode cX9_found 56 = .ok (.ifCond .eq 7, 3) := by decide +kernel
theorem dX9_found_59 : decode cX9_found 59 = .ok (.iload_n 2, 1) := by decide +kernel
theorem dX9_found_60 : decode cX9_found 60 = .ok (.goto 4, 3) := by decide +kernel
theorem dX9_found_63 : decode cX9_found 63 = .ok (.iload_n 1, 1) := by decide +kernel
theorem dX9_found_64 : decode cX9_found 64 = .ok (.istore_n 1, 1) := by decide +kernel
theorem dX9_found_65 : decode cX9_found 65 = .ok (.iinc 2 1, 3) := by decide +kernel
theorem dX9_found_68 : decode cX9_found 68 = .ok (.goto (-42), 3) := by decide +kernel
theorem dX9_found_71 : decode cX9_found 71 = .ok (.iload_n 1, 1) := by decide +kernel
theorem dX9_found_72 : decode cX9_found 72 = .ok (.ireturn, 1) := by decide +kernel
set_option maxRecDepth 20000 in
theorem ggX9_shatters_Jx4a65c_iterator_32c93 : GoodIn wsX9_shatters wsJx4a65c_iterator_32c93 := goodIn_r _ [9, 10, 11, 12, 13, 14, 15, 16, 17, 18, 19, 20, 21, 22, 23, 62, 63, 64, 65, 66, 67, 68] (by decide +kernel) (by decide +kernel)
set_option maxRecDepth 20000 in
theorem gX9_shatters_Jx4a65c_iterator_32c93_f72Jx4a65c : GoodIn wsX9_shatters (va_wsF RX9 72 RJx4a65c ⟨"java/util/List", "iterator", "()Ljava/util/Iterator;"⟩ yJx4a65c_iterator_32c93 wsJx4a65c_iterator_32c93) := goodIn_app (goodIn_of _ (by decide +kernel)) ggX9_shatters_Jx4a65c_iterator_32c93
set_option maxRecDepth 20000 in
theorem ggX9_shatters_Jx35411_hasNext_aae02 : GoodIn wsX9_shatters wsJx35411_hasNext_aae02 := goodIn_r _ [27, 28, 16, 62, 63, 64, 65, 66, 67, 68] (by decide +kernel) (by decide +kernel)
set_option maxRecDepth 20000 in
theorem gX9_shatters_Jx35411_hasNext_aae02_f76Jx35411 : GoodIn wsX9_shatters (va_wsF RX9 76 RJx35411 ⟨"java/util/Iterator", "hasNext", "()Z"⟩ yJx35411_hasNext_aae02 wsJx35411_hasNext_aae02) := goodIn_app (goodIn_of _ (by decide +kernel)) ggX9_shatters_Jx35411_hasNext_aae02
set_option maxRecDepth 20000 in
theorem ggX9_shatters_Jx35411_next_0502b : GoodIn wsX9_shatters wsJx35411_next_0502b := goodIn_r _ [32, 28, 16, 33, 20, 34, 35, 36, 12, 37, 21, 22, 23, 62, 63, 64, 65, 66, 67, 68] (by decide +kernel) (by decide +kernel)
set_option maxRecDepth 20000 in
theorem gX9_shatters_Jx35411_next_0502b_f82Jx35411 : GoodIn wsX9_shatters (va_wsF RX9 82 RJx35411 ⟨"java/util/Iterator", "next", "()Ljava/lang/Object;"⟩ yJx35411_next_0502b wsJx35411_next_0502b) := goodIn_app (goodIn_of _ (by decide +kernel)) ggX9_shatters_Jx35411_next_0502b
set_option maxRecDepth 20000 in
theorem ggX9_shatters_J6_bitCount_0f7a4 : GoodIn wsX9_shatters wsJ6_bitCount_0f7a4 := goodIn_r _ [41, 42, 43, 44] (by decide +kernel) (by decide +kernel)
set_option maxRecDepth 20000 in
theorem gX9_shatters_J6_bitCount_0f7a4 : GoodIn wsX9_shatters (va_wsS RX9 98 yJ6_bitCount_0f7a4 wsJ6_bitCount_0f7a4) := goodIn_app (goodIn_of _ (by decide +kernel)) ggX9_shatters_J6_bitCount_0f7a4
theorem dX9_shatters_0 : decode cX9_shatters 0 = .ok (.iconst 1, 1) := by decide +kernel
theorem dX9_shatters_1 : decode cX9_shatters 1 = .ok (.aload_n 0, 1) := by decide +kernel
theorem dX9_shatters_2 : decode cX9_shatters 2 = .ok (.getfield 16, 3) := by decide +kernel
theorem dX9_shatters_5 : decode cX9_shatters 5 = .ok (.ishl, 1) := by decide +kernel
theorem dX9_shatters_6 : decode cX9_shatters 6 = .ok (.newarray .boolean, 2) := by decide +kernel
theorem dX9_shatters_8 : decode cX9_shatters 8 = .ok (.astore_n 2, 1) := by decide +kernel
theorem dX9_shatters_9 : decode cX9_shatters 9 = .ok (.iconst 0, 1) := by decide +kernel
theorem dX9_shatters_10 : decode cX9_shatters 10 = .ok (.istore_n 3, 1) := by decide +kernel
theorem dX9_shatters_11 : decode cX9_shatters 11 = .ok (.aload_n 0, 1) := by decide +kernel
theorem dX9_shatters_12 : decode cX9_shatters 12 = .ok (.getfield 10, 3) := by decide +kernel
theorem dX9_shatters_15 : decode cX9_shatters 15 = .ok (.invokeinterface 72 1, 5) := by decide +kernel
theorem dX9_shatters_20 : decode cX9_shatters 20 = .ok (.astore 4, 2) := by decide +kernel
theorem dX9_shatters_22 : decode cX9_shatters 22 = .ok (.aload 4, 2) := by decide +kernel
theorem dX9_shatters_24 : decode cX9_shatters 24 = .ok (.invokeinterface 76 1, 5) := by decide +kernel
theorem dX9_shatters_29 : decode cX9_shatters 29 = .ok (.ifCond .eq 46, 3) := by decide +kernel
theorem dX9_shatters_32 : decode cX9_shatters 32 = .ok (.aload 4, 2) := by decide +kernel
theorem dX9_shatters_34 : decode cX9_shatters 34 = .ok (.invokeinterface 82 1, 5) := by decide +kernel
theorem dX9_shatters_39 : decode cX9_shatters 39 = .ok (.checkcast 86, 3) := by decide +kernel
theorem dX9_shatters_42 : decode cX9_shatters 42 = .ok (.astore 5, 2) := by decide +kernel
theorem dX9_shatters_44 : decode cX9_shatters 44 = .ok (.iload_n 3, 1) := by decide +kernel
theorem dX9_shatters_45 : decode cX9_shatters 45 = .ok (.aload_n 2, 1) := by decide +kernel
theorem dX9_shatters_46 : decode cX9_shatters 46 = .ok (.aload 5, 2) := by decide +kernel
theorem dX9_shatters_48 : decode cX9_shatters 48 = .ok (.iconst 0, 1) := by decide +kernel
theorem dX9_shatters_49 : decode cX9_shatters 49 = .ok (.iaload, 1) := by decide +kernel
theorem dX9_shatters_50 : decode cX9_shatters 50 = .ok (.iload_n 1, 1) := by decide +kernel
theorem dX9_shatters_51 : decode cX9_shatters 51 = .ok (.iand, 1) := by decide +kernel
theorem dX9_shatters_52 : decode cX9_shatters 52 = .ok (.baload, 1) := by decide +kernel
theorem dX9_shatters_53 : decode cX9_shatters 53 = .ok (.ifCond .eq 7, 3) := by decide +kernel
theorem dX9_shatters_56 : decode cX9_shatters 56 = .ok (.iconst 0, 1) := by decide +kernel
theorem dX9_shatters_57 : decode cX9_shatters 57 = .ok (.goto 4, 3) := by decide +kernel
theorem dX9_shatters_60 : decode cX9_shatters 60 = .ok (.iconst 1, 1) := by decide +kernel
theorem dX9_shatters_61 : decode cX9_shatters 61 = .ok (.iadd, 1) := by decide +kernel
theorem dX9_shatters_62 : decode cX9_shatters 62 = .ok (.istore_n 3, 1) := by decide +kernel
theorem dX9_shatters_63 : decode cX9_shatters 63 = .ok (.aload_n 2, 1) := by decide +kernel
theorem dX9_shatters_64 : decode cX9_shatters 64 = .ok (.aload 5, 2) := by decide +kernel
theorem dX9_shatters_66 : decode cX9_shatters 66 = .ok (.iconst 0, 1) := by decide +kernel
theorem dX9_shatters_67 : decode cX9_shatters 67 = .ok (.iaload, 1) := by decide +kernel
theorem dX9_shatters_68 : decode cX9_shatters 68 = .ok (.iload_n 1, 1) := by decide +kernel
theorem dX9_shatters_69 : decode cX9_shatters 69 = .ok (.iand, 1) := by decide +kernel
theorem dX9_shatters_70 : decode cX9_shatters 70 = .ok (.iconst 1, 1) := by decide +kernel
theorem dX9_shatters_71 : decode cX9_shatters 71 = .ok (.bastore, 1) := by decide +kernel
theorem dX9_shatters_72 : decode cX9_shatters 72 = .ok (.goto (-50), 3) := by decide +kernel
theorem dX9_shatters_75 : decode cX9_shatters 75 = .ok (.iload_n 3, 1) := by decide +kernel
theorem dX9_shatters_76 : decode cX9_shatters 76 = .ok (.iconst 1, 1) := by decide +kernel
theorem dX9_shatters_77 : decode cX9_shatters 77 = .ok (.iload_n 1, 1) := by decide +kernel
theorem dX9_shatters_78 : decode cX9_shatters 78 = .ok (.invokestatic 98, 3) := by decide +kernel
theorem dX9_shatters_81 : decode cX9_shatters 81 = .ok (.ishl, 1) := by decide +kernel
theorem dX9_shatters_82 : decode cX9_shatters 82 = .ok (.if_icmp .ne 7, 3) := by decide +kernel
theorem dX9_shatters_85 : decode cX9_shatters 85 = .ok (.iconst 1, 1) := by decide +kernel
theorem dX9_shatters_86 : decode cX9_shatters 86 = .ok (.goto 4, 3) := by decide +kernel
theorem dX9_shatters_89 : decode cX9_shatters 89 = .ok (.iconst 0, 1) := by decide +kernel
theorem dX9_shatters_90 : decode cX9_shatters 90 = .ok (.ireturn, 1) := by decide +kernel
set_option maxRecDepth 20000 in
theorem ggX9_isShattered_X9_isSet : GoodIn wsX9_isShattered wsX9_isSet := goodIn_r _ [5, 6, 7, 8, 4, 9, 62, 63, 64, 65, 66, 67, 68, 69, 70, 71, 72, 73, 74, 75, 76, 77, 78] (by decide +kernel) (by decide +kernel)
set_option maxRecDepth 20000 in
theorem gX9_isShattered_X9_isSet : GoodIn wsX9_isShattered (wsV RX9 88 RX9 yX9_isSet wsX9_isSet) := goodIn_app (goodIn_of _ (by decide +kernel)) ggX9_isShattered_X9_isSet
set_option maxRecDepth 20000 in
theorem ggX9_isShattered_X9_isWrong : GoodIn wsX9_isShattered wsX9_isWrong := goodIn_r _ [13, 14, 62, 63, 64, 65, 66, 67, 68, 69, 70, 71, 72, 73, 74, 75, 76, 77, 78] (by decide +kernel) (by decide +kernel)
set_option maxRecDepth 20000 in
theorem gX9_isShattered_X9_isWrong : GoodIn wsX9_isShattered (wsV RX9 62 RX9 yX9_isWrong wsX9_isWrong) := goodIn_app (goodIn_of _ (by decide +kernel)) ggX9_isShattered_X9_isWrong
set_option maxRecDepth 20000 in
theorem ggX9_isShattered_X9_shatters : GoodIn wsX9_isShattered wsX9_shatters := goodIn_r _ [18, 6, 19, 20, 21, 22, 23, 24, 25, 26, 27, 28, 29, 30, 31, 32, 33, 34, 35, 36, 37, 38, 39, 40, 41, 42, 43, 44, 45, 46, 47, 48, 49, 50, 51, 52, 53, 54, 55, 56, 57, 58, 59, 60, 61, 62, 63, 64, 65, 66, 67, 68, 69, 70, 71, 72, 73, 74, 75, 76, 77, 78, 79, 80, 81, 82, 83, 84, 85] (by decide +kernel) (by decide +kernel)
set_option maxRecDepth 20000 in
theorem gX9_isShattered_X9_shatters : GoodIn wsX9_isShattered (wsV RX9 191 RX9 yX9_shatters wsX9_shatters) := goodIn_app (goodIn_of _ (by decide +kernel)) ggX9_isShattered_X9_shatters
theorem dX9_isShattered_0 : decode cX9_isShattered 0 = .ok (.aload_n 0, 1) := by decide +kernel
theorem dX9_isShattered_1 : decode cX9_isShattered 1 = .ok (.aload_n 0, 1) := by decide +kernel
theorem dX9_isShattered_2 : decode cX9_isShattered 2 = .ok (.iload_n 1, 1) := by decide +kernel
theorem dX9_isShattered_3 : decode cX9_isShattered 3 = .ok (.invokevirtual 88, 3) := by decide +kernel
theorem dX9_isShattered_6 : decode cX9_isShattered 6 = .ok (.ifCond .eq 7, 3) := by decide +kernel
theorem dX9_isShattered_9 : decode cX9_isShattered 9 = .ok (.iconst 0, 1) := by decide +kernel
theorem dX9_isShattered_10 : decode cX9_isShattered 10 = .ok (.goto 4, 3) := by decide +kernel
theorem dX9_isShattered_13 : decode cX9_isShattered 13 = .ok (.iconst 1, 1) := by decide +kernel
theorem dX9_isShattered_14 : decode cX9_isShattered 14 = .ok (.invokevirtual 62, 3) := by decide +kernel
theorem dX9_isShattered_17 : decode cX9_isShattered 17 = .ok (.ifCond .ne 15, 3) := by decide +kernel
theorem dX9_isShattered_20 : decode cX9_isShattered 20 = .ok (.aload_n 0, 1) := by decide +kernel
theorem dX9_isShattered_21 : decode cX9_isShattered 21 = .ok (.iload_n 1, 1) := by decide +kernel
theorem dX9_isShattered_22 : decode cX9_isShattered 22 = .ok (.invokevirtual 191, 3) := by decide +kernel
theorem dX9_isShattered_25 : decode cX9_isShattered 25 = .ok (.ifCond .eq 7, 3) := by decide +kernel
theorem dX9_isShattered_28 : decode cX9_isShattered 28 = .ok (.iconst 1, 1) := by decide +kernel
theorem dX9_isShattered_29 : decode cX9_isShattered 29 = .ok (.goto 4, 3) := by decide +kernel
theorem dX9_isShattered_32 : decode cX9_isShattered 32 = .ok (.iconst 0, 1) := by decide +kernel
theorem dX9_isShattered_33 : decode cX9_isShattered 33 = .ok (.ireturn, 1) := by decide +kernel
set_option maxRecDepth 20000 in
theorem ggX9_dimensionOf_X9_shatters : GoodIn wsX9_dimensionOf wsX9_shatters := goodIn_r _ [10, 1, 11, 12, 13, 14, 15, 16, 17, 18, 19, 20, 21, 22, 23, 24, 25, 26, 27, 28, 29, 30, 31, 32, 33, 34, 35, 36, 37, 38, 39, 40, 41, 42, 43, 44, 45, 46, 47, 48, 49, 50, 51, 52, 53, 54, 55, 56, 57, 58, 59, 60, 61, 62, 63, 64, 65, 66, 67, 68, 69, 70, 71, 72, 73, 74, 75, 76, 77] (by decide +kernel) (by decide +kernel)
set_option maxRecDepth 20000 in
theorem gX9_dimensionOf_X9_shatters : GoodIn wsX9_dimensionOf (wsV RX9 191 RX9 yX9_shatters wsX9_shatters) := goodIn_app (goodIn_of _ (by decide +kernel)) ggX9_dimensionOf_X9_shatters
set_option maxRecDepth 20000 in
theorem ggX9_dimensionOf_J6_bitCount_0f7a4 : GoodIn wsX9_dimensionOf wsJ6_bitCount_0f7a4 := goodIn_r _ [50, 51, 52, 53] (by decide +kernel) (by decide +kernel)
set_option maxRecDepth 20000 in
theorem gX9_dimensionOf_J6_bitCount_0f7a4 : GoodIn wsX9_dimensionOf (va_wsS RX9 98 yJ6_bitCount_0f7a4 wsJ6_bitCount_0f7a4) := goodIn_app (goodIn_of _ (by decide +kernel)) ggX9_dimensionOf_J6_bitCount_0f7a4
theorem dX9_dimensionOf_0 : decode cX9_dimensionOf 0 = .ok (.iconst (-1), 1) := by decide +kernel
theorem dX9_dimensionOf_1 : decode cX9_dimensionOf 1 = .ok (.istore_n 1, 1) := by decide +kernel
theorem dX9_dimensionOf_2 : decode cX9_dimensionOf 2 = .ok (.iconst 0, 1) := by decide +kernel
theorem dX9_dimensionOf_3 : decode cX9_dimensionOf 3 = .ok (.istore_n 2, 1) := by decide +kernel
theorem dX9_dimensionOf_4 : decode cX9_dimensionOf 4 = .ok (.iload_n 2, 1) := by decide +kernel
theorem dX9_dimensionOf_5 : decode cX9_dimensionOf 5 = .ok (.iconst 1, 1) := by decide +kernel
theorem dX9_dimensionOf_6 : decode cX9_dimensionOf 6 = .ok (.aload_n 0, 1) := by decide +kernel
theorem dX9_dimensionOf_7 : decode cX9_dimensionOf 7 = .ok (.getfield 16, 3) := by decide +kernel
theorem dX9_dimensionOf_10 : decode cX9_dimensionOf 10 = .ok (.ishl, 1) := by decide +kernel
theorem dX9_dimensionOf_11 : decode cX9_dimensionOf 11 = .ok (.if_icmp .ge 30, 3) := by decide +kernel
theorem dX9_dimensionOf_14 : decode cX9_dimensionOf 14 = .ok (.aload_n 0, 1) := by decide +kernel
theorem dX9_dimensionOf_15 : decode cX9_dimensionOf 15 = .ok (.iload_n 2, 1) := by decide +kernel
theorem dX9_dimensionOf_16 : decode cX9_dimensionOf 16 = .ok (.invokevirtual 191, 3) := by decide +kernel
theorem dX9_dimensionOf_19 : decode cX9_dimensionOf 19 = .ok (.ifCond .eq 14, 3) := by decide +kernel
theorem dX9_dimensionOf_22 : decode cX9_dimensionOf 22 = .ok (.iload_n 1, 1) := by decide +kernel
theorem dX9_dimensionOf_23 : decode cX9_dimensionOf 23 = .ok (.iload_n 2, 1) := by decide +kernel
theorem dX9_dimensionOf_24 : decode cX9_dimensionOf 24 = .ok (.invokestatic 98, 3) := by decide +kernel
theorem dX9_dimensionOf_27 : decode cX9_dimensionOf 27 = .ok (.invokestatic 173, 3) := by decide +kernel
theorem dX9_dimensionOf_30 : decode cX9_dimensionOf 30 = .ok (.goto 4, 3) := by decide +kernel
theorem dX9_dimensionOf_33 : decode cX9_dimensionOf 33 = .ok (.iload_n 1, 1) := by decide +kernel
theorem dX9_dimensionOf_34 : decode cX9_dimensionOf 34 = .ok (.istore_n 1, 1) := by decide +kernel
theorem dX9_dimensionOf_35 : decode cX9_dimensionOf 35 = .ok (.iinc 2 1, 3) := by decide +kernel
theorem dX9_dimensionOf_38 : decode cX9_dimensionOf 38 = .ok (.goto (-34), 3) := by decide +kernel
theorem dX9_dimensionOf_41 : decode cX9_dimensionOf 41 = .ok (.iload_n 1, 1) := by decide +kernel
theorem dX9_dimensionOf_42 : decode cX9_dimensionOf 42 = .ok (.ireturn, 1) := by decide +kernel
set_option maxRecDepth 20000 in
theorem ggX9_dimension_X9_dimensionOf : GoodIn wsX9_dimension wsX9_dimensionOf := goodIn_r _ [6, 7, 8, 9, 10, 11, 12, 13, 14, 5, 15, 16, 17, 18, 19, 20, 21, 22, 23, 24, 25, 26, 27, 28, 29, 30, 31, 32, 33, 34, 35, 36, 37, 38, 39, 40, 41, 42, 43, 44, 45, 46, 47, 48, 49, 50, 51, 52, 53, 54, 55, 56, 57, 58, 59, 60, 61, 62, 63, 64, 65, 66, 67, 68, 69, 70, 71, 72, 73, 74, 75, 76, 77, 78, 79, 80, 81, 82] (by decide +kernel) (by decide +kernel)
set_option maxRecDepth 20000 in
theorem gX9_dimension_X9_dimensionOf : GoodIn wsX9_dimension (wsV RX9 194 RX9 yX9_dimensionOf wsX9_dimensionOf) := goodIn_app (goodIn_of _ (by decide +kernel)) ggX9_dimension_X9_dimensionOf
theorem dX9_dimension_0 : decode cX9_dimension 0 = .ok (.aload_n 0, 1) := by decide +kernel
theorem dX9_dimension_1 : decode cX9_dimension 1 = .ok (.iconst 0, 1) := by decide +kernel
theorem dX9_dimension_2 : decode cX9_dimension 2 = .ok (.putfield 47, 3) := by decide +kernel
theorem dX9_dimension_5 : decode cX9_dimension 5 = .ok (.aload_n 0, 1) := by decide +kernel
theorem dX9_dimension_6 : decode cX9_dimension 6 = .ok (.invokevirtual 194, 3) := by decide +kernel
theorem dX9_dimension_9 : decode cX9_dimension 9 = .ok (.ireturn, 1) := by decide +kernel
set_option maxRecDepth 20000 in
theorem ggX9_lessonOf_Jx4a65c_size_8abf5 : GoodIn wsX9_lessonOf wsJx4a65c_size_8abf5 := goodIn_r _ [12, 13, 55, 56, 57] (by decide +kernel) (by decide +kernel)
set_option maxRecDepth 20000 in
theorem gX9_lessonOf_Jx4a65c_size_8abf5_f50Jx4a65c : GoodIn wsX9_lessonOf (va_wsF RX9 50 RJx4a65c ⟨"java/util/List", "size", "()I"⟩ yJx4a65c_size_8abf5 wsJx4a65c_size_8abf5) := goodIn_app (goodIn_of _ (by decide +kernel)) ggX9_lessonOf_Jx4a65c_size_8abf5
set_option maxRecDepth 20000 in
theorem ggX9_lessonOf_Jx4a65c_get_915e3 : GoodIn wsX9_lessonOf wsJx4a65c_get_915e3 := goodIn_r _ [17, 13, 18, 19, 20, 21, 22, 23, 24, 25, 26, 27, 28, 11, 29, 30, 55, 56, 57] (by decide +kernel) (by decide +kernel)
set_option maxRecDepth 20000 in
theorem gX9_lessonOf_Jx4a65c_get_915e3_f129Jx4a65c : GoodIn wsX9_lessonOf (va_wsF RX9 129 RJx4a65c ⟨"java/util/List", "get", "(I)Ljava/lang/Object;"⟩ yJx4a65c_get_915e3 wsJx4a65c_get_915e3) := goodIn_app (goodIn_of _ (by decide +kernel)) ggX9_lessonOf_Jx4a65c_get_915e3
set_option maxRecDepth 20000 in
theorem ggX9_lessonOf_J6_bitCount_0f7a4 : GoodIn wsX9_lessonOf wsJ6_bitCount_0f7a4 := goodIn_r _ [34, 35, 36, 37] (by decide +kernel) (by decide +kernel)
set_option maxRecDepth 20000 in
theorem gX9_lessonOf_J6_bitCount_0f7a4 : GoodIn wsX9_lessonOf (va_wsS RX9 98 yJ6_bitCount_0f7a4 wsJ6_bitCount_0f7a4) := goodIn_app (goodIn_of _ (by decide +kernel)) ggX9_lessonOf_J6_bitCount_0f7a4
theorem dX9_lessonOf_0 : decode cX9_lessonOf 0 = .ok (.aload_n 0, 1) := by decide +kernel
theorem dX9_lessonOf_1 : decode cX9_lessonOf 1 = .ok (.getfield 16, 3) := by decide +kernel
theorem dX9_lessonOf_4 : decode cX9_lessonOf 4 = .ok (.istore_n 2, 1) := by decide +kernel
theorem dX9_lessonOf_5 : decode cX9_lessonOf 5 = .ok (.iconst 0, 1) := by decide +kernel
theorem dX9_lessonOf_6 : decode cX9_lessonOf 6 = .ok (.istore_n 3, 1) := by decide +kernel
theorem dX9_lessonOf_7 : decode cX9_lessonOf 7 = .ok (.iload_n 3, 1) := by decide +kernel
theorem dX9_lessonOf_8 : decode cX9_lessonOf 8 = .ok (.iconst 1, 1) := by decide +kernel
theorem dX9_lessonOf_9 : decode cX9_lessonOf 9 = .ok (.aload_n 0, 1) := by decide +kernel
theorem dX9_lessonOf_10 : decode cX9_lessonOf 10 = .ok (.getfield 16, 3) := by decide +kernel
theorem dX9_lessonOf_13 : decode cX9_lessonOf 13 = .ok (.ishl, 1) := by decide +kernel
theorem dX9_lessonOf_14 : decode cX9_lessonOf 14 = .ok (.if_icmp .ge 106, 3) := by decide +kernel
theorem dX9_lessonOf_17 : decode cX9_lessonOf 17 = .ok (.iconst 1, 1) := by decide +kernel
theorem dX9_lessonOf_18 : decode cX9_lessonOf 18 = .ok (.istore 4, 2) := by decide +kernel
theorem dX9_lessonOf_20 : decode cX9_lessonOf 20 = .ok (.iconst 0, 1) := by decide +kernel
theorem dX9_lessonOf_21 : decode cX9_lessonOf 21 = .ok (.istore 5, 2) := by decide +kernel
theorem dX9_lessonOf_23 : decode cX9_lessonOf 23 = .ok (.iload 5, 2) := by decide +kernel
theorem dX9_lessonOf_25 : decode cX9_lessonOf 25 = .ok (.aload_n 0, 1) := by decide +kernel
theorem dX9_lessonOf_26 : decode cX9_lessonOf 26 = .ok (.getfield 10, 3) := by decide +kernel
theorem dX9_lessonOf_29 : decode cX9_lessonOf 29 = .ok (.invokeinterface 50 1, 5) := by decide +kernel
theorem dX9_lessonOf_34 : decode cX9_lessonOf 34 = .ok (.if_icmp .ge 62, 3) := by decide +kernel
theorem dX9_lessonOf_37 : decode cX9_lessonOf 37 = .ok (.iload 4, 2) := by decide +kernel
theorem dX9_lessonOf_39 : decode cX9_lessonOf 39 = .ok (.iload 5, 2) := by decide +kernel
theorem dX9_lessonOf_41 : decode cX9_lessonOf 41 = .ok (.iload_n 1, 1) := by decide +kernel
theorem dX9_lessonOf_42 : decode cX9_lessonOf 42 = .ok (.if_icmp .eq 40, 3) := by decide +kernel
theorem dX9_lessonOf_45 : decode cX9_lessonOf 45 = .ok (.aload_n 0, 1) := by decide +kernel
theorem dX9_lessonOf_46 : decode cX9_lessonOf 46 = .ok (.getfield 10, 3) := by decide +kernel
theorem dX9_lessonOf_49 : decode cX9_lessonOf 49 = .ok (.iload 5, 2) := by decide +kernel
theorem dX9_lessonOf_51 : decode cX9_lessonOf 51 = .ok (.invokeinterface 129 2, 5) := by decide +kernel
theorem dX9_lessonOf_56 : decode cX9_lessonOf 56 = .ok (.checkcast 86, 3) := by decide +kernel
theorem dX9_lessonOf_59 : decode cX9_lessonOf 59 = .ok (.iconst 0, 1) := by decide +kernel
theorem dX9_lessonOf_60 : decode cX9_lessonOf 60 = .ok (.iaload, 1) := by decide +kernel
theorem dX9_lessonOf_61 : decode cX9_lessonOf 61 = .ok (.aload_n 0, 1) := by decide +kernel
theorem dX9_lessonOf_62 : decode cX9_lessonOf 62 = .ok (.getfield 10, 3) := by decide +kernel
theorem dX9_lessonOf_65 : decode cX9_lessonOf 65 = .ok (.iload_n 1, 1) := by decide +kernel
theorem dX9_lessonOf_66 : decode cX9_lessonOf 66 = .ok (.invokeinterface 129 2, 5) := by decide +kernel
theorem dX9_lessonOf_71 : decode cX9_lessonOf 71 = .ok (.checkcast 86, 3) := by decide +kernel
theorem dX9_lessonOf_74 : decode cX9_lessonOf 74 = .ok (.iconst 0, 1) := by decide +kernel
theorem dX9_lessonOf_75 : decode cX9_lessonOf 75 = .ok (.iaload, 1) := by decide +kernel
theorem dX9_lessonOf_76 : decode cX9_lessonOf 76 = .ok (.ixor, 1) := by decide +kernel
theorem dX9_lessonOf_77 : decode cX9_lessonOf 77 = .ok (.iload_n 3, 1) := by decide +kernel
theorem dX9_lessonOf_78 : decode cX9_lessonOf 78 = .ok (.iand, 1) := by decide +kernel
theorem dX9_lessonOf_79 : decode cX9_lessonOf 79 = .ok (.ifCond .eq 7, 3) := by decide +kernel
theorem dX9_lessonOf_82 : decode cX9_lessonOf 82 = .ok (.iconst 1, 1) := by decide +kernel
theorem dX9_lessonOf_83 : decode cX9_lessonOf 83 = .ok (.goto 4, 3) := by decide +kernel
theorem dX9_lessonOf_86 : decode cX9_lessonOf 86 = .ok (.iconst 0, 1) := by decide +kernel
theorem dX9_lessonOf_87 : decode cX9_lessonOf 87 = .ok (.iand, 1) := by decide +kernel
theorem dX9_lessonOf_88 : decode cX9_lessonOf 88 = .ok (.istore 4, 2) := by decide +kernel
theorem dX9_lessonOf_90 : decode cX9_lessonOf 90 = .ok (.iinc 5 1, 3) := by decide +kernel
theorem dX9_lessonOf_93 : decode cX9_lessonOf 93 = .ok (.goto (-70), 3) := by decide +kernel
theorem dX9_lessonOf_96 : decode cX9_lessonOf 96 = .ok (.iload 4, 2) := by decide +kernel
theorem dX9_lessonOf_98 : decode cX9_lessonOf 98 = .ok (.ifCond .eq 14, 3) := by decide +kernel
theorem dX9_lessonOf_101 : decode cX9_lessonOf 101 = .ok (.iload_n 2, 1) := by decide +kernel
theorem dX9_lessonOf_102 : decode cX9_lessonOf 102 = .ok (.iload_n 3, 1) := by decide +kernel
theorem dX9_lessonOf_103 : decode cX9_lessonOf 103 = .ok (.invokestatic 98, 3) := by decide +kernel
theorem dX9_lessonOf_106 : decode cX9_lessonOf 106 = .ok (.invokestatic 185, 3) := by decide +kernel
theorem dX9_lessonOf_109 : decode cX9_lessonOf 109 = .ok (.goto 4, 3) := by decide +kernel
theorem dX9_lessonOf_112 : decode cX9_lessonOf 112 = .ok (.iload_n 2, 1) := by decide +kernel
theorem dX9_lessonOf_113 : decode cX9_lessonOf 113 = .ok (.istore_n 2, 1) := by decide +kernel
theorem dX9_lessonOf_114 : decode cX9_lessonOf 114 = .ok (.iinc 3 1, 3) := by decide +kernel
theorem dX9_lessonOf_117 : decode cX9_lessonOf 117 = .ok (.goto (-110), 3) := by decide +kernel
theorem dX9_lessonOf_120 : decode cX9_lessonOf 120 = .ok (.iload_n 2, 1) := by decide +kernel
theorem dX9_lessonOf_121 : decode cX9_lessonOf 121 = .ok (.ireturn, 1) := by decide +kernel
set_option maxRecDepth 20000 in
theorem ggX9_lesson_X9_isNoConcept : GoodIn wsX9_lesson wsX9_isNoConcept := goodIn_r _ [5, 6, 7, 8, 4, 9, 10, 11, 12, 13, 14, 15, 16, 17, 18, 19, 20, 55, 56, 57, 58, 59, 60, 61, 62, 63, 64, 65, 66, 67, 68, 69, 70, 71, 72, 73, 74] (by decide +kernel) (by decide +kernel)
set_option maxRecDepth 20000 in
theorem gX9_lesson_X9_isNoConcept : GoodIn wsX9_lesson (wsV RX9 126 RX9 yX9_isNoConcept wsX9_isNoConcept) := goodIn_app (goodIn_of _ (by decide +kernel)) ggX9_lesson_X9_isNoConcept
set_option maxRecDepth 20000 in
theorem ggX9_lesson_X9_lessonOf : GoodIn wsX9_lesson wsX9_lessonOf := goodIn_r _ [24, 25, 6, 26, 27, 28, 29, 30, 10, 11, 12, 13, 14, 15, 31, 32, 33, 34, 35, 36, 37, 38, 39, 40, 41, 42, 43, 44, 45, 46, 47, 48, 49, 50, 51, 52, 53, 54, 55, 56, 57, 58, 59, 60, 61, 62, 63, 64, 65, 66, 67, 68, 69, 70, 71, 72, 73, 74] (by decide +kernel) (by decide +kernel)
set_option maxRecDepth 20000 in
theorem gX9_lesson_X9_lessonOf : GoodIn wsX9_lesson (wsV RX9 197 RX9 yX9_lessonOf wsX9_lessonOf) := goodIn_app (goodIn_of _ (by decide +kernel)) ggX9_lesson_X9_lessonOf
theorem dX9_lesson_0 : decode cX9_lesson 0 = .ok (.aload_n 0, 1) := by decide +kernel
theorem dX9_lesson_1 : decode cX9_lesson 1 = .ok (.iload_n 1, 1) := by decide +kernel
theorem dX9_lesson_2 : decode cX9_lesson 2 = .ok (.invokevirtual 126, 3) := by decide +kernel
theorem dX9_lesson_5 : decode cX9_lesson 5 = .ok (.ifCond .eq 7, 3) := by decide +kernel
theorem dX9_lesson_8 : decode cX9_lesson 8 = .ok (.iconst 0, 1) := by decide +kernel
theorem dX9_lesson_9 : decode cX9_lesson 9 = .ok (.goto 8, 3) := by decide +kernel
theorem dX9_lesson_12 : decode cX9_lesson 12 = .ok (.aload_n 0, 1) := by decide +kernel
theorem dX9_lesson_13 : decode cX9_lesson 13 = .ok (.iload_n 1, 1) := by decide +kernel
theorem dX9_lesson_14 : decode cX9_lesson 14 = .ok (.invokevirtual 197, 3) := by decide +kernel
theorem dX9_lesson_17 : decode cX9_lesson 17 = .ok (.ireturn, 1) := by decide +kernel
set_option maxRecDepth 20000 in
theorem ggX9_with_Jx4a65c_size_8abf5 : GoodIn wsX9_with wsJx4a65c_size_8abf5 := goodIn_r _ [7, 8, 47, 48, 49] (by decide +kernel) (by decide +kernel)
set_option maxRecDepth 20000 in
theorem gX9_with_Jx4a65c_size_8abf5_f50Jx4a65c : GoodIn wsX9_with (va_wsF RX9 50 RJx4a65c ⟨"java/util/List", "size", "()I"⟩ yJx4a65c_size_8abf5 wsJx4a65c_size_8abf5) := goodIn_app (goodIn_of _ (by decide +kernel)) ggX9_with_Jx4a65c_size_8abf5
set_option maxRecDepth 20000 in
theorem ggX9_with_Jx4a65c_get_915e3 : GoodIn wsX9_with wsJx4a65c_get_915e3 := goodIn_r _ [12, 8, 13, 14, 15, 16, 17, 18, 19, 20, 21, 22, 23, 6, 24, 25, 47, 48, 49] (by decide +kernel) (by decide +kernel)
set_option maxRecDepth 20000 in
theorem gX9_with_Jx4a65c_get_915e3_f129Jx4a65c : GoodIn wsX9_with (va_wsF RX9 129 RJx4a65c ⟨"java/util/List", "get", "(I)Ljava/lang/Object;"⟩ yJx4a65c_get_915e3 wsJx4a65c_get_915e3) := goodIn_app (goodIn_of _ (by decide +kernel)) ggX9_with_Jx4a65c_get_915e3
set_option maxRecDepth 20000 in
theorem ggX9_with_X9_hasPoint : GoodIn wsX9_with wsX9_hasPoint := goodIn_r _ [29] (by decide +kernel) (by decide +kernel)
set_option maxRecDepth 20000 in
theorem gX9_with_X9_hasPoint : GoodIn wsX9_with (va_wsS RX9 153 yX9_hasPoint wsX9_hasPoint) := goodIn_app (goodIn_of _ (by decide +kernel)) ggX9_with_X9_hasPoint
theorem dX9_with_0 : decode cX9_with 0 = .ok (.iconst 0, 1) := by decide +kernel
theorem dX9_with_1 : decode cX9_with 1 = .ok (.istore 4, 2) := by decide +kernel
theorem dX9_with_3 : decode cX9_with 3 = .ok (.iconst 0, 1) := by decide +kernel
theorem dX9_with_4 : decode cX9_with 4 = .ok (.istore 5, 2) := by decide +kernel
theorem dX9_with_6 : decode cX9_with 6 = .ok (.iload 5, 2) := by decide +kernel
theorem dX9_with_8 : decode cX9_with 8 = .ok (.aload_n 0, 1) := by decide +kernel
theorem dX9_with_9 : decode cX9_with 9 = .ok (.getfield 10, 3) := by decide +kernel
theorem dX9_with_12 : decode cX9_with 12 = .ok (.invokeinterface 50 1, 5) := by decide +kernel
theorem dX9_with_17 : decode cX9_with 17 = .ok (.if_icmp .ge 56, 3) := by decide +kernel
theorem dX9_with_20 : decode cX9_with 20 = .ok (.iload 4, 2) := by decide +kernel
theorem dX9_with_22 : decode cX9_with 22 = .ok (.iload_n 1, 1) := by decide +kernel
theorem dX9_with_23 : decode cX9_with 23 = .ok (.iload 5, 2) := by decide +kernel
theorem dX9_with_25 : decode cX9_with 25 = .ok (.ishr, 1) := by decide +kernel
theorem dX9_with_26 : decode cX9_with 26 = .ok (.iconst 1, 1) := by decide +kernel
theorem dX9_with_27 : decode cX9_with 27 = .ok (.iand, 1) := by decide +kernel
theorem dX9_with_28 : decode cX9_with 28 = .ok (.iconst 1, 1) := by decide +kernel
theorem dX9_with_29 : decode cX9_with 29 = .ok (.if_icmp .ne 34, 3) := by decide +kernel
theorem dX9_with_32 : decode cX9_with 32 = .ok (.aload_n 0, 1) := by decide +kernel
theorem dX9_with_33 : decode cX9_with 33 = .ok (.getfield 10, 3) := by decide +kernel
theorem dX9_with_36 : decode cX9_with 36 = .ok (.iload 5, 2) := by decide +kernel
theorem dX9_with_38 : decode cX9_with 38 = .ok (.invokeinterface 129 2, 5) := by decide +kernel
theorem dX9_with_43 : decode cX9_with 43 = .ok (.checkcast 86, 3) := by decide +kernel
theorem dX9_with_46 : decode cX9_with 46 = .ok (.iconst 0, 1) := by decide +kernel
theorem dX9_with_47 : decode cX9_with 47 = .ok (.iaload, 1) := by decide +kernel
theorem dX9_with_48 : decode cX9_with 48 = .ok (.iload_n 2, 1) := by decide +kernel
theorem dX9_with_49 : decode cX9_with 49 = .ok (.invokestatic 153, 3) := by decide +kernel
theorem dX9_with_52 : decode cX9_with 52 = .ok (.iload_n 3, 1) := by decide +kernel
theorem dX9_with_53 : decode cX9_with 53 = .ok (.if_icmp .ne 10, 3) := by decide +kernel
theorem dX9_with_56 : decode cX9_with 56 = .ok (.iconst 1, 1) := by decide +kernel
theorem dX9_with_57 : decode cX9_with 57 = .ok (.iload 5, 2) := by decide +kernel
theorem dX9_with_59 : decode cX9_with 59 = .ok (.ishl, 1) := by decide +kernel
theorem dX9_with_60 : decode cX9_with 60 = .ok (.goto 4, 3) := by decide +kernel
theorem dX9_with_63 : decode cX9_with 63 = .ok (.iconst 0, 1) := by decide +kernel
theorem dX9_with_64 : decode cX9_with 64 = .ok (.ior, 1) := by decide +kernel
theorem dX9_with_65 : decode cX9_with 65 = .ok (.istore 4, 2) := by decide +kernel
theorem dX9_with_67 : decode cX9_with 67 = .ok (.iinc 5 1, 3) := by decide +kernel
theorem dX9_with_70 : decode cX9_with 70 = .ok (.goto (-64), 3) := by decide +kernel
theorem dX9_with_73 : decode cX9_with 73 = .ok (.iload 4, 2) := by decide +kernel
theorem dX9_with_75 : decode cX9_with 75 = .ok (.ireturn, 1) := by decide +kernel
set_option maxRecDepth 20000 in
theorem ggX9_depthOf_J6_bitCount_0f7a4 : GoodIn wsX9_depthOf wsJ6_bitCount_0f7a4 := goodIn_r _ [12, 13, 14, 15] (by decide +kernel) (by decide +kernel)
set_option maxRecDepth 20000 in
theorem gX9_depthOf_J6_bitCount_0f7a4 : GoodIn wsX9_depthOf (va_wsS RX9 98 yJ6_bitCount_0f7a4 wsJ6_bitCount_0f7a4) := goodIn_app (goodIn_of _ (by decide +kernel)) ggX9_depthOf_J6_bitCount_0f7a4
set_option maxRecDepth 20000 in
theorem ggX9_depthOf_X9_with : GoodIn wsX9_depthOf wsX9_with := goodIn_r _ [20, 21, 22, 23, 24, 25, 26, 27, 28, 29, 30, 31, 32, 33, 34, 35, 36, 37, 38, 39, 40, 41, 42, 43, 44, 45, 46, 47, 19, 48, 52, 53, 54, 55, 56, 57, 58, 59, 60, 61, 62, 63, 64, 65, 66, 67, 68, 69, 70, 71] (by decide +kernel) (by decide +kernel)
set_option maxRecDepth 20000 in
theorem gX9_depthOf_X9_with : GoodIn wsX9_depthOf (wsV RX9 200 RX9 yX9_with wsX9_with) := goodIn_app (goodIn_of _ (by decide +kernel)) ggX9_depthOf_X9_with
set_option maxRecDepth 20000 in
theorem ggX9_depthOf_X9_depthOf : GoodIn wsX9_depthOf wsX9_depthOf := goodIn_r _ [0, 1, 2, 3, 4, 5, 6, 7, 8, 9, 10, 11, 12, 13, 14, 15, 16, 17, 18, 19, 20, 21, 22, 23, 24, 25, 26, 27, 28, 29, 30, 31, 32, 33, 34, 35, 36, 37, 38, 39, 40, 41, 42, 43, 44, 45, 46, 47, 48, 49, 50, 51, 52, 53, 54, 55, 56, 57, 58, 59, 60, 61, 62, 63, 64, 65, 66, 67, 68, 69, 70, 71] (by decide +kernel) (by decide +kernel)
set_option maxRecDepth 20000 in
theorem gX9_depthOf_X9_depthOf : GoodIn wsX9_depthOf (wsV RX9 204 RX9 yX9_depthOf wsX9_depthOf) := goodIn_app (goodIn_of _ (by decide +kernel)) ggX9_depthOf_X9_depthOf
theorem dX9_depthOf_0 : decode cX9_depthOf 0 = .ok (.iload_n 1, 1) := by decide +kernel
theorem dX9_depthOf_1 : decode cX9_depthOf 1 = .ok (.invokestatic 98, 3) := by decide +kernel
theorem dX9_depthOf_4 : decode cX9_depthOf 4 = .ok (.iconst 2, 1) := by decide +kernel
theorem dX9_depthOf_5 : decode cX9_depthOf 5 = .ok (.if_icmp .ge 5, 3) := by decide +kernel
theorem dX9_depthOf_8 : decode cX9_depthOf 8 = .ok (.iconst 0, 1) := by decide +kernel
theorem dX9_depthOf_9 : decode cX9_depthOf 9 = .ok (.ireturn, 1) := by decide +kernel
theorem dX9_depthOf_10 : decode cX9_depthOf 10 = .ok (.aload_n 0, 1) := by decide +kernel
theorem dX9_depthOf_11 : decode cX9_depthOf 11 = .ok (.getfield 16, 3) := by decide +kernel
theorem dX9_depthOf_14 : decode cX9_depthOf 14 = .ok (.istore_n 2, 1) := by decide +kernel
theorem dX9_depthOf_15 : decode cX9_depthOf 15 = .ok (.iconst 0, 1) := by decide +kernel
theorem dX9_depthOf_16 : decode cX9_depthOf 16 = .ok (.istore_n 3, 1) := by decide +kernel
theorem dX9_depthOf_17 : decode cX9_depthOf 17 = .ok (.iload_n 3, 1) := by decide +kernel
theorem dX9_depthOf_18 : decode cX9_depthOf 18 = .ok (.aload_n 0, 1) := by decide +kernel
theorem dX9_depthOf_19 : decode cX9_depthOf 19 = .ok (.getfield 16, 3) := by decide +kernel
theorem dX9_depthOf_22 : decode cX9_depthOf 22 = .ok (.if_icmp .ge 70, 3) := by decide +kernel
theorem dX9_depthOf_25 : decode cX9_depthOf 25 = .ok (.aload_n 0, 1) := by decide +kernel
theorem dX9_depthOf_26 : decode cX9_depthOf 26 = .ok (.iload_n 1, 1) := by decide +kernel
theorem dX9_depthOf_27 : decode cX9_depthOf 27 = .ok (.iload_n 3, 1) := by decide +kernel
theorem dX9_depthOf_28 : decode cX9_depthOf 28 = .ok (.iconst 1, 1) := by decide +kernel
theorem dX9_depthOf_29 : decode cX9_depthOf 29 = .ok (.invokevirtual 200, 3) := by decide +kernel
theorem dX9_depthOf_32 : decode cX9_depthOf 32 = .ok (.istore 4, 2) := by decide +kernel
theorem dX9_depthOf_34 : decode cX9_depthOf 34 = .ok (.iload 4, 2) := by decide +kernel
theorem dX9_depthOf_36 : decode cX9_depthOf 36 = .ok (.ifCond .eq 50, 3) := by decide +kernel
theorem dX9_depthOf_39 : decode cX9_depthOf 39 = .ok (.iload 4, 2) := by decide +kernel
theorem dX9_depthOf_41 : decode cX9_depthOf 41 = .ok (.iload_n 1, 1) := by decide +kernel
theorem dX9_depthOf_42 : decode cX9_depthOf 42 = .ok (.if_icmp .ne 6, 3) := by decide +kernel
theorem dX9_depthOf_45 : decode cX9_depthOf 45 = .ok (.goto 41, 3) := by decide +kernel
theorem dX9_depthOf_48 : decode cX9_depthOf 48 = .ok (.aload_n 0, 1) := by decide +kernel
theorem dX9_depthOf_49 : decode cX9_depthOf 49 = .ok (.iload 4, 2) := by decide +kernel
theorem dX9_depthOf_51 : decode cX9_depthOf 51 = .ok (.invokevirtual 204, 3) := by decide +kernel
theorem dX9_depthOf_54 : decode cX9_depthOf 54 = .ok (.istore 5, 2) := by decide +kernel
theorem dX9_depthOf_56 : decode cX9_depthOf 56 = .ok (.iload 5, 2) := by decide +kernel
theorem dX9_depthOf_58 : decode cX9_depthOf 58 = .ok (.iconst 1, 1) := by decide +kernel
theorem dX9_depthOf_59 : decode cX9_depthOf 59 = .ok (.iadd, 1) := by decide +kernel
theorem dX9_depthOf_60 : decode cX9_depthOf 60 = .ok (.iload_n 2, 1) := by decide +kernel
theorem dX9_depthOf_61 : decode cX9_depthOf 61 = .ok (.if_icmp .ge 25, 3) := by decide +kernel
theorem dX9_depthOf_64 : decode cX9_depthOf 64 = .ok (.iload_n 2, 1) := by decide +kernel
theorem dX9_depthOf_65 : decode cX9_depthOf 65 = .ok (.iconst 1, 1) := by decide +kernel
theorem dX9_depthOf_66 : decode cX9_depthOf 66 = .ok (.iload 5, 2) := by decide +kernel
theorem dX9_depthOf_68 : decode cX9_depthOf 68 = .ok (.aload_n 0, 1) := by decide +kernel
theorem dX9_depthOf_69 : decode cX9_depthOf 69 = .ok (.iload_n 1, 1) := by decide +kernel
theorem dX9_depthOf_70 : decode cX9_depthOf 70 = .ok (.iload 4, 2) := by decide +kernel
theorem dX9_depthOf_72 : decode cX9_depthOf 72 = .ok (.iconst (-1), 1) := by decide +kernel
theorem dX9_depthOf_73 : decode cX9_depthOf 73 = .ok (.ixor, 1) := by decide +kernel
theorem dX9_depthOf_74 : decode cX9_depthOf 74 = .ok (.iand, 1) := by decide +kernel
theorem dX9_depthOf_75 : decode cX9_depthOf 75 = .ok (.invokevirtual 204, 3) := by decide +kernel
theorem dX9_depthOf_78 : decode cX9_depthOf 78 = .ok (.invokestatic 173, 3) := by decide +kernel
theorem dX9_depthOf_81 : decode cX9_depthOf 81 = .ok (.iadd, 1) := by decide +kernel
theorem dX9_depthOf_82 : decode cX9_depthOf 82 = .ok (.invokestatic 185, 3) := by decide +kernel
theorem dX9_depthOf_85 : decode cX9_depthOf 85 = .ok (.istore_n 2, 1) := by decide +kernel
theorem dX9_depthOf_86 : decode cX9_depthOf 86 = .ok (.iinc 3 1, 3) := by decide +kernel
theorem dX9_depthOf_89 : decode cX9_depthOf 89 = .ok (.goto (-72), 3) := by decide +kernel
theorem dX9_depthOf_92 : decode cX9_depthOf 92 = .ok (.iload_n 2, 1) := by decide +kernel
theorem dX9_depthOf_93 : decode cX9_depthOf 93 = .ok (.ireturn, 1) := by decide +kernel
set_option maxRecDepth 20000 in
theorem ggX9_depth_Jx4a65c_size_8abf5 : GoodIn wsX9_depth wsJx4a65c_size_8abf5 := goodIn_r _ [7, 8, 71, 72, 73] (by decide +kernel) (by decide +kernel)
set_option maxRecDepth 20000 in
theorem gX9_depth_Jx4a65c_size_8abf5_f50Jx4a65c : GoodIn wsX9_depth (va_wsF RX9 50 RJx4a65c ⟨"java/util/List", "size", "()I"⟩ yJx4a65c_size_8abf5 wsJx4a65c_size_8abf5) := goodIn_app (goodIn_of _ (by decide +kernel)) ggX9_depth_Jx4a65c_size_8abf5
set_option maxRecDepth 20000 in
theorem ggX9_depth_X9_depthOf : GoodIn wsX9_depth wsX9_depthOf := goodIn_r _ [13, 14, 15, 16, 17, 18, 19, 20, 21, 22, 23, 24, 25, 26, 27, 28, 29, 30, 31, 12, 32, 2, 33, 3, 4, 5, 6, 7, 8, 34, 35, 36, 37, 38, 39, 40, 41, 42, 43, 44, 45, 46, 47, 48, 49, 50, 51, 52, 53, 9, 10, 11, 54, 55, 56, 57, 58, 59, 60, 61, 62, 63, 64, 65, 66, 67, 68, 69, 70, 71, 72, 73] (by decide +kernel) (by decide +kernel)
set_option maxRecDepth 20000 in
theorem gX9_depth_X9_depthOf : GoodIn wsX9_depth (wsV RX9 204 RX9 yX9_depthOf wsX9_depthOf) := goodIn_app (goodIn_of _ (by decide +kernel)) ggX9_depth_X9_depthOf
theorem dX9_depth_0 : decode cX9_depth 0 = .ok (.aload_n 0, 1) := by decide +kernel
theorem dX9_depth_1 : decode cX9_depth 1 = .ok (.iconst 0, 1) := by decide +kernel
theorem dX9_depth_2 : decode cX9_depth 2 = .ok (.putfield 47, 3) := by decide +kernel
theorem dX9_depth_5 : decode cX9_depth 5 = .ok (.aload_n 0, 1) := by decide +kernel
theorem dX9_depth_6 : decode cX9_depth 6 = .ok (.iconst 1, 1) := by decide +kernel
theorem dX9_depth_7 : decode cX9_depth 7 = .ok (.aload_n 0, 1) := by decide +kernel
theorem dX9_depth_8 : decode cX9_depth 8 = .ok (.getfield 10, 3) := by decide +kernel
theorem dX9_depth_11 : decode cX9_depth 11 = .ok (.invokeinterface 50 1, 5) := by decide +kernel
theorem dX9_depth_16 : decode cX9_depth 16 = .ok (.ishl, 1) := by decide +kernel
theorem dX9_depth_17 : decode cX9_depth 17 = .ok (.iconst 1, 1) := by decide +kernel
theorem dX9_depth_18 : decode cX9_depth 18 = .ok (.isub, 1) := by decide +kernel
theorem dX9_depth_19 : decode cX9_depth 19 = .ok (.invokevirtual 204, 3) := by decide +kernel
theorem dX9_depth_22 : decode cX9_depth 22 = .ok (.ireturn, 1) := by decide +kernel
set_option maxRecDepth 20000 in
theorem ggX9_mistakesOf_J6_bitCount_0f7a4 : GoodIn wsX9_mistakesOf wsJ6_bitCount_0f7a4 := goodIn_r _ [12, 13, 14, 15] (by decide +kernel) (by decide +kernel)
set_option maxRecDepth 20000 in
theorem gX9_mistakesOf_J6_bitCount_0f7a4 : GoodIn wsX9_mistakesOf (va_wsS RX9 98 yJ6_bitCount_0f7a4 wsJ6_bitCount_0f7a4) := goodIn_app (goodIn_of _ (by decide +kernel)) ggX9_mistakesOf_J6_bitCount_0f7a4
set_option maxRecDepth 20000 in
theorem ggX9_mistakesOf_X9_with : GoodIn wsX9_mistakesOf wsX9_with := goodIn_r _ [20, 21, 22, 23, 24, 25, 26, 27, 28, 29, 30, 31, 32, 33, 34, 35, 36, 37, 38, 39, 40, 41, 42, 43, 44, 45, 46, 47, 19, 48, 52, 53, 54, 55, 56, 57, 58, 59, 60, 61, 62, 63, 64, 65, 66, 67, 68, 69, 70, 71] (by decide +kernel) (by decide +kernel)
set_option maxRecDepth 20000 in
theorem gX9_mistakesOf_X9_with : GoodIn wsX9_mistakesOf (wsV RX9 200 RX9 yX9_with wsX9_with) := goodIn_app (goodIn_of _ (by decide +kernel)) ggX9_mistakesOf_X9_with
set_option maxRecDepth 20000 in
theorem ggX9_mistakesOf_X9_mistakesOf : GoodIn wsX9_mistakesOf wsX9_mistakesOf := goodIn_r _ [0, 1, 2, 3, 4, 5, 6, 7, 8, 9, 10, 11, 12, 13, 14, 15, 16, 17, 18, 19, 20, 21, 22, 23, 24, 25, 26, 27, 28, 29, 30, 31, 32, 33, 34, 35, 36, 37, 38, 39, 40, 41, 42, 43, 44, 45, 46, 47, 48, 49, 50, 51, 52, 53, 54, 55, 56, 57, 58, 59, 60, 61, 62, 63, 64, 65, 66, 67, 68, 69, 70, 71] (by decide +kernel) (by decide +kernel)
set_option maxRecDepth 20000 in
theorem gX9_mistakesOf_X9_mistakesOf : GoodIn wsX9_mistakesOf (wsV RX9 207 RX9 yX9_mistakesOf wsX9_mistakesOf) := goodIn_app (goodIn_of _ (by decide +kernel)) ggX9_mistakesOf_X9_mistakesOf
theorem dX9_mistakesOf_0 : decode cX9_mistakesOf 0 = .ok (.iload_n 1, 1) := by decide +kernel
theorem dX9_mistakesOf_1 : decode cX9_mistakesOf 1 = .ok (.invokestatic 98, 3) := by decide +kernel
theorem dX9_mistakesOf_4 : decode cX9_mistakesOf 4 = .ok (.iconst 2, 1) := by decide +kernel
theorem dX9_mistakesOf_5 : decode cX9_mistakesOf 5 = .ok (.if_icmp .ge 5, 3) := by decide +kernel
theorem dX9_mistakesOf_8 : decode cX9_mistakesOf 8 = .ok (.iconst 0, 1) := by decide +kernel
theorem dX9_mistakesOf_9 : decode cX9_mistakesOf 9 = .ok (.ireturn, 1) := by decide +kernel
theorem dX9_mistakesOf_10 : decode cX9_mistakesOf 10 = .ok (.iconst 0, 1) := by decide +kernel
theorem dX9_mistakesOf_11 : decode cX9_mistakesOf 11 = .ok (.istore_n 2, 1) := by decide +kernel
theorem dX9_mistakesOf_12 : decode cX9_mistakesOf 12 = .ok (.iconst 0, 1) := by decide +kernel
theorem dX9_mistakesOf_13 : decode cX9_mistakesOf 13 = .ok (.istore_n 3, 1) := by decide +kernel
theorem dX9_mistakesOf_14 : decode cX9_mistakesOf 14 = .ok (.iload_n 3, 1) := by decide +kernel
theorem dX9_mistakesOf_15 : decode cX9_mistakesOf 15 = .ok (.aload_n 0, 1) := by decide +kernel
theorem dX9_mistakesOf_16 : decode cX9_mistakesOf 16 = .ok (.getfield 16, 3) := by decide +kernel
theorem dX9_mistakesOf_19 : decode cX9_mistakesOf 19 = .ok (.if_icmp .ge 58, 3) := by decide +kernel
theorem dX9_mistakesOf_22 : decode cX9_mistakesOf 22 = .ok (.aload_n 0, 1) := by decide +kernel
theorem dX9_mistakesOf_23 : decode cX9_mistakesOf 23 = .ok (.iload_n 1, 1) := by decide +kernel
theorem dX9_mistakesOf_24 : decode cX9_mistakesOf 24 = .ok (.iload_n 3, 1) := by decide +kernel
theorem dX9_mistakesOf_25 : decode cX9_mistakesOf 25 = .ok (.iconst 1, 1) := by decide +kernel
theorem dX9_mistakesOf_26 : decode cX9_mistakesOf 26 = .ok (.invokevirtual 200, 3) := by decide +kernel
theorem dX9_mistakesOf_29 : decode cX9_mistakesOf 29 = .ok (.istore 4, 2) := by decide +kernel
theorem dX9_mistakesOf_31 : decode cX9_mistakesOf 31 = .ok (.iload 4, 2) := by decide +kernel
theorem dX9_mistakesOf_33 : decode cX9_mistakesOf 33 = .ok (.ifCond .eq 38, 3) := by decide +kernel
theorem dX9_mistakesOf_36 : decode cX9_mistakesOf 36 = .ok (.iload 4, 2) := by decide +kernel
theorem dX9_mistakesOf_38 : decode cX9_mistakesOf 38 = .ok (.iload_n 1, 1) := by decide +kernel
theorem dX9_mistakesOf_39 : decode cX9_mistakesOf 39 = .ok (.if_icmp .ne 6, 3) := by decide +kernel
theorem dX9_mistakesOf_42 : decode cX9_mistakesOf 42 = .ok (.goto 29, 3) := by decide +kernel
theorem dX9_mistakesOf_45 : decode cX9_mistakesOf 45 = .ok (.iload_n 2, 1) := by decide +kernel
theorem dX9_mistakesOf_46 : decode cX9_mistakesOf 46 = .ok (.iconst 1, 1) := by decide +kernel
theorem dX9_mistakesOf_47 : decode cX9_mistakesOf 47 = .ok (.aload_n 0, 1) := by decide +kernel
theorem dX9_mistakesOf_48 : decode cX9_mistakesOf 48 = .ok (.iload 4, 2) := by decide +kernel
theorem dX9_mistakesOf_50 : decode cX9_mistakesOf 50 = .ok (.invokevirtual 207, 3) := by decide +kernel
theorem dX9_mistakesOf_53 : decode cX9_mistakesOf 53 = .ok (.aload_n 0, 1) := by decide +kernel
theorem dX9_mistakesOf_54 : decode cX9_mistakesOf 54 = .ok (.iload_n 1, 1) := by decide +kernel
theorem dX9_mistakesOf_55 : decode cX9_mistakesOf 55 = .ok (.iload 4, 2) := by decide +kernel
theorem dX9_mistakesOf_57 : decode cX9_mistakesOf 57 = .ok (.iconst (-1), 1) := by decide +kernel
theorem dX9_mistakesOf_58 : decode cX9_mistakesOf 58 = .ok (.ixor, 1) := by decide +kernel
theorem dX9_mistakesOf_59 : decode cX9_mistakesOf 59 = .ok (.iand, 1) := by decide +kernel
theorem dX9_mistakesOf_60 : decode cX9_mistakesOf 60 = .ok (.invokevirtual 207, 3) := by decide +kernel
theorem dX9_mistakesOf_63 : decode cX9_mistakesOf 63 = .ok (.invokestatic 185, 3) := by decide +kernel
theorem dX9_mistakesOf_66 : decode cX9_mistakesOf 66 = .ok (.iadd, 1) := by decide +kernel
theorem dX9_mistakesOf_67 : decode cX9_mistakesOf 67 = .ok (.invokestatic 173, 3) := by decide +kernel
theorem dX9_mistakesOf_70 : decode cX9_mistakesOf 70 = .ok (.istore_n 2, 1) := by decide +kernel
theorem dX9_mistakesOf_71 : decode cX9_mistakesOf 71 = .ok (.iinc 3 1, 3) := by decide +kernel
theorem dX9_mistakesOf_74 : decode cX9_mistakesOf 74 = .ok (.goto (-60), 3) := by decide +kernel
theorem dX9_mistakesOf_77 : decode cX9_mistakesOf 77 = .ok (.iload_n 2, 1) := by decide +kernel
theorem dX9_mistakesOf_78 : decode cX9_mistakesOf 78 = .ok (.ireturn, 1) := by decide +kernel
set_option maxRecDepth 20000 in
theorem ggX9_mistakes_Jx4a65c_size_8abf5 : GoodIn wsX9_mistakes wsJx4a65c_size_8abf5 := goodIn_r _ [7, 8, 71, 72, 73] (by decide +kernel) (by decide +kernel)
set_option maxRecDepth 20000 in
theorem gX9_mistakes_Jx4a65c_size_8abf5_f50Jx4a65c : GoodIn wsX9_mistakes (va_wsF RX9 50 RJx4a65c ⟨"java/util/List", "size", "()I"⟩ yJx4a65c_size_8abf5 wsJx4a65c_size_8abf5) := goodIn_app (goodIn_of _ (by decide +kernel)) ggX9_mistakes_Jx4a65c_size_8abf5
set_option maxRecDepth 20000 in
theorem ggX9_mistakes_X9_mistakesOf : GoodIn wsX9_mistakes wsX9_mistakesOf := goodIn_r _ [13, 14, 15, 16, 17, 18, 19, 20, 21, 22, 23, 24, 25, 26, 27, 28, 29, 30, 31, 12, 32, 2, 33, 3, 4, 5, 6, 7, 8, 34, 35, 36, 37, 38, 39, 40, 41, 42, 43, 44, 45, 46, 47, 48, 49, 50, 51, 52, 53, 9, 10, 11, 54, 55, 56, 57, 58, 59, 60, 61, 62, 63, 64, 65, 66, 67, 68, 69, 70, 71, 72, 73] (by decide +kernel) (by decide +kernel)
set_option maxRecDepth 20000 in
theorem gX9_mistakes_X9_mistakesOf : GoodIn wsX9_mistakes (wsV RX9 207 RX9 yX9_mistakesOf wsX9_mistakesOf) := goodIn_app (goodIn_of _ (by decide +kernel)) ggX9_mistakes_X9_mistakesOf
theorem dX9_mistakes_0 : decode cX9_mistakes 0 = .ok (.aload_n 0, 1) := by decide +kernel
theorem dX9_mistakes_1 : decode cX9_mistakes 1 = .ok (.iconst 0, 1) := by decide +kernel
theorem dX9_mistakes_2 : decode cX9_mistakes 2 = .ok (.putfield 47, 3) := by decide +kernel
theorem dX9_mistakes_5 : decode cX9_mistakes 5 = .ok (.aload_n 0, 1) := by decide +kernel
theorem dX9_mistakes_6 : decode cX9_mistakes 6 = .ok (.iconst 1, 1) := by decide +kernel
theorem dX9_mistakes_7 : decode cX9_mistakes 7 = .ok (.aload_n 0, 1) := by decide +kernel
theorem dX9_mistakes_8 : decode cX9_mistakes 8 = .ok (.getfield 10, 3) := by decide +kernel
theorem dX9_mistakes_11 : decode cX9_mistakes 11 = .ok (.invokeinterface 50 1, 5) := by decide +kernel
theorem dX9_mistakes_16 : decode cX9_mistakes 16 = .ok (.ishl, 1) := by decide +kernel
theorem dX9_mistakes_17 : decode cX9_mistakes 17 = .ok (.iconst 1, 1) := by decide +kernel
theorem dX9_mistakes_18 : decode cX9_mistakes 18 = .ok (.isub, 1) := by decide +kernel
theorem dX9_mistakes_19 : decode cX9_mistakes 19 = .ok (.invokevirtual 207, 3) := by decide +kernel
theorem dX9_mistakes_22 : decode cX9_mistakes 22 = .ok (.ireturn, 1) := by decide +kernel
set_option maxRecDepth 20000 in
theorem ggX9_halver_X9_isNoConcept : GoodIn wsX9_halver wsX9_isNoConcept := goodIn_r _ [8, 1, 9, 10, 7, 11, 12, 13, 14, 15, 16, 17, 18, 19, 20, 21, 22, 54, 55, 56, 57, 58, 59, 60, 61, 62, 63, 64, 65, 66, 67, 68, 69, 70, 71, 72, 73] (by decide +kernel) (by decide +kernel)
set_option maxRecDepth 20000 in
theorem gX9_halver_X9_isNoConcept : GoodIn wsX9_halver (wsV RX9 126 RX9 yX9_isNoConcept wsX9_isNoConcept) := goodIn_app (goodIn_of _ (by decide +kernel)) ggX9_halver_X9_isNoConcept
set_option maxRecDepth 20000 in
theorem ggX9_halver_Jx4a65c_size_8abf5 : GoodIn wsX9_halver wsJx4a65c_size_8abf5 := goodIn_r _ [16, 17, 71, 72, 73] (by decide +kernel) (by decide +kernel)
set_option maxRecDepth 20000 in
theorem gX9_halver_Jx4a65c_size_8abf5_f50Jx4a65c : GoodIn wsX9_halver (va_wsF RX9 50 RJx4a65c ⟨"java/util/List", "size", "()I"⟩ yJx4a65c_size_8abf5 wsJx4a65c_size_8abf5) := goodIn_app (goodIn_of _ (by decide +kernel)) ggX9_halver_Jx4a65c_size_8abf5
set_option maxRecDepth 20000 in
theorem ggX9_halver_X9_with : GoodIn wsX9_halver wsX9_with := goodIn_r _ [26, 1, 3, 12, 13, 14, 15, 16, 17, 27, 28, 29, 30, 31, 32, 33, 34, 35, 36, 37, 38, 39, 40, 41, 42, 43, 44, 45, 7, 46, 54, 55, 56, 57, 58, 59, 60, 61, 62, 63, 64, 65, 66, 67, 68, 69, 70, 71, 72, 73] (by decide +kernel) (by decide +kernel)
set_option maxRecDepth 20000 in
theorem gX9_halver_X9_with : GoodIn wsX9_halver (wsV RX9 200 RX9 yX9_with wsX9_with) := goodIn_app (goodIn_of _ (by decide +kernel)) ggX9_halver_X9_with
set_option maxRecDepth 20000 in
theorem ggX9_halver_J6_bitCount_0f7a4 : GoodIn wsX9_halver wsJ6_bitCount_0f7a4 := goodIn_r _ [50, 51, 52, 53] (by decide +kernel) (by decide +kernel)
set_option maxRecDepth 20000 in
theorem gX9_halver_J6_bitCount_0f7a4 : GoodIn wsX9_halver (va_wsS RX9 98 yJ6_bitCount_0f7a4 wsJ6_bitCount_0f7a4) := goodIn_app (goodIn_of _ (by decide +kernel)) ggX9_halver_J6_bitCount_0f7a4
set_option maxRecDepth 20000 in
theorem ggX9_halver_Jx4a65c_get_915e3 : GoodIn wsX9_halver wsJx4a65c_get_915e3 := goodIn_r _ [30, 17, 31, 32, 33, 34, 35, 36, 37, 38, 39, 40, 41, 15, 42, 43, 71, 72, 73] (by decide +kernel) (by decide +kernel)
set_option maxRecDepth 20000 in
theorem gX9_halver_Jx4a65c_get_915e3_f129Jx4a65c : GoodIn wsX9_halver (va_wsF RX9 129 RJx4a65c ⟨"java/util/List", "get", "(I)Ljava/lang/Object;"⟩ yJx4a65c_get_915e3 wsJx4a65c_get_915e3) := goodIn_app (goodIn_of _ (by decide +kernel)) ggX9_halver_Jx4a65c_get_915e3
set_option maxRecDepth 20000 in
theorem ggX9_halver_X9_hasPoint : GoodIn wsX9_halver wsX9_hasPoint := goodIn_r _ [46] (by decide +kernel) (by decide +kernel)
set_option maxRecDepth 20000 in
theorem gX9_halver_X9_hasPoint : GoodIn wsX9_halver (va_wsS RX9 153 yX9_hasPoint wsX9_hasPoint) := goodIn_app (goodIn_of _ (by decide +kernel)) ggX9_halver_X9_hasPoint
theorem dX9_halver_0 : decode cX9_halver 0 = .ok (.aload_n 0, 1) := by decide +kernel
theorem dX9_halver_1 : decode cX9_halver 1 = .ok (.iload_n 1, 1) := by decide +kernel
theorem dX9_halver_2 : decode cX9_halver 2 = .ok (.invokevirtual 126, 3) := by decide +kernel
theorem dX9_halver_5 : decode cX9_halver 5 = .ok (.ifCond .eq 5, 3) := by decide +kernel
theorem dX9_halver_8 : decode cX9_halver 8 = .ok (.iconst 0, 1) := by decide +kernel
theorem dX9_halver_9 : decode cX9_halver 9 = .ok (.ireturn, 1) := by decide +kernel
theorem dX9_halver_10 : decode cX9_halver 10 = .ok (.iconst 1, 1) := by decide +kernel
theorem dX9_halver_11 : decode cX9_halver 11 = .ok (.aload_n 0, 1) := by decide +kernel
theorem dX9_halver_12 : decode cX9_halver 12 = .ok (.getfield 10, 3) := by decide +kernel
theorem dX9_halver_15 : decode cX9_halver 15 = .ok (.invokeinterface 50 1, 5) := by decide +kernel
theorem dX9_halver_20 : decode cX9_halver 20 = .ok (.ishl, 1) := by decide +kernel
theorem dX9_halver_21 : decode cX9_halver 21 = .ok (.iconst 1, 1) := by decide +kernel
theorem dX9_halver_22 : decode cX9_halver 22 = .ok (.isub, 1) := by decide +kernel
theorem dX9_halver_23 : decode cX9_halver 23 = .ok (.istore_n 2, 1) := by decide +kernel
theorem dX9_halver_24 : decode cX9_halver 24 = .ok (.iconst 0, 1) := by decide +kernel
theorem dX9_halver_25 : decode cX9_halver 25 = .ok (.istore_n 3, 1) := by decide +kernel
theorem dX9_halver_26 : decode cX9_halver 26 = .ok (.iconst 0, 1) := by decide +kernel
theorem dX9_halver_27 : decode cX9_halver 27 = .ok (.istore 4, 2) := by decide +kernel
theorem dX9_halver_29 : decode cX9_halver 29 = .ok (.iload 4, 2) := by decide +kernel
theorem dX9_halver_31 : decode cX9_halver 31 = .ok (.aload_n 0, 1) := by decide +kernel
theorem dX9_halver_32 : decode cX9_halver 32 = .ok (.getfield 16, 3) := by decide +kernel
theorem dX9_halver_35 : decode cX9_halver 35 = .ok (.if_icmp .ge 94, 3) := by decide +kernel
theorem dX9_halver_38 : decode cX9_halver 38 = .ok (.aload_n 0, 1) := by decide +kernel
theorem dX9_halver_39 : decode cX9_halver 39 = .ok (.iload_n 2, 1) := by decide +kernel
theorem dX9_halver_40 : decode cX9_halver 40 = .ok (.iload 4, 2) := by decide +kernel
theorem dX9_halver_42 : decode cX9_halver 42 = .ok (.iconst 1, 1) := by decide +kernel
theorem dX9_halver_43 : decode cX9_halver 43 = .ok (.invokevirtual 200, 3) := by decide +kernel
theorem dX9_halver_46 : decode cX9_halver 46 = .ok (.istore 5, 2) := by decide +kernel
theorem dX9_halver_48 : decode cX9_halver 48 = .ok (.iconst 2, 1) := by decide +kernel
theorem dX9_halver_49 : decode cX9_halver 49 = .ok (.iload 5, 2) := by decide +kernel
theorem dX9_halver_51 : decode cX9_halver 51 = .ok (.invokestatic 98, 3) := by decide +kernel
theorem dX9_halver_54 : decode cX9_halver 54 = .ok (.imul, 1) := by decide +kernel
theorem dX9_halver_55 : decode cX9_halver 55 = .ok (.iload_n 2, 1) := by decide +kernel
theorem dX9_halver_56 : decode cX9_halver 56 = .ok (.invokestatic 98, 3) := by decide +kernel
theorem dX9_halver_59 : decode cX9_halver 59 = .ok (.if_icmp .lt 7, 3) := by decide +kernel
theorem dX9_halver_62 : decode cX9_halver 62 = .ok (.iconst 1, 1) := by decide +kernel
theorem dX9_halver_63 : decode cX9_halver 63 = .ok (.goto 4, 3) := by decide +kernel
theorem dX9_halver_66 : decode cX9_halver 66 = .ok (.iconst 0, 1) := by decide +kernel
theorem dX9_halver_67 : decode cX9_halver 67 = .ok (.istore 6, 2) := by decide +kernel
theorem dX9_halver_69 : decode cX9_halver 69 = .ok (.aload_n 0, 1) := by decide +kernel
theorem dX9_halver_70 : decode cX9_halver 70 = .ok (.getfield 10, 3) := by decide +kernel
theorem dX9_halver_73 : decode cX9_halver 73 = .ok (.iload_n 1, 1) := by decide +kernel
theorem dX9_halver_74 : decode cX9_halver 74 = .ok (.invokeinterface 129 2, 5) := by decide +kernel
theorem dX9_halver_79 : decode cX9_halver 79 = .ok (.checkcast 86, 3) := by decide +kernel
theorem dX9_halver_82 : decode cX9_halver 82 = .ok (.iconst 0, 1) := by decide +kernel
theorem dX9_halver_83 : decode cX9_halver 83 = .ok (.iaload, 1) := by decide +kernel
theorem dX9_halver_84 : decode cX9_halver 84 = .ok (.iload 4, 2) := by decide +kernel
theorem dX9_halver_86 : decode cX9_halver 86 = .ok (.invokestatic 153, 3) := by decide +kernel
theorem dX9_halver_89 : decode cX9_halver 89 = .ok (.istore 7, 2) := by decide +kernel
theorem dX9_halver_91 : decode cX9_halver 91 = .ok (.iload_n 3, 1) := by decide +kernel
theorem dX9_halver_92 : decode cX9_halver 92 = .ok (.iload 6, 2) := by decide +kernel
theorem dX9_halver_94 : decode cX9_halver 94 = .ok (.iload 7, 2) := by decide +kernel
theorem dX9_halver_96 : decode cX9_halver 96 = .ok (.if_icmp .ne 7, 3) := by decide +kernel
theorem dX9_halver_99 : decode cX9_halver 99 = .ok (.iconst 0, 1) := by decide +kernel
theorem dX9_halver_100 : decode cX9_halver 100 = .ok (.goto 4, 3) := by decide +kernel
theorem dX9_halver_103 : decode cX9_halver 103 = .ok (.iconst 1, 1) := by decide +kernel
theorem dX9_halver_104 : decode cX9_halver 104 = .ok (.iadd, 1) := by decide +kernel
theorem dX9_halver_105 : decode cX9_halver 105 = .ok (.istore_n 3, 1) := by decide +kernel
theorem dX9_halver_106 : decode cX9_halver 106 = .ok (.iload 7, 2) := by decide +kernel
theorem dX9_halver_108 : decode cX9_halver 108 = .ok (.ifCond .eq 8, 3) := by decide +kernel
theorem dX9_halver_111 : decode cX9_halver 111 = .ok (.iload 5, 2) := by decide +kernel
theorem dX9_halver_113 : decode cX9_halver 113 = .ok (.goto 9, 3) := by decide +kernel
theorem dX9_halver_116 : decode cX9_halver 116 = .ok (.iload_n 2, 1) := by decide +kernel
theorem dX9_halver_117 : decode cX9_halver 117 = .ok (.iload 5, 2) := by decide +kernel
theorem dX9_halver_119 : decode cX9_halver 119 = .ok (.iconst (-1), 1) := by decide +kernel
theorem dX9_halver_120 : decode cX9_halver 120 = .ok (.ixor, 1) := by decide +kernel
theorem dX9_halver_121 : decode cX9_halver 121 = .ok (.iand, 1) := by decide +kernel
theorem dX9_halver_122 : decode cX9_halver 122 = .ok (.istore_n 2, 1) := by decide +kernel
theorem dX9_halver_123 : decode cX9_halver 123 = .ok (.iinc 4 1, 3) := by decide +kernel
theorem dX9_halver_126 : decode cX9_halver 126 = .ok (.goto (-97), 3) := by decide +kernel
theorem dX9_halver_129 : decode cX9_halver 129 = .ok (.iload_n 3, 1) := by decide +kernel
theorem dX9_halver_130 : decode cX9_halver 130 = .ok (.ireturn, 1) := by decide +kernel
set_option maxRecDepth 20000 in
theorem ggX9_experts_X9_isBetween : GoodIn wsX9_experts wsX9_isBetween := goodIn_r _ [8] (by decide +kernel) (by decide +kernel)
set_option maxRecDepth 20000 in
theorem gX9_experts_X9_isBetween : GoodIn wsX9_experts (va_wsS RX9 56 yX9_isBetween wsX9_isBetween) := goodIn_app (goodIn_of _ (by decide +kernel)) ggX9_experts_X9_isBetween
set_option maxRecDepth 20000 in
theorem ggX9_experts_X9_isWrong : GoodIn wsX9_experts wsX9_isWrong := goodIn_r _ [12, 13, 78, 79, 80, 81, 82, 83, 84, 85, 86, 87, 88, 89, 90, 91, 92, 93, 94] (by decide +kernel) (by decide +kernel)
set_option maxRecDepth 20000 in
theorem gX9_experts_X9_isWrong : GoodIn wsX9_experts (wsV RX9 62 RX9 yX9_isWrong wsX9_isWrong) := goodIn_app (goodIn_of _ (by decide +kernel)) ggX9_experts_X9_isWrong
set_option maxRecDepth 20000 in
theorem ggX9_experts_Jx4a65c_size_8abf5 : GoodIn wsX9_experts wsJx4a65c_size_8abf5 := goodIn_r _ [18, 19, 95, 96, 97] (by decide +kernel) (by decide +kernel)
set_option maxRecDepth 20000 in
theorem gX9_experts_Jx4a65c_size_8abf5_f50Jx4a65c : GoodIn wsX9_experts (va_wsF RX9 50 RJx4a65c ⟨"java/util/List", "size", "()I"⟩ yJx4a65c_size_8abf5 wsJx4a65c_size_8abf5) := goodIn_app (goodIn_of _ (by decide +kernel)) ggX9_experts_Jx4a65c_size_8abf5
set_option maxRecDepth 20000 in
theorem ggX9_experts_Jx4a65c_clear_da8c8 : GoodIn wsX9_experts wsJx4a65c_clear_da8c8 := goodIn_r _ [23, 24, 25, 26, 19, 95, 96, 97] (by decide +kernel) (by decide +kernel)
set_option maxRecDepth 20000 in
theorem gX9_experts_Jx4a65c_clear_da8c8_f66Jx4a65c : GoodIn wsX9_experts (va_wsF RX9 66 RJx4a65c ⟨"java/util/List", "clear", "()V"⟩ yJx4a65c_clear_da8c8 wsJx4a65c_clear_da8c8) := goodIn_app (goodIn_of _ (by decide +kernel)) ggX9_experts_Jx4a65c_clear_da8c8
set_option maxRecDepth 20000 in
theorem ggX9_experts_Jx4a65c_add_9ea2d : GoodIn wsX9_experts wsJx4a65c_add_9ea2d := goodIn_r _ [30, 24, 25, 26, 19, 31, 32, 33, 17, 34, 35, 36, 37, 38, 39, 40, 41, 42, 43, 44, 45, 46, 47, 48, 49, 50, 51, 52, 53, 54, 55, 56, 57, 58, 59, 60, 61, 62, 63, 64, 65, 66, 67, 68, 69, 70, 71, 72, 73, 74, 75, 76, 77, 95, 96, 97] (by decide +kernel) (by decide +kernel)
set_option maxRecDepth 20000 in
theorem gX9_experts_Jx4a65c_add_9ea2d_f94Jx4a65c : GoodIn wsX9_experts (va_wsF RX9 94 RJx4a65c ⟨"java/util/List", "add", "(Ljava/lang/Object;)Z"⟩ yJx4a65c_add_9ea2d wsJx4a65c_add_9ea2d) := goodIn_app (goodIn_of _ (by decide +kernel)) ggX9_experts_Jx4a65c_add_9ea2d
theorem dX9_experts_0 : decode cX9_experts 0 = .ok (.aload_n 0, 1) := by decide +kernel
theorem dX9_experts_1 : decode cX9_experts 1 = .ok (.iload_n 1, 1) := by decide +kernel
theorem dX9_experts_2 : decode cX9_experts 2 = .ok (.i2l, 1) := by decide +kernel
theorem dX9_experts_3 : decode cX9_experts 3 = .ok (.lconst 1, 1) := by decide +kernel
theorem dX9_experts_4 : decode cX9_experts 4 = .ok (.ldc2_w 60, 3) := by decide +kernel
theorem dX9_experts_7 : decode cX9_experts 7 = .ok (.invokestatic 56, 3) := by decide +kernel
theorem dX9_experts_10 : decode cX9_experts 10 = .ok (.ifCond .eq 7, 3) := by decide +kernel
theorem dX9_experts_13 : decode cX9_experts 13 = .ok (.iconst 0, 1) := by decide +kernel
theorem dX9_experts_14 : decode cX9_experts 14 = .ok (.goto 4, 3) := by decide +kernel
theorem dX9_experts_17 : decode cX9_experts 17 = .ok (.iconst 1, 1) := by decide +kernel
theorem dX9_experts_18 : decode cX9_experts 18 = .ok (.invokevirtual 62, 3) := by decide +kernel
theorem dX9_experts_21 : decode cX9_experts 21 = .ok (.ifCond .eq 5, 3) := by decide +kernel
theorem dX9_experts_24 : decode cX9_experts 24 = .ok (.iconst 0, 1) := by decide +kernel
theorem dX9_experts_25 : decode cX9_experts 25 = .ok (.ireturn, 1) := by decide +kernel
theorem dX9_experts_26 : decode cX9_experts 26 = .ok (.aload_n 0, 1) := by decide +kernel
theorem dX9_experts_27 : decode cX9_experts 27 = .ok (.getfield 27, 3) := by decide +kernel
theorem dX9_experts_30 : decode cX9_experts 30 = .ok (.invokeinterface 50 1, 5) := by decide +kernel
theorem dX9_experts_35 : decode cX9_experts 35 = .ok (.istore_n 2, 1) := by decide +kernel
theorem dX9_experts_36 : decode cX9_experts 36 = .ok (.aload_n 0, 1) := by decide +kernel
theorem dX9_experts_37 : decode cX9_experts 37 = .ok (.getfield 27, 3) := by decide +kernel
theorem dX9_experts_40 : decode cX9_experts 40 = .ok (.invokeinterface 66 1, 5) := by decide +kernel
theorem dX9_experts_45 : decode cX9_experts 45 = .ok (.aload_n 0, 1) := by decide +kernel
theorem dX9_experts_46 : decode cX9_experts 46 = .ok (.iconst 0, 1) := by decide +kernel
theorem dX9_experts_47 : decode cX9_experts 47 = .ok (.putfield 210, 3) := by decide +kernel
theorem dX9_experts_50 : decode cX9_experts 50 = .ok (.iconst 0, 1) := by decide +kernel
theorem dX9_experts_51 : decode cX9_experts 51 = .ok (.istore_n 3, 1) := by decide +kernel
theorem dX9_experts_52 : decode cX9_experts 52 = .ok (.iload_n 3, 1) := by decide +kernel
theorem dX9_experts_53 : decode cX9_experts 53 = .ok (.iload_n 1, 1) := by decide +kernel
theorem dX9_experts_54 : decode cX9_experts 54 = .ok (.if_icmp .ge 32, 3) := by decide +kernel
theorem dX9_experts_57 : decode cX9_experts 57 = .ok (.aload_n 0, 1) := by decide +kernel
theorem dX9_experts_58 : decode cX9_experts 58 = .ok (.getfield 27, 3) := by decide +kernel
theorem dX9_experts_61 : decode cX9_experts 61 = .ok (.iconst 2, 1) := by decide +kernel
theorem dX9_experts_62 : decode cX9_experts 62 = .ok (.newarray .int, 2) := by decide +kernel
theorem dX9_experts_64 : decode cX9_experts 64 = .ok (.dup, 1) := by decide +kernel
theorem dX9_experts_65 : decode cX9_experts 65 = .ok (.iconst 0, 1) := by decide +kernel
theorem dX9_experts_66 : decode cX9_experts 66 = .ok (.sipush 1024, 3) := by decide +kernel
theorem dX9_experts_69 : decode cX9_experts 69 = .ok (.iastore, 1) := by decide +kernel
theorem dX9_experts_70 : decode cX9_experts 70 = .ok (.dup, 1) := by decide +kernel
theorem dX9_experts_71 : decode cX9_experts 71 = .ok (.iconst 1, 1) := by decide +kernel
theorem dX9_experts_72 : decode cX9_experts 72 = .ok (.iconst 0, 1) := by decide +kernel
theorem dX9_experts_73 : decode cX9_experts 73 = .ok (.iastore, 1) := by decide +kernel
theorem dX9_experts_74 : decode cX9_experts 74 = .ok (.invokeinterface 94 2, 5) := by decide +kernel
theorem dX9_experts_79 : decode cX9_experts 79 = .ok (.pop, 1) := by decide +kernel
theorem dX9_experts_80 : decode cX9_experts 80 = .ok (.iinc 3 1, 3) := by decide +kernel
theorem dX9_experts_83 : decode cX9_experts 83 = .ok (.goto (-31), 3) := by decide +kernel
theorem dX9_experts_86 : decode cX9_experts 86 = .ok (.iload_n 2, 1) := by decide +kernel
theorem dX9_experts_87 : decode cX9_experts 87 = .ok (.ireturn, 1) := by decide +kernel
set_option maxRecDepth 20000 in
theorem ggX9_round_Jx4a65c_size_8abf5 : GoodIn wsX9_round wsJx4a65c_size_8abf5 := goodIn_r _ [12, 13, 61, 62, 63] (by decide +kernel) (by decide +kernel)
set_option maxRecDepth 20000 in
theorem gX9_round_Jx4a65c_size_8abf5_f50Jx4a65c : GoodIn wsX9_round (va_wsF RX9 50 RJx4a65c ⟨"java/util/List", "size", "()I"⟩ yJx4a65c_size_8abf5 wsJx4a65c_size_8abf5) := goodIn_app (goodIn_of _ (by decide +kernel)) ggX9_round_Jx4a65c_size_8abf5
set_option maxRecDepth 20000 in
theorem ggX9_round_Jx4a65c_isEmpty_aae02 : GoodIn wsX9_round wsJx4a65c_isEmpty_aae02 := goodIn_r _ [17, 13, 61, 62, 63] (by decide +kernel) (by decide +kernel)
set_option maxRecDepth 20000 in
theorem gX9_round_Jx4a65c_isEmpty_aae02_f135Jx4a65c : GoodIn wsX9_round (va_wsF RX9 135 RJx4a65c ⟨"java/util/List", "isEmpty", "()Z"⟩ yJx4a65c_isEmpty_aae02 wsJx4a65c_isEmpty_aae02) := goodIn_app (goodIn_of _ (by decide +kernel)) ggX9_round_Jx4a65c_isEmpty_aae02
set_option maxRecDepth 20000 in
theorem ggX9_round_X9_isWrong : GoodIn wsX9_round wsX9_isWrong := goodIn_r _ [22, 23, 44, 45, 46, 47, 48, 49, 50, 51, 52, 53, 54, 55, 56, 57, 58, 59, 60] (by decide +kernel) (by decide +kernel)
set_option maxRecDepth 20000 in
theorem gX9_round_X9_isWrong : GoodIn wsX9_round (wsV RX9 62 RX9 yX9_isWrong wsX9_isWrong) := goodIn_app (goodIn_of _ (by decide +kernel)) ggX9_round_X9_isWrong
set_option maxRecDepth 20000 in
theorem ggX9_round_X9_hasPoint : GoodIn wsX9_round wsX9_hasPoint := goodIn_r _ [26] (by decide +kernel) (by decide +kernel)
set_option maxRecDepth 20000 in
theorem gX9_round_X9_hasPoint : GoodIn wsX9_round (va_wsS RX9 153 yX9_hasPoint wsX9_hasPoint) := goodIn_app (goodIn_of _ (by decide +kernel)) ggX9_round_X9_hasPoint
set_option maxRecDepth 20000 in
theorem ggX9_round_Jx4a65c_get_915e3 : GoodIn wsX9_round wsJx4a65c_get_915e3 := goodIn_r _ [30, 13, 31, 32, 33, 34, 35, 36, 37, 38, 39, 40, 41, 11, 42, 43, 61, 62, 63] (by decide +kernel) (by decide +kernel)
set_option maxRecDepth 20000 in
theorem gX9_round_Jx4a65c_get_915e3_f129Jx4a65c : GoodIn wsX9_round (va_wsF RX9 129 RJx4a65c ⟨"java/util/List", "get", "(I)Ljava/lang/Object;"⟩ yJx4a65c_get_915e3 wsJx4a65c_get_915e3) := goodIn_app (goodIn_of _ (by decide +kernel)) ggX9_round_Jx4a65c_get_915e3
theorem dX9_round_0 : decode cX9_round 0 = .ok (.aload_n 0, 1) := by decide +kernel
theorem dX9_round_1 : decode cX9_round 1 = .ok (.iload_n 1, 1) := by decide +kernel
theorem dX9_round_2 : decode cX9_round 2 = .ok (.ifCond .lt 23, 3) := by decide +kernel
theorem dX9_round_5 : decode cX9_round 5 = .ok (.iload_n 1, 1) := by decide +kernel
theorem dX9_round_6 : decode cX9_round 6 = .ok (.bipush 64, 2) := by decide +kernel
theorem dX9_round_8 : decode cX9_round 8 = .ok (.if_icmp .ge 17, 3) := by decide +kernel
theorem dX9_round_11 : decode cX9_round 11 = .ok (.iload_n 1, 1) := by decide +kernel
theorem dX9_round_12 : decode cX9_round 12 = .ok (.aload_n 0, 1) := by decide +kernel
theorem dX9_round_13 : decode cX9_round 13 = .ok (.getfield 27, 3) := by decide +kernel
theorem dX9_round_16 : decode cX9_round 16 = .ok (.invokeinterface 50 1, 5) := by decide +kernel
theorem dX9_round_21 : decode cX9_round 21 = .ok (.ishr, 1) := by decide +kernel
theorem dX9_round_22 : decode cX9_round 22 = .ok (.ifCond .eq 7, 3) := by decide +kernel
theorem dX9_round_25 : decode cX9_round 25 = .ok (.iconst 1, 1) := by decide +kernel
theorem dX9_round_26 : decode cX9_round 26 = .ok (.goto 20, 3) := by decide +kernel
theorem dX9_round_29 : decode cX9_round 29 = .ok (.aload_n 0, 1) := by decide +kernel
theorem dX9_round_30 : decode cX9_round 30 = .ok (.getfield 27, 3) := by decide +kernel
theorem dX9_round_33 : decode cX9_round 33 = .ok (.invokeinterface 135 1, 5) := by decide +kernel
theorem dX9_round_38 : decode cX9_round 38 = .ok (.ifCond .eq 7, 3) := by decide +kernel
theorem dX9_round_41 : decode cX9_round 41 = .ok (.iconst 2, 1) := by decide +kernel
theorem dX9_round_42 : decode cX9_round 42 = .ok (.goto 4, 3) := by decide +kernel
theorem dX9_round_45 : decode cX9_round 45 = .ok (.iconst 0, 1) := by decide +kernel
theorem dX9_round_46 : decode cX9_round 46 = .ok (.invokevirtual 62, 3) := by decide +kernel
theorem dX9_round_49 : decode cX9_round 49 = .ok (.ifCond .eq 5, 3) := by decide +kernel
theorem dX9_round_52 : decode cX9_round 52 = .ok (.iconst 0, 1) := by decide +kernel
theorem dX9_round_53 : decode cX9_round 53 = .ok (.ireturn, 1) := by decide +kernel
theorem dX9_round_54 : decode cX9_round 54 = .ok (.iconst 0, 1) := by decide +kernel
theorem dX9_round_55 : decode cX9_round 55 = .ok (.istore_n 3, 1) := by decide +kernel
theorem dX9_round_56 : decode cX9_round 56 = .ok (.iconst 0, 1) := by decide +kernel
theorem dX9_round_57 : decode cX9_round 57 = .ok (.istore 4, 2) := by decide +kernel
theorem dX9_round_59 : decode cX9_round 59 = .ok (.iconst 0, 1) := by decide +kernel
theorem dX9_round_60 : decode cX9_round 60 = .ok (.istore 5, 2) := by decide +kernel
theorem dX9_round_62 : decode cX9_round 62 = .ok (.iload 5, 2) := by decide +kernel
theorem dX9_round_64 : decode cX9_round 64 = .ok (.aload_n 0, 1) := by decide +kernel
theorem dX9_round_65 : decode cX9_round 65 = .ok (.getfield 27, 3) := by decide +kernel
theorem dX9_round_68 : decode cX9_round 68 = .ok (.invokeinterface 50 1, 5) := by decide +kernel
theorem dX9_round_73 : decode cX9_round 73 = .ok (.if_icmp .ge 75, 3) := by decide +kernel
theorem dX9_round_76 : decode cX9_round 76 = .ok (.iload_n 3, 1) := by decide +kernel
theorem dX9_round_77 : decode cX9_round 77 = .ok (.iload_n 1, 1) := by decide +kernel
theorem dX9_round_78 : decode cX9_round 78 = .ok (.iload 5, 2) := by decide +kernel
theorem dX9_round_80 : decode cX9_round 80 = .ok (.invokestatic 153, 3) := by decide +kernel
theorem dX9_round_83 : decode cX9_round 83 = .ok (.ifCond .eq 22, 3) := by decide +kernel
theorem dX9_round_86 : decode cX9_round 86 = .ok (.aload_n 0, 1) := by decide +kernel
theorem dX9_round_87 : decode cX9_round 87 = .ok (.getfield 27, 3) := by decide +kernel
theorem dX9_round_90 : decode cX9_round 90 = .ok (.iload 5, 2) := by decide +kernel
theorem dX9_round_92 : decode cX9_round 92 = .ok (.invokeinterface 129 2, 5) := by decide +kernel
theorem dX9_round_97 : decode cX9_round 97 = .ok (.checkcast 86, 3) := by decide +kernel
theorem dX9_round_100 : decode cX9_round 100 = .ok (.iconst 0, 1) := by decide +kernel
theorem dX9_round_101 : decode cX9_round 101 = .ok (.iaload, 1) := by decide +kernel
theorem dX9_round_102 : decode cX9_round 102 = .ok (.goto 4, 3) := by decide +kernel
theorem dX9_round_105 : decode cX9_round 105 = .ok (.iconst 0, 1) := by decide +kernel
theorem dX9_round_106 : decode cX9_round 106 = .ok (.iadd, 1) := by decide +kernel
theorem dX9_round_107 : decode cX9_round 107 = .ok (.istore_n 3, 1) := by decide +kernel
theorem dX9_round_108 : decode cX9_round 108 = .ok (.iload 4, 2) := by decide +kernel
theorem dX9_round_110 : decode cX9_round 110 = .ok (.iload_n 1, 1) := by decide +kernel
theorem dX9_round_111 : decode cX9_round 111 = .ok (.iload 5, 2) := by decide +kernel
theorem dX9_round_113 : decode cX9_round 113 = .ok (.invokestatic 153, 3) := by decide +kernel
theorem dX9_round_116 : decode cX9_round 116 = .ok (.ifCond .eq 7, 3) := by decide +kernel
theorem dX9_round_119 : decode cX9_round 119 = .ok (.iconst 0, 1) := by decide +kernel
theorem dX9_round_120 : decode cX9_round 120 = .ok (.goto 19, 3) := by decide +kernel
theorem dX9_round_123 : decode cX9_round 123 = .ok (.aload_n 0, 1) := by decide +kernel
theorem dX9_round_124 : decode cX9_round 124 = .ok (.getfield 27, 3) := by decide +kernel
theorem dX9_round_127 : decode cX9_round 127 = .ok (.iload 5, 2) := by decide +kernel
theorem dX9_round_129 : decode cX9_round 129 = .ok (.invokeinterface 129 2, 5) := by decide +kernel
theorem dX9_round_134 : decode cX9_round 134 = .ok (.checkcast 86, 3) := by decide +kernel
theorem dX9_round_137 : decode cX9_round 137 = .ok (.iconst 0, 1) := by decide +kernel
theorem dX9_round_138 : decode cX9_round 138 = .ok (.iaload, 1) := by decide +kernel
theorem dX9_round_139 : decode cX9_round 139 = .ok (.iadd, 1) := by decide +kernel
theorem dX9_round_140 : decode cX9_round 140 = .ok (.istore 4, 2) := by decide +kernel
theorem dX9_round_142 : decode cX9_round 142 = .ok (.iinc 5 1, 3) := by decide +kernel
theorem dX9_round_145 : decode cX9_round 145 = .ok (.goto (-83), 3) := by decide +kernel
theorem dX9_round_148 : decode cX9_round 148 = .ok (.iconst 0, 1) := by decide +kernel
theorem dX9_round_149 : decode cX9_round 149 = .ok (.istore 5, 2) := by decide +kernel
theorem dX9_round_151 : decode cX9_round 151 = .ok (.iload 5, 2) := by decide +kernel
theorem dX9_round_153 : decode cX9_round 153 = .ok (.aload_n 0, 1) := by decide +kernel
theorem dX9_round_154 : decode cX9_round 154 = .ok (.getfield 27, 3) := by decide +kernel
theorem dX9_round_157 : decode cX9_round 157 = .ok (.invokeinterface 50 1, 5) := by decide +kernel
theorem dX9_round_162 : decode cX9_round 162 = .ok (.if_icmp .ge 60, 3) := by decide +kernel
theorem dX9_round_165 : decode cX9_round 165 = .ok (.aload_n 0, 1) := by decide +kernel
theorem dX9_round_166 : decode cX9_round 166 = .ok (.getfield 27, 3) := by decide +kernel
theorem dX9_round_169 : decode cX9_round 169 = .ok (.iload 5, 2) := by decide +kernel
theorem dX9_round_171 : decode cX9_round 171 = .ok (.invokeinterface 129 2, 5) := by decide +kernel
theorem dX9_round_176 : decode cX9_round 176 = .ok (.checkcast 86, 3) := by decide +kernel
theorem dX9_round_179 : decode cX9_round 179 = .ok (.astore 6, 2) := by decide +kernel
theorem dX9_round_181 : decode cX9_round 181 = .ok (.iload_n 1, 1) := by decide +kernel
theorem dX9_round_182 : decode cX9_round 182 = .ok (.iload 5, 2) := by decide +kernel
theorem dX9_round_184 : decode cX9_round 184 = .ok (.invokestatic 153, 3) := by decide +kernel
theorem dX9_round_187 : decode cX9_round 187 = .ok (.iload_n 2, 1) := by decide +kernel
theorem dX9_round_188 : decode cX9_round 188 = .ok (.if_icmp .ne 6, 3) := by decide +kernel
theorem dX9_round_191 : decode cX9_round 191 = .ok (.goto 25, 3) := by decide +kernel
theorem dX9_round_194 : decode cX9_round 194 = .ok (.aload 6, 2) := by decide +kernel
theorem dX9_round_196 : decode cX9_round 196 = .ok (.iconst 0, 1) := by decide +kernel
theorem dX9_round_197 : decode cX9_round 197 = .ok (.iconst 1, 1) := by decide +kernel
theorem dX9_round_198 : decode cX9_round 198 = .ok (.aload 6, 2) := by decide +kernel
theorem dX9_round_200 : decode cX9_round 200 = .ok (.iconst 0, 1) := by decide +kernel
theorem dX9_round_201 : decode cX9_round 201 = .ok (.iaload, 1) := by decide +kernel
theorem dX9_round_202 : decode cX9_round 202 = .ok (.iconst 2, 1) := by decide +kernel
theorem dX9_round_203 : decode cX9_round 203 = .ok (.idiv, 1) := by decide +kernel
theorem dX9_round_204 : decode cX9_round 204 = .ok (.invokestatic 173, 3) := by decide +kernel
theorem dX9_round_207 : decode cX9_round 207 = .ok (.iastore, 1) := by decide +kernel
theorem dX9_round_208 : decode cX9_round 208 = .ok (.aload 6, 2) := by decide +kernel
theorem dX9_round_210 : decode cX9_round 210 = .ok (.iconst 1, 1) := by decide +kernel
theorem dX9_round_211 : decode cX9_round 211 = .ok (.dup2, 1) := by decide +kernel
theorem dX9_round_212 : decode cX9_round 212 = .ok (.iaload, 1) := by decide +kernel
theorem dX9_round_213 : decode cX9_round 213 = .ok (.iconst 1, 1) := by decide +kernel
theorem dX9_round_214 : decode cX9_round 214 = .ok (.iadd, 1) := by decide +kernel
theorem dX9_round_215 : decode cX9_round 215 = .ok (.iastore, 1) := by decide +kernel
theorem dX9_round_216 : decode cX9_round 216 = .ok (.iinc 5 1, 3) := by decide +kernel
theorem dX9_round_219 : decode cX9_round 219 = .ok (.goto (-68), 3) := by decide +kernel
theorem dX9_round_222 : decode cX9_round 222 = .ok (.iload_n 3, 1) := by decide +kernel
theorem dX9_round_223 : decode cX9_round 223 = .ok (.iload 4, 2) := by decide +kernel
theorem dX9_round_225 : decode cX9_round 225 = .ok (.if_icmp .lt 7, 3) := by decide +kernel
theorem dX9_round_228 : decode cX9_round 228 = .ok (.iconst 1, 1) := by decide +kernel
theorem dX9_round_229 : decode cX9_round 229 = .ok (.goto 4, 3) := by decide +kernel
theorem dX9_round_232 : decode cX9_round 232 = .ok (.iconst 0, 1) := by decide +kernel
theorem dX9_round_233 : decode cX9_round 233 = .ok (.istore 5, 2) := by decide +kernel
theorem dX9_round_235 : decode cX9_round 235 = .ok (.aload_n 0, 1) := by decide +kernel
theorem dX9_round_236 : decode cX9_round 236 = .ok (.dup, 1) := by decide +kernel
theorem dX9_round_237 : decode cX9_round 237 = .ok (.getfield 210, 3) := by decide +kernel
theorem dX9_round_240 : decode cX9_round 240 = .ok (.iload 5, 2) := by decide +kernel
theorem dX9_round_242 : decode cX9_round 242 = .ok (.iload_n 2, 1) := by decide +kernel
theorem dX9_round_243 : decode cX9_round 243 = .ok (.if_icmp .ne 7, 3) := by decide +kernel
theorem dX9_round_246 : decode cX9_round 246 = .ok (.iconst 0, 1) := by decide +kernel
theorem dX9_round_247 : decode cX9_round 247 = .ok (.goto 4, 3) := by decide +kernel
theorem dX9_round_250 : decode cX9_round 250 = .ok (.iconst 1, 1) := by decide +kernel
theorem dX9_round_251 : decode cX9_round 251 = .ok (.iadd, 1) := by decide +kernel
theorem dX9_round_252 : decode cX9_round 252 = .ok (.putfield 210, 3) := by decide +kernel
theorem dX9_round_255 : decode cX9_round 255 = .ok (.iload 5, 2) := by decide +kernel
theorem dX9_round_257 : decode cX9_round 257 = .ok (.ireturn, 1) := by decide +kernel
set_option maxRecDepth 20000 in
theorem ggX9_weight_X9_isOf : GoodIn wsX9_weight wsX9_isOf := goodIn_r _ [6, 7, 8, 9, 10, 11, 12, 52, 53, 54] (by decide +kernel) (by decide +kernel)
set_option maxRecDepth 20000 in
theorem gX9_weight_X9_isOf : GoodIn wsX9_weight (va_wsS RX9 122 yX9_isOf wsX9_isOf) := goodIn_app (goodIn_of _ (by decide +kernel)) ggX9_weight_X9_isOf
set_option maxRecDepth 20000 in
theorem ggX9_weight_X9_isWrong : GoodIn wsX9_weight wsX9_isWrong := goodIn_r _ [16, 17, 35, 36, 37, 38, 39, 40, 41, 42, 43, 44, 45, 46, 47, 48, 49, 50, 51] (by decide +kernel) (by decide +kernel)
set_option maxRecDepth 20000 in
theorem gX9_weight_X9_isWrong : GoodIn wsX9_weight (wsV RX9 62 RX9 yX9_isWrong wsX9_isWrong) := goodIn_app (goodIn_of _ (by decide +kernel)) ggX9_weight_X9_isWrong
set_option maxRecDepth 20000 in
theorem ggX9_weight_Jx4a65c_get_915e3 : GoodIn wsX9_weight wsJx4a65c_get_915e3 := goodIn_r _ [21, 12, 22, 23, 24, 25, 26, 27, 28, 29, 30, 31, 32, 10, 33, 34, 52, 53, 54] (by decide +kernel) (by decide +kernel)
set_option maxRecDepth 20000 in
theorem gX9_weight_Jx4a65c_get_915e3_f129Jx4a65c : GoodIn wsX9_weight (va_wsF RX9 129 RJx4a65c ⟨"java/util/List", "get", "(I)Ljava/lang/Object;"⟩ yJx4a65c_get_915e3 wsJx4a65c_get_915e3) := goodIn_app (goodIn_of _ (by decide +kernel)) ggX9_weight_Jx4a65c_get_915e3
theorem dX9_weight_0 : decode cX9_weight 0 = .ok (.aload_n 0, 1) := by decide +kernel
theorem dX9_weight_1 : decode cX9_weight 1 = .ok (.aload_n 0, 1) := by decide +kernel
theorem dX9_weight_2 : decode cX9_weight 2 = .ok (.getfield 27, 3) := by decide +kernel
theorem dX9_weight_5 : decode cX9_weight 5 = .ok (.iload_n 1, 1) := by decide +kernel
theorem dX9_weight_6 : decode cX9_weight 6 = .ok (.invokestatic 122, 3) := by decide +kernel
theorem dX9_weight_9 : decode cX9_weight 9 = .ok (.ifCond .eq 7, 3) := by decide +kernel
theorem dX9_weight_12 : decode cX9_weight 12 = .ok (.iconst 0, 1) := by decide +kernel
theorem dX9_weight_13 : decode cX9_weight 13 = .ok (.goto 4, 3) := by decide +kernel
theorem dX9_weight_16 : decode cX9_weight 16 = .ok (.iconst 1, 1) := by decide +kernel
theorem dX9_weight_17 : decode cX9_weight 17 = .ok (.invokevirtual 62, 3) := by decide +kernel
theorem dX9_weight_20 : decode cX9_weight 20 = .ok (.ifCond .eq 7, 3) := by decide +kernel
theorem dX9_weight_23 : decode cX9_weight 23 = .ok (.iconst 0, 1) := by decide +kernel
theorem dX9_weight_24 : decode cX9_weight 24 = .ok (.goto 18, 3) := by decide +kernel
theorem dX9_weight_27 : decode cX9_weight 27 = .ok (.aload_n 0, 1) := by decide +kernel
theorem dX9_weight_28 : decode cX9_weight 28 = .ok (.getfield 27, 3) := by decide +kernel
theorem dX9_weight_31 : decode cX9_weight 31 = .ok (.iload_n 1, 1) := by decide +kernel
theorem dX9_weight_32 : decode cX9_weight 32 = .ok (.invokeinterface 129 2, 5) := by decide +kernel
theorem dX9_weight_37 : decode cX9_weight 37 = .ok (.checkcast 86, 3) := by decide +kernel
theorem dX9_weight_40 : decode cX9_weight 40 = .ok (.iconst 0, 1) := by decide +kernel
theorem dX9_weight_41 : decode cX9_weight 41 = .ok (.iaload, 1) := by decide +kernel
theorem dX9_weight_42 : decode cX9_weight 42 = .ok (.ireturn, 1) := by decide +kernel
set_option maxRecDepth 20000 in
theorem ggX9_regret_Jx4a65c_iterator_32c93 : GoodIn wsX9_regret wsJx4a65c_iterator_32c93 := goodIn_r _ [13, 14, 15, 16, 17, 18, 19, 20, 21, 22, 23, 24, 25, 26, 27, 70, 71, 72, 73, 74, 75, 76] (by decide +kernel) (by decide +kernel)
set_option maxRecDepth 20000 in
theorem gX9_regret_Jx4a65c_iterator_32c93_f72Jx4a65c : GoodIn wsX9_regret (va_wsF RX9 72 RJx4a65c ⟨"java/util/List", "iterator", "()Ljava/util/Iterator;"⟩ yJx4a65c_iterator_32c93 wsJx4a65c_iterator_32c93) := goodIn_app (goodIn_of _ (by decide +kernel)) ggX9_regret_Jx4a65c_iterator_32c93
set_option maxRecDepth 20000 in
theorem ggX9_regret_Jx35411_hasNext_aae02 : GoodIn wsX9_regret wsJx35411_hasNext_aae02 := goodIn_r _ [31, 32, 20, 70, 71, 72, 73, 74, 75, 76] (by decide +kernel) (by decide +kernel)
set_option maxRecDepth 20000 in
theorem gX9_regret_Jx35411_hasNext_aae02_f76Jx35411 : GoodIn wsX9_regret (va_wsF RX9 76 RJx35411 ⟨"java/util/Iterator", "hasNext", "()Z"⟩ yJx35411_hasNext_aae02 wsJx35411_hasNext_aae02) := goodIn_app (goodIn_of _ (by decide +kernel)) ggX9_regret_Jx35411_hasNext_aae02
set_option maxRecDepth 20000 in
theorem ggX9_regret_Jx35411_next_0502b : GoodIn wsX9_regret wsJx35411_next_0502b := goodIn_r _ [36, 32, 20, 37, 24, 38, 39, 40, 16, 41, 25, 26, 27, 70, 71, 72, 73, 74, 75, 76] (by decide +kernel) (by decide +kernel)
set_option maxRecDepth 20000 in
theorem gX9_regret_Jx35411_next_0502b_f82Jx35411 : GoodIn wsX9_regret (va_wsF RX9 82 RJx35411 ⟨"java/util/Iterator", "next", "()Ljava/lang/Object;"⟩ yJx35411_next_0502b wsJx35411_next_0502b) := goodIn_app (goodIn_of _ (by decide +kernel)) ggX9_regret_Jx35411_next_0502b
set_option maxRecDepth 20000 in
theorem ggX9_regret_Jx4a65c_isEmpty_aae02 : GoodIn wsX9_regret wsJx4a65c_isEmpty_aae02 := goodIn_r _ [45, 46, 74, 75, 76] (by decide +kernel) (by decide +kernel)
set_option maxRecDepth 20000 in
theorem gX9_regret_Jx4a65c_isEmpty_aae02_f135Jx4a65c : GoodIn wsX9_regret (va_wsF RX9 135 RJx4a65c ⟨"java/util/List", "isEmpty", "()Z"⟩ yJx4a65c_isEmpty_aae02 wsJx4a65c_isEmpty_aae02) := goodIn_app (goodIn_of _ (by decide +kernel)) ggX9_regret_Jx4a65c_isEmpty_aae02
set_option maxRecDepth 20000 in
theorem ggX9_regret_X9_isWrong : GoodIn wsX9_regret wsX9_isWrong := goodIn_r _ [51, 52, 53, 54, 55, 56, 57, 58, 59, 60, 61, 62, 63, 64, 65, 66, 67, 68, 69] (by decide +kernel) (by decide +kernel)
set_option maxRecDepth 20000 in
theorem gX9_regret_X9_isWrong : GoodIn wsX9_regret (wsV RX9 62 RX9 yX9_isWrong wsX9_isWrong) := goodIn_app (goodIn_of _ (by decide +kernel)) ggX9_regret_X9_isWrong
theorem dX9_regret_0 : decode cX9_regret 0 = .ok (.ldc 213, 2) := by decide +kernel
theorem dX9_regret_2 : decode cX9_regret 2 = .ok (.istore_n 1, 1) := by decide +kernel
theorem dX9_regret_3 : decode cX9_regret 3 = .ok (.aload_n 0, 1) := by decide +kernel
theorem dX9_regret_4 : decode cX9_regret 4 = .ok (.getfield 27, 3) := by decide +kernel
theorem dX9_regret_7 : decode cX9_regret 7 = .ok (.invokeinterface 72 1, 5) := by decide +kernel
theorem dX9_regret_12 : decode cX9_regret 12 = .ok (.astore_n 2, 1) := by decide +kernel
theorem dX9_regret_13 : decode cX9_regret 13 = .ok (.aload_n 2, 1) := by decide +kernel
theorem dX9_regret_14 : decode cX9_regret 14 = .ok (.invokeinterface 76 1, 5) := by decide +kernel
theorem dX9_regret_19 : decode cX9_regret 19 = .ok (.ifCond .eq 24, 3) := by decide +kernel
theorem dX9_regret_22 : decode cX9_regret 22 = .ok (.aload_n 2, 1) := by decide +kernel
theorem dX9_regret_23 : decode cX9_regret 23 = .ok (.invokeinterface 82 1, 5) := by decide +kernel
theorem dX9_regret_28 : decode cX9_regret 28 = .ok (.checkcast 86, 3) := by decide +kernel
theorem dX9_regret_31 : decode cX9_regret 31 = .ok (.astore_n 3, 1) := by decide +kernel
theorem dX9_regret_32 : decode cX9_regret 32 = .ok (.iload_n 1, 1) := by decide +kernel
theorem dX9_regret_33 : decode cX9_regret 33 = .ok (.aload_n 3, 1) := by decide +kernel
theorem dX9_regret_34 : decode cX9_regret 34 = .ok (.iconst 1, 1) := by decide +kernel
theorem dX9_regret_35 : decode cX9_regret 35 = .ok (.iaload, 1) := by decide +kernel
theorem dX9_regret_36 : decode cX9_regret 36 = .ok (.invokestatic 185, 3) := by decide +kernel
theorem dX9_regret_39 : decode cX9_regret 39 = .ok (.istore_n 1, 1) := by decide +kernel
theorem dX9_regret_40 : decode cX9_regret 40 = .ok (.goto (-27), 3) := by decide +kernel
theorem dX9_regret_43 : decode cX9_regret 43 = .ok (.aload_n 0, 1) := by decide +kernel
theorem dX9_regret_44 : decode cX9_regret 44 = .ok (.aload_n 0, 1) := by decide +kernel
theorem dX9_regret_45 : decode cX9_regret 45 = .ok (.getfield 27, 3) := by decide +kernel
theorem dX9_regret_48 : decode cX9_regret 48 = .ok (.invokeinterface 135 1, 5) := by decide +kernel
theorem dX9_regret_53 : decode cX9_regret 53 = .ok (.ifCond .eq 7, 3) := by decide +kernel
theorem dX9_regret_56 : decode cX9_regret 56 = .ok (.iconst 1, 1) := by decide +kernel
theorem dX9_regret_57 : decode cX9_regret 57 = .ok (.goto 4, 3) := by decide +kernel
theorem dX9_regret_60 : decode cX9_regret 60 = .ok (.iconst 0, 1) := by decide +kernel
theorem dX9_regret_61 : decode cX9_regret 61 = .ok (.invokevirtual 62, 3) := by decide +kernel
theorem dX9_regret_64 : decode cX9_regret 64 = .ok (.ifCond .eq 7, 3) := by decide +kernel
theorem dX9_regret_67 : decode cX9_regret 67 = .ok (.iconst 0, 1) := by decide +kernel
theorem dX9_regret_68 : decode cX9_regret 68 = .ok (.goto 9, 3) := by decide +kernel
theorem dX9_regret_71 : decode cX9_regret 71 = .ok (.aload_n 0, 1) := by decide +kernel
theorem dX9_regret_72 : decode cX9_regret 72 = .ok (.getfield 210, 3) := by decide +kernel
theorem dX9_regret_75 : decode cX9_regret 75 = .ok (.iload_n 1, 1) := by decide +kernel
theorem dX9_regret_76 : decode cX9_regret 76 = .ok (.isub, 1) := by decide +kernel
theorem dX9_regret_77 : decode cX9_regret 77 = .ok (.ireturn, 1) := by decide +kernel
set_option maxRecDepth 20000 in
theorem ggX9_state_Jx4a65c_size_8abf5 : GoodIn wsX9_state wsJx4a65c_size_8abf5 := goodIn_r _ [7, 8, 86, 87, 88] (by decide +kernel) (by decide +kernel)
set_option maxRecDepth 20000 in
theorem gX9_state_Jx4a65c_size_8abf5_f50Jx4a65c : GoodIn wsX9_state (va_wsF RX9 50 RJx4a65c ⟨"java/util/List", "size", "()I"⟩ yJx4a65c_size_8abf5 wsJx4a65c_size_8abf5) := goodIn_app (goodIn_of _ (by decide +kernel)) ggX9_state_Jx4a65c_size_8abf5
set_option maxRecDepth 20000 in
theorem ggX9_state_X9_isWrong : GoodIn wsX9_state wsX9_isWrong := goodIn_r _ [13, 14, 69, 70, 71, 72, 73, 74, 75, 76, 77, 78, 79, 80, 81, 82, 83, 84, 85] (by decide +kernel) (by decide +kernel)
set_option maxRecDepth 20000 in
theorem gX9_state_X9_isWrong : GoodIn wsX9_state (wsV RX9 62 RX9 yX9_isWrong wsX9_isWrong) := goodIn_app (goodIn_of _ (by decide +kernel)) ggX9_state_X9_isWrong
set_option maxRecDepth 20000 in
theorem ggX9_state_Jx4a65c_add_9ea2d : GoodIn wsX9_state wsJx4a65c_add_9ea2d := goodIn_r _ [18, 19, 20, 21, 8, 22, 23, 24, 6, 25, 26, 27, 28, 29, 30, 31, 32, 33, 34, 35, 36, 37, 38, 39, 40, 41, 42, 43, 44, 45, 46, 47, 48, 49, 50, 51, 52, 53, 54, 55, 56, 57, 58, 59, 60, 61, 62, 63, 64, 65, 66, 67, 68, 86, 87, 88] (by decide +kernel) (by decide +kernel)
set_option maxRecDepth 20000 in
theorem gX9_state_Jx4a65c_add_9ea2d_f94Jx4a65c : GoodIn wsX9_state (va_wsF RX9 94 RJx4a65c ⟨"java/util/List", "add", "(Ljava/lang/Object;)Z"⟩ yJx4a65c_add_9ea2d wsJx4a65c_add_9ea2d) := goodIn_app (goodIn_of _ (by decide +kernel)) ggX9_state_Jx4a65c_add_9ea2d
theorem dX9_state_0 : decode cX9_state 0 = .ok (.aload_n 0, 1) := by decide +kernel
theorem dX9_state_1 : decode cX9_state 1 = .ok (.aload_n 0, 1) := by decide +kernel
theorem dX9_state_2 : decode cX9_state 2 = .ok (.getfield 30, 3) := by decide +kernel
theorem dX9_state_5 : decode cX9_state 5 = .ok (.invokeinterface 50 1, 5) := by decide +kernel
theorem dX9_state_10 : decode cX9_state 10 = .ok (.iconst 5, 1) := by decide +kernel
theorem dX9_state_11 : decode cX9_state 11 = .ok (.if_icmp .ne 7, 3) := by decide +kernel
theorem dX9_state_14 : decode cX9_state 14 = .ok (.iconst 1, 1) := by decide +kernel
theorem dX9_state_15 : decode cX9_state 15 = .ok (.goto 4, 3) := by decide +kernel
theorem dX9_state_18 : decode cX9_state 18 = .ok (.iconst 0, 1) := by decide +kernel
theorem dX9_state_19 : decode cX9_state 19 = .ok (.invokevirtual 62, 3) := by decide +kernel
theorem dX9_state_22 : decode cX9_state 22 = .ok (.ifCond .eq 5, 3) := by decide +kernel
theorem dX9_state_25 : decode cX9_state 25 = .ok (.iconst 0, 1) := by decide +kernel
theorem dX9_state_26 : decode cX9_state 26 = .ok (.ireturn, 1) := by decide +kernel
theorem dX9_state_27 : decode cX9_state 27 = .ok (.aload_n 0, 1) := by decide +kernel
theorem dX9_state_28 : decode cX9_state 28 = .ok (.getfield 30, 3) := by decide +kernel
theorem dX9_state_31 : decode cX9_state 31 = .ok (.iconst 3, 1) := by decide +kernel
theorem dX9_state_32 : decode cX9_state 32 = .ok (.newarray .int, 2) := by decide +kernel
theorem dX9_state_34 : decode cX9_state 34 = .ok (.dup, 1) := by decide +kernel
theorem dX9_state_35 : decode cX9_state 35 = .ok (.iconst 0, 1) := by decide +kernel
theorem dX9_state_36 : decode cX9_state 36 = .ok (.iload_n 1, 1) := by decide +kernel
theorem dX9_state_37 : decode cX9_state 37 = .ok (.ifCond .eq 7, 3) := by decide +kernel
theorem dX9_state_40 : decode cX9_state 40 = .ok (.iconst 1, 1) := by decide +kernel
theorem dX9_state_41 : decode cX9_state 41 = .ok (.goto 4, 3) := by decide +kernel
theorem dX9_state_44 : decode cX9_state 44 = .ok (.iconst 0, 1) := by decide +kernel
theorem dX9_state_45 : decode cX9_state 45 = .ok (.iastore, 1) := by decide +kernel
theorem dX9_state_46 : decode cX9_state 46 = .ok (.dup, 1) := by decide +kernel
theorem dX9_state_47 : decode cX9_state 47 = .ok (.iconst 1, 1) := by decide +kernel
theorem dX9_state_48 : decode cX9_state 48 = .ok (.aload_n 0, 1) := by decide +kernel
theorem dX9_state_49 : decode cX9_state 49 = .ok (.getfield 30, 3) := by decide +kernel
theorem dX9_state_52 : decode cX9_state 52 = .ok (.invokeinterface 50 1, 5) := by decide +kernel
theorem dX9_state_57 : decode cX9_state 57 = .ok (.iastore, 1) := by decide +kernel
theorem dX9_state_58 : decode cX9_state 58 = .ok (.dup, 1) := by decide +kernel
theorem dX9_state_59 : decode cX9_state 59 = .ok (.iconst 2, 1) := by decide +kernel
theorem dX9_state_60 : decode cX9_state 60 = .ok (.aload_n 0, 1) := by decide +kernel
theorem dX9_state_61 : decode cX9_state 61 = .ok (.getfield 30, 3) := by decide +kernel
theorem dX9_state_64 : decode cX9_state 64 = .ok (.invokeinterface 50 1, 5) := by decide +kernel
theorem dX9_state_69 : decode cX9_state 69 = .ok (.iastore, 1) := by decide +kernel
theorem dX9_state_70 : decode cX9_state 70 = .ok (.invokeinterface 94 2, 5) := by decide +kernel
theorem dX9_state_75 : decode cX9_state 75 = .ok (.pop, 1) := by decide +kernel
theorem dX9_state_76 : decode cX9_state 76 = .ok (.aload_n 0, 1) := by decide +kernel
theorem dX9_state_77 : decode cX9_state 77 = .ok (.getfield 30, 3) := by decide +kernel
theorem dX9_state_80 : decode cX9_state 80 = .ok (.invokeinterface 50 1, 5) := by decide +kernel
theorem dX9_state_85 : decode cX9_state 85 = .ok (.iconst 1, 1) := by decide +kernel
theorem dX9_state_86 : decode cX9_state 86 = .ok (.isub, 1) := by decide +kernel
theorem dX9_state_87 : decode cX9_state 87 = .ok (.ireturn, 1) := by decide +kernel
set_option maxRecDepth 20000 in
theorem ggX9_go_X9_isOf : GoodIn wsX9_go wsX9_isOf := goodIn_r _ [6, 7, 8, 9, 10, 11, 12, 52, 53, 54] (by decide +kernel) (by decide +kernel)
set_option maxRecDepth 20000 in
theorem gX9_go_X9_isOf : GoodIn wsX9_go (va_wsS RX9 122 yX9_isOf wsX9_isOf) := goodIn_app (goodIn_of _ (by decide +kernel)) ggX9_go_X9_isOf
set_option maxRecDepth 20000 in
theorem ggX9_go_X9_isWrong : GoodIn wsX9_go wsX9_isWrong := goodIn_r _ [16, 17, 35, 36, 37, 38, 39, 40, 41, 42, 43, 44, 45, 46, 47, 48, 49, 50, 51] (by decide +kernel) (by decide +kernel)
set_option maxRecDepth 20000 in
theorem gX9_go_X9_isWrong : GoodIn wsX9_go (wsV RX9 62 RX9 yX9_isWrong wsX9_isWrong) := goodIn_app (goodIn_of _ (by decide +kernel)) ggX9_go_X9_isWrong
set_option maxRecDepth 20000 in
theorem ggX9_go_Jx4a65c_get_915e3 : GoodIn wsX9_go wsJx4a65c_get_915e3 := goodIn_r _ [21, 12, 22, 23, 24, 25, 26, 27, 28, 29, 30, 31, 32, 10, 33, 34, 52, 53, 54] (by decide +kernel) (by decide +kernel)
set_option maxRecDepth 20000 in
theorem gX9_go_Jx4a65c_get_915e3_f129Jx4a65c : GoodIn wsX9_go (va_wsF RX9 129 RJx4a65c ⟨"java/util/List", "get", "(I)Ljava/lang/Object;"⟩ yJx4a65c_get_915e3 wsJx4a65c_get_915e3) := goodIn_app (goodIn_of _ (by decide +kernel)) ggX9_go_Jx4a65c_get_915e3
theorem dX9_go_0 : decode cX9_go 0 = .ok (.aload_n 0, 1) := by decide +kernel
theorem dX9_go_1 : decode cX9_go 1 = .ok (.aload_n 0, 1) := by decide +kernel
theorem dX9_go_2 : decode cX9_go 2 = .ok (.getfield 30, 3) := by decide +kernel
theorem dX9_go_5 : decode cX9_go 5 = .ok (.iload_n 1, 1) := by decide +kernel
theorem dX9_go_6 : decode cX9_go 6 = .ok (.invokestatic 122, 3) := by decide +kernel
theorem dX9_go_9 : decode cX9_go 9 = .ok (.ifCond .eq 14, 3) := by decide +kernel
theorem dX9_go_12 : decode cX9_go 12 = .ok (.aload_n 0, 1) := by decide +kernel
theorem dX9_go_13 : decode cX9_go 13 = .ok (.getfield 30, 3) := by decide +kernel
theorem dX9_go_16 : decode cX9_go 16 = .ok (.iload_n 3, 1) := by decide +kernel
theorem dX9_go_17 : decode cX9_go 17 = .ok (.invokestatic 122, 3) := by decide +kernel
theorem dX9_go_20 : decode cX9_go 20 = .ok (.ifCond .ne 7, 3) := by decide +kernel
theorem dX9_go_23 : decode cX9_go 23 = .ok (.iconst 1, 1) := by decide +kernel
theorem dX9_go_24 : decode cX9_go 24 = .ok (.goto 20, 3) := by decide +kernel
theorem dX9_go_27 : decode cX9_go 27 = .ok (.iload_n 2, 1) := by decide +kernel
theorem dX9_go_28 : decode cX9_go 28 = .ok (.bipush 97, 2) := by decide +kernel
theorem dX9_go_30 : decode cX9_go 30 = .ok (.if_icmp .eq 13, 3) := by decide +kernel
theorem dX9_go_33 : decode cX9_go 33 = .ok (.iload_n 2, 1) := by decide +kernel
theorem dX9_go_34 : decode cX9_go 34 = .ok (.bipush 98, 2) := by decide +kernel
theorem dX9_go_36 : decode cX9_go 36 = .ok (.if_icmp .eq 7, 3) := by decide +kernel
theorem dX9_go_39 : decode cX9_go 39 = .ok (.iconst 2, 1) := by decide +kernel
theorem dX9_go_40 : decode cX9_go 40 = .ok (.goto 4, 3) := by decide +kernel
theorem dX9_go_43 : decode cX9_go 43 = .ok (.iconst 0, 1) := by decide +kernel
theorem dX9_go_44 : decode cX9_go 44 = .ok (.invokevirtual 62, 3) := by decide +kernel
theorem dX9_go_47 : decode cX9_go 47 = .ok (.ifCond .eq 5, 3) := by decide +kernel
theorem dX9_go_50 : decode cX9_go 50 = .ok (.iconst 0, 1) := by decide +kernel
theorem dX9_go_51 : decode cX9_go 51 = .ok (.ireturn, 1) := by decide +kernel
theorem dX9_go_52 : decode cX9_go 52 = .ok (.aload_n 0, 1) := by decide +kernel
theorem dX9_go_53 : decode cX9_go 53 = .ok (.getfield 30, 3) := by decide +kernel
theorem dX9_go_56 : decode cX9_go 56 = .ok (.iload_n 1, 1) := by decide +kernel
theorem dX9_go_57 : decode cX9_go 57 = .ok (.invokeinterface 129 2, 5) := by decide +kernel
theorem dX9_go_62 : decode cX9_go 62 = .ok (.checkcast 86, 3) := by decide +kernel
theorem dX9_go_65 : decode cX9_go 65 = .ok (.iload_n 2, 1) := by decide +kernel
theorem dX9_go_66 : decode cX9_go 66 = .ok (.bipush 97, 2) := by decide +kernel
theorem dX9_go_68 : decode cX9_go 68 = .ok (.isub, 1) := by decide +kernel
theorem dX9_go_69 : decode cX9_go 69 = .ok (.iconst 1, 1) := by decide +kernel
theorem dX9_go_70 : decode cX9_go 70 = .ok (.iadd, 1) := by decide +kernel
theorem dX9_go_71 : decode cX9_go 71 = .ok (.iaload, 1) := by decide +kernel
theorem dX9_go_72 : decode cX9_go 72 = .ok (.istore 4, 2) := by decide +kernel
theorem dX9_go_74 : decode cX9_go 74 = .ok (.aload_n 0, 1) := by decide +kernel
theorem dX9_go_75 : decode cX9_go 75 = .ok (.getfield 30, 3) := by decide +kernel
theorem dX9_go_78 : decode cX9_go 78 = .ok (.iload_n 1, 1) := by decide +kernel
theorem dX9_go_79 : decode cX9_go 79 = .ok (.invokeinterface 129 2, 5) := by decide +kernel
theorem dX9_go_84 : decode cX9_go 84 = .ok (.checkcast 86, 3) := by decide +kernel
theorem dX9_go_87 : decode cX9_go 87 = .ok (.iload_n 2, 1) := by decide +kernel
theorem dX9_go_88 : decode cX9_go 88 = .ok (.bipush 97, 2) := by decide +kernel
theorem dX9_go_90 : decode cX9_go 90 = .ok (.isub, 1) := by decide +kernel
theorem dX9_go_91 : decode cX9_go 91 = .ok (.iconst 1, 1) := by decide +kernel
theorem dX9_go_92 : decode cX9_go 92 = .ok (.iadd, 1) := by decide +kernel
theorem dX9_go_93 : decode cX9_go 93 = .ok (.iload_n 3, 1) := by decide +kernel
theorem dX9_go_94 : decode cX9_go 94 = .ok (.iastore, 1) := by decide +kernel
theorem dX9_go_95 : decode cX9_go 95 = .ok (.iload 4, 2) := by decide +kernel
theorem dX9_go_97 : decode cX9_go 97 = .ok (.ireturn, 1) := by decide +kernel
set_option maxRecDepth 20000 in
theorem ggX9_isWord_X9_isBetween : GoodIn wsX9_isWord wsX9_isBetween := goodIn_r _ [5] (by decide +kernel) (by decide +kernel)
set_option maxRecDepth 20000 in
theorem gX9_isWord_X9_isBetween : GoodIn wsX9_isWord (va_wsS RX9 56 yX9_isBetween wsX9_isBetween) := goodIn_app (goodIn_of _ (by decide +kernel)) ggX9_isWord_X9_isBetween
theorem dX9_isWord_0 : decode cX9_isWord 0 = .ok (.iload_n 0, 1) := by decide +kernel
theorem dX9_isWord_1 : decode cX9_isWord 1 = .ok (.i2l, 1) := by decide +kernel
theorem dX9_isWord_2 : decode cX9_isWord 2 = .ok (.lconst 0, 1) := by decide +kernel
theorem dX9_isWord_3 : decode cX9_isWord 3 = .ok (.ldc2_w 214, 3) := by decide +kernel
theorem dX9_isWord_6 : decode cX9_isWord 6 = .ok (.invokestatic 56, 3) := by decide +kernel
theorem dX9_isWord_9 : decode cX9_isWord 9 = .ok (.ifCond .eq 22, 3) := by decide +kernel
theorem dX9_isWord_12 : decode cX9_isWord 12 = .ok (.iload_n 1, 1) := by decide +kernel
theorem dX9_isWord_13 : decode cX9_isWord 13 = .ok (.i2l, 1) := by decide +kernel
theorem dX9_isWord_14 : decode cX9_isWord 14 = .ok (.lconst 0, 1) := by decide +kernel
theorem dX9_isWord_15 : decode cX9_isWord 15 = .ok (.iconst 1, 1) := by decide +kernel
theorem dX9_isWord_16 : decode cX9_isWord 16 = .ok (.iload_n 0, 1) := by decide +kernel
theorem dX9_isWord_17 : decode cX9_isWord 17 = .ok (.ishl, 1) := by decide +kernel
theorem dX9_isWord_18 : decode cX9_isWord 18 = .ok (.iconst 1, 1) := by decide +kernel
theorem dX9_isWord_19 : decode cX9_isWord 19 = .ok (.isub, 1) := by decide +kernel
theorem dX9_isWord_20 : decode cX9_isWord 20 = .ok (.i2l, 1) := by decide +kernel
theorem dX9_isWord_21 : decode cX9_isWord 21 = .ok (.invokestatic 56, 3) := by decide +kernel
theorem dX9_isWord_24 : decode cX9_isWord 24 = .ok (.ifCond .eq 7, 3) := by decide +kernel
theorem dX9_isWord_27 : decode cX9_isWord 27 = .ok (.iconst 1, 1) := by decide +kernel
theorem dX9_isWord_28 : decode cX9_isWord 28 = .ok (.goto 4, 3) := by decide +kernel
theorem dX9_isWord_31 : decode cX9_isWord 31 = .ok (.iconst 0, 1) := by decide +kernel
theorem dX9_isWord_32 : decode cX9_isWord 32 = .ok (.ireturn, 1) := by decide +kernel
set_option maxRecDepth 20000 in
theorem ggX9_takes_Jx4a65c_get_915e3 : GoodIn wsX9_takes wsJx4a65c_get_915e3 := goodIn_r _ [7, 8, 9, 10, 11, 12, 13, 14, 15, 16, 17, 18, 19, 6, 20, 21, 39, 40, 41] (by decide +kernel) (by decide +kernel)
set_option maxRecDepth 20000 in
theorem gX9_takes_Jx4a65c_get_915e3_f129Jx4a65c : GoodIn wsX9_takes (va_wsF RX9 129 RJx4a65c ⟨"java/util/List", "get", "(I)Ljava/lang/Object;"⟩ yJx4a65c_get_915e3 wsJx4a65c_get_915e3) := goodIn_app (goodIn_of _ (by decide +kernel)) ggX9_takes_Jx4a65c_get_915e3
theorem dX9_takes_0 : decode cX9_takes 0 = .ok (.iconst 0, 1) := by decide +kernel
theorem dX9_takes_1 : decode cX9_takes 1 = .ok (.istore_n 3, 1) := by decide +kernel
theorem dX9_takes_2 : decode cX9_takes 2 = .ok (.iconst 0, 1) := by decide +kernel
theorem dX9_takes_3 : decode cX9_takes 3 = .ok (.istore 4, 2) := by decide +kernel
theorem dX9_takes_5 : decode cX9_takes 5 = .ok (.iload 4, 2) := by decide +kernel
theorem dX9_takes_7 : decode cX9_takes 7 = .ok (.iload_n 1, 1) := by decide +kernel
theorem dX9_takes_8 : decode cX9_takes 8 = .ok (.if_icmp .ge 32, 3) := by decide +kernel
theorem dX9_takes_11 : decode cX9_takes 11 = .ok (.aload_n 0, 1) := by decide +kernel
theorem dX9_takes_12 : decode cX9_takes 12 = .ok (.getfield 30, 3) := by decide +kernel
theorem dX9_takes_15 : decode cX9_takes 15 = .ok (.iload_n 3, 1) := by decide +kernel
theorem dX9_takes_16 : decode cX9_takes 16 = .ok (.invokeinterface 129 2, 5) := by decide +kernel
theorem dX9_takes_21 : decode cX9_takes 21 = .ok (.checkcast 86, 3) := by decide +kernel
theorem dX9_takes_24 : decode cX9_takes 24 = .ok (.iconst 1, 1) := by decide +kernel
theorem dX9_takes_25 : decode cX9_takes 25 = .ok (.iload_n 2, 1) := by decide +kernel
theorem dX9_takes_26 : decode cX9_takes 26 = .ok (.iload 4, 2) := by decide +kernel
theorem dX9_takes_28 : decode cX9_takes 28 = .ok (.ishr, 1) := by decide +kernel
theorem dX9_takes_29 : decode cX9_takes 29 = .ok (.iconst 1, 1) := by decide +kernel
theorem dX9_takes_30 : decode cX9_takes 30 = .ok (.iand, 1) := by decide +kernel
theorem dX9_takes_31 : decode cX9_takes 31 = .ok (.iadd, 1) := by decide +kernel
theorem dX9_takes_32 : decode cX9_takes 32 = .ok (.iaload, 1) := by decide +kernel
theorem dX9_takes_33 : decode cX9_takes 33 = .ok (.istore_n 3, 1) := by decide +kernel
theorem dX9_takes_34 : decode cX9_takes 34 = .ok (.iinc 4 1, 3) := by decide +kernel
theorem dX9_takes_37 : decode cX9_takes 37 = .ok (.goto (-32), 3) := by decide +kernel
theorem dX9_takes_40 : decode cX9_takes 40 = .ok (.aload_n 0, 1) := by decide +kernel
theorem dX9_takes_41 : decode cX9_takes 41 = .ok (.getfield 30, 3) := by decide +kernel
theorem dX9_takes_44 : decode cX9_takes 44 = .ok (.iload_n 3, 1) := by decide +kernel
theorem dX9_takes_45 : decode cX9_takes 45 = .ok (.invokeinterface 129 2, 5) := by decide +kernel
theorem dX9_takes_50 : decode cX9_takes 50 = .ok (.checkcast 86, 3) := by decide +kernel
theorem dX9_takes_53 : decode cX9_takes 53 = .ok (.iconst 0, 1) := by decide +kernel
theorem dX9_takes_54 : decode cX9_takes 54 = .ok (.iaload, 1) := by decide +kernel
theorem dX9_takes_55 : decode cX9_takes 55 = .ok (.iconst 1, 1) := by decide +kernel
theorem dX9_takes_56 : decode cX9_takes 56 = .ok (.if_icmp .ne 7, 3) := by decide +kernel
theorem dX9_takes_59 : decode cX9_takes 59 = .ok (.iconst 1, 1) := by decide +kernel
theorem dX9_takes_60 : decode cX9_takes 60 = .ok (.goto 4, 3) := by decide +kernel
theorem dX9_takes_63 : decode cX9_takes 63 = .ok (.iconst 0, 1) := by decide +kernel
theorem dX9_takes_64 : decode cX9_takes 64 = .ok (.ireturn, 1) := by decide +kernel
set_option maxRecDepth 20000 in
theorem ggX9_accepts_X9_isWord : GoodIn wsX9_accepts wsX9_isWord := goodIn_r _ [5, 6, 7, 8, 4, 9] (by decide +kernel) (by decide +kernel)
set_option maxRecDepth 20000 in
theorem gX9_accepts_X9_isWord : GoodIn wsX9_accepts (va_wsS RX9 216 yX9_isWord wsX9_isWord) := goodIn_app (goodIn_of _ (by decide +kernel)) ggX9_accepts_X9_isWord
set_option maxRecDepth 20000 in
theorem ggX9_accepts_Jx4a65c_isEmpty_aae02 : GoodIn wsX9_accepts wsJx4a65c_isEmpty_aae02 := goodIn_r _ [14, 15, 60, 61, 62] (by decide +kernel) (by decide +kernel)
set_option maxRecDepth 20000 in
theorem gX9_accepts_Jx4a65c_isEmpty_aae02_f135Jx4a65c : GoodIn wsX9_accepts (va_wsF RX9 135 RJx4a65c ⟨"java/util/List", "isEmpty", "()Z"⟩ yJx4a65c_isEmpty_aae02 wsJx4a65c_isEmpty_aae02) := goodIn_app (goodIn_of _ (by decide +kernel)) ggX9_accepts_Jx4a65c_isEmpty_aae02
set_option maxRecDepth 20000 in
theorem ggX9_accepts_X9_isWrong : GoodIn wsX9_accepts wsX9_isWrong := goodIn_r _ [19, 20, 43, 44, 45, 46, 47, 48, 49, 50, 51, 52, 53, 54, 55, 56, 57, 58, 59] (by decide +kernel) (by decide +kernel)
set_option maxRecDepth 20000 in
theorem gX9_accepts_X9_isWrong : GoodIn wsX9_accepts (wsV RX9 62 RX9 yX9_isWrong wsX9_isWrong) := goodIn_app (goodIn_of _ (by decide +kernel)) ggX9_accepts_X9_isWrong
set_option maxRecDepth 20000 in
theorem ggX9_accepts_X9_takes : GoodIn wsX9_accepts wsX9_takes := goodIn_r _ [24, 1, 25, 26, 27, 28, 13, 29, 15, 30, 31, 32, 33, 34, 35, 36, 37, 38, 39, 40, 41, 42, 43, 44, 45, 46, 47, 48, 49, 50, 51, 52, 53, 54, 55, 56, 57, 58, 59, 60, 61, 62] (by decide +kernel) (by decide +kernel)
set_option maxRecDepth 20000 in
theorem gX9_accepts_X9_takes : GoodIn wsX9_accepts (wsV RX9 219 RX9 yX9_takes wsX9_takes) := goodIn_app (goodIn_of _ (by decide +kernel)) ggX9_accepts_X9_takes
theorem dX9_accepts_0 : decode cX9_accepts 0 = .ok (.aload_n 0, 1) := by decide +kernel
theorem dX9_accepts_1 : decode cX9_accepts 1 = .ok (.iload_n 1, 1) := by decide +kernel
theorem dX9_accepts_2 : decode cX9_accepts 2 = .ok (.iload_n 2, 1) := by decide +kernel
theorem dX9_accepts_3 : decode cX9_accepts 3 = .ok (.invokestatic 216, 3) := by decide +kernel
theorem dX9_accepts_6 : decode cX9_accepts 6 = .ok (.ifCond .ne 7, 3) := by decide +kernel
theorem dX9_accepts_9 : decode cX9_accepts 9 = .ok (.iconst 1, 1) := by decide +kernel
theorem dX9_accepts_10 : decode cX9_accepts 10 = .ok (.goto 20, 3) := by decide +kernel
theorem dX9_accepts_13 : decode cX9_accepts 13 = .ok (.aload_n 0, 1) := by decide +kernel
theorem dX9_accepts_14 : decode cX9_accepts 14 = .ok (.getfield 30, 3) := by decide +kernel
theorem dX9_accepts_17 : decode cX9_accepts 17 = .ok (.invokeinterface 135 1, 5) := by decide +kernel
theorem dX9_accepts_22 : decode cX9_accepts 22 = .ok (.ifCond .eq 7, 3) := by decide +kernel
theorem dX9_accepts_25 : decode cX9_accepts 25 = .ok (.iconst 2, 1) := by decide +kernel
theorem dX9_accepts_26 : decode cX9_accepts 26 = .ok (.goto 4, 3) := by decide +kernel
theorem dX9_accepts_29 : decode cX9_accepts 29 = .ok (.iconst 0, 1) := by decide +kernel
theorem dX9_accepts_30 : decode cX9_accepts 30 = .ok (.invokevirtual 62, 3) := by decide +kernel
theorem dX9_accepts_33 : decode cX9_accepts 33 = .ok (.ifCond .ne 16, 3) := by decide +kernel
theorem dX9_accepts_36 : decode cX9_accepts 36 = .ok (.aload_n 0, 1) := by decide +kernel
theorem dX9_accepts_37 : decode cX9_accepts 37 = .ok (.iload_n 1, 1) := by decide +kernel
theorem dX9_accepts_38 : decode cX9_accepts 38 = .ok (.iload_n 2, 1) := by decide +kernel
theorem dX9_accepts_39 : decode cX9_accepts 39 = .ok (.invokevirtual 219, 3) := by decide +kernel
theorem dX9_accepts_42 : decode cX9_accepts 42 = .ok (.ifCond .eq 7, 3) := by decide +kernel
theorem dX9_accepts_45 : decode cX9_accepts 45 = .ok (.iconst 1, 1) := by decide +kernel
theorem dX9_accepts_46 : decode cX9_accepts 46 = .ok (.goto 4, 3) := by decide +kernel
theorem dX9_accepts_49 : decode cX9_accepts 49 = .ok (.iconst 0, 1) := by decide +kernel
theorem dX9_accepts_50 : decode cX9_accepts 50 = .ok (.ireturn, 1) := by decide +kernel
set_option maxRecDepth 20000 in
theorem ggX9_apartBy_Jx4a65c_size_8abf5 : GoodIn wsX9_apartBy wsJx4a65c_size_8abf5 := goodIn_r _ [9, 10, 45, 46, 47] (by decide +kernel) (by decide +kernel)
set_option maxRecDepth 20000 in
theorem gX9_apartBy_Jx4a65c_size_8abf5_f50Jx4a65c : GoodIn wsX9_apartBy (va_wsF RX9 50 RJx4a65c ⟨"java/util/List", "size", "()I"⟩ yJx4a65c_size_8abf5 wsJx4a65c_size_8abf5) := goodIn_app (goodIn_of _ (by decide +kernel)) ggX9_apartBy_Jx4a65c_size_8abf5
set_option maxRecDepth 20000 in
theorem ggX9_apartBy_Jx4a65c_get_915e3 : GoodIn wsX9_apartBy wsJx4a65c_get_915e3 := goodIn_r _ [14, 10, 15, 16, 17, 18, 19, 20, 21, 22, 23, 24, 25, 8, 26, 27, 45, 46, 47] (by decide +kernel) (by decide +kernel)
set_option maxRecDepth 20000 in
theorem gX9_apartBy_Jx4a65c_get_915e3_f129Jx4a65c : GoodIn wsX9_apartBy (va_wsF RX9 129 RJx4a65c ⟨"java/util/List", "get", "(I)Ljava/lang/Object;"⟩ yJx4a65c_get_915e3 wsJx4a65c_get_915e3) := goodIn_app (goodIn_of _ (by decide +kernel)) ggX9_apartBy_Jx4a65c_get_915e3
theorem dX9_apartBy_0 : decode cX9_apartBy 0 = .ok (.iconst 5, 1) := by decide +kernel
theorem dX9_apartBy_1 : decode cX9_apartBy 1 = .ok (.iconst 5, 1) := by decide +kernel
theorem dX9_apartBy_2 : decode cX9_apartBy 2 = .ok (.multianewarray 42 2, 4) := by decide +kernel
theorem dX9_apartBy_6 : decode cX9_apartBy 6 = .ok (.astore_n 3, 1) := by decide +kernel
theorem dX9_apartBy_7 : decode cX9_apartBy 7 = .ok (.aload_n 3, 1) := by decide +kernel
theorem dX9_apartBy_8 : decode cX9_apartBy 8 = .ok (.iload_n 1, 1) := by decide +kernel
theorem dX9_apartBy_9 : decode cX9_apartBy 9 = .ok (.aaload, 1) := by decide +kernel
theorem dX9_apartBy_10 : decode cX9_apartBy 10 = .ok (.iload_n 2, 1) := by decide +kernel
theorem dX9_apartBy_11 : decode cX9_apartBy 11 = .ok (.iconst 1, 1) := by decide +kernel
theorem dX9_apartBy_12 : decode cX9_apartBy 12 = .ok (.bastore, 1) := by decide +kernel
theorem dX9_apartBy_13 : decode cX9_apartBy 13 = .ok (.iconst 0, 1) := by decide +kernel
theorem dX9_apartBy_14 : decode cX9_apartBy 14 = .ok (.istore 4, 2) := by decide +kernel
theorem dX9_apartBy_16 : decode cX9_apartBy 16 = .ok (.iload 4, 2) := by decide +kernel
theorem dX9_apartBy_18 : decode cX9_apartBy 18 = .ok (.bipush 25, 2) := by decide +kernel
theorem dX9_apartBy_20 : decode cX9_apartBy 20 = .ok (.if_icmp .gt 171, 3) := by decide +kernel
theorem dX9_apartBy_23 : decode cX9_apartBy 23 = .ok (.iconst 5, 1) := by decide +kernel
theorem dX9_apartBy_24 : decode cX9_apartBy 24 = .ok (.iconst 5, 1) := by decide +kernel
theorem dX9_apartBy_25 : decode cX9_apartBy 25 = .ok (.multianewarray 42 2, 4) := by decide +kernel
theorem dX9_apartBy_29 : decode cX9_apartBy 29 = .ok (.astore 5, 2) := by decide +kernel
theorem dX9_apartBy_31 : decode cX9_apartBy 31 = .ok (.iconst 0, 1) := by decide +kernel
theorem dX9_apartBy_32 : decode cX9_apartBy 32 = .ok (.istore 6, 2) := by decide +kernel
theorem dX9_apartBy_34 : decode cX9_apartBy 34 = .ok (.iload 6, 2) := by decide +kernel
theorem dX9_apartBy_36 : decode cX9_apartBy 36 = .ok (.aload_n 0, 1) := by decide +kernel
theorem dX9_apartBy_37 : decode cX9_apartBy 37 = .ok (.getfield 30, 3) := by decide +kernel
theorem dX9_apartBy_40 : decode cX9_apartBy 40 = .ok (.invokeinterface 50 1, 5) := by decide +kernel
theorem dX9_apartBy_45 : decode cX9_apartBy 45 = .ok (.if_icmp .ge 137, 3) := by decide +kernel
theorem dX9_apartBy_48 : decode cX9_apartBy 48 = .ok (.iconst 0, 1) := by decide +kernel
theorem dX9_apartBy_49 : decode cX9_apartBy 49 = .ok (.istore 7, 2) := by decide +kernel
theorem dX9_apartBy_51 : decode cX9_apartBy 51 = .ok (.iload 7, 2) := by decide +kernel
theorem dX9_apartBy_53 : decode cX9_apartBy 53 = .ok (.aload_n 0, 1) := by decide +kernel
theorem dX9_apartBy_54 : decode cX9_apartBy 54 = .ok (.getfield 30, 3) := by decide +kernel
theorem dX9_apartBy_57 : decode cX9_apartBy 57 = .ok (.invokeinterface 50 1, 5) := by decide +kernel
theorem dX9_apartBy_62 : decode cX9_apartBy 62 = .ok (.if_icmp .ge 114, 3) := by decide +kernel
theorem dX9_apartBy_65 : decode cX9_apartBy 65 = .ok (.aload_n 3, 1) := by decide +kernel
theorem dX9_apartBy_66 : decode cX9_apartBy 66 = .ok (.iload 6, 2) := by decide +kernel
theorem dX9_apartBy_68 : decode cX9_apartBy 68 = .ok (.aaload, 1) := by decide +kernel
theorem dX9_apartBy_69 : decode cX9_apartBy 69 = .ok (.iload 7, 2) := by decide +kernel
theorem dX9_apartBy_71 : decode cX9_apartBy 71 = .ok (.baload, 1) := by decide +kernel
theorem dX9_apartBy_72 : decode cX9_apartBy 72 = .ok (.ifCond .ne 6, 3) := by decide +kernel
theorem dX9_apartBy_75 : decode cX9_apartBy 75 = .ok (.goto 95, 3) := by decide +kernel
theorem dX9_apartBy_78 : decode cX9_apartBy 78 = .ok (.aload_n 0, 1) := by decide +kernel
theorem dX9_apartBy_79 : decode cX9_apartBy 79 = .ok (.getfield 30, 3) := by decide +kernel
theorem dX9_apartBy_82 : decode cX9_apartBy 82 = .ok (.iload 6, 2) := by decide +kernel
theorem dX9_apartBy_84 : decode cX9_apartBy 84 = .ok (.invokeinterface 129 2, 5) := by decide +kernel
theorem dX9_apartBy_89 : decode cX9_apartBy 89 = .ok (.checkcast 86, 3) := by decide +kernel
theorem dX9_apartBy_92 : decode cX9_apartBy 92 = .ok (.iconst 0, 1) := by decide +kernel
theorem dX9_apartBy_93 : decode cX9_apartBy 93 = .ok (.iaload, 1) := by decide +kernel
theorem dX9_apartBy_94 : decode cX9_apartBy 94 = .ok (.aload_n 0, 1) := by decide +kernel
theorem dX9_apartBy_95 : decode cX9_apartBy 95 = .ok (.getfield 30, 3) := by decide +kernel
theorem dX9_apartBy_98 : decode cX9_apartBy 98 = .ok (.iload 7, 2) := by decide +kernel
theorem dX9_apartBy_100 : decode cX9_apartBy 100 = .ok (.invokeinterface 129 2, 5) := by decide +kernel
theorem dX9_apartBy_105 : decode cX9_apartBy 105 = .ok (.checkcast 86, 3) := by decide +kernel
theorem dX9_apartBy_108 : decode cX9_apartBy 108 = .ok (.iconst 0, 1) := by decide +kernel
theorem dX9_apartBy_109 : decode cX9_apartBy 109 = .ok (.iaload, 1) := by decide +kernel
theorem dX9_apartBy_110 : decode cX9_apartBy 110 = .ok (.if_icmp .eq 6, 3) := by decide +kernel
theorem dX9_apartBy_113 : decode cX9_apartBy 113 = .ok (.iload 4, 2) := by decide +kernel
theorem dX9_apartBy_115 : decode cX9_apartBy 115 = .ok (.ireturn, 1) := by decide +kernel
theorem dX9_apartBy_116 : decode cX9_apartBy 116 = .ok (.iconst 1, 1) := by decide +kernel
theorem dX9_apartBy_117 : decode cX9_apartBy 117 = .ok (.istore 8, 2) := by decide +kernel
theorem dX9_apartBy_119 : decode cX9_apartBy 119 = .ok (.iload 8, 2) := by decide +kernel
theorem dX9_apartBy_121 : decode cX9_apartBy 121 = .ok (.iconst 2, 1) := by decide +kernel
theorem dX9_apartBy_122 : decode cX9_apartBy 122 = .ok (.if_icmp .gt 48, 3) := by decide +kernel
theorem dX9_apartBy_125 : decode cX9_apartBy 125 = .ok (.aload 5, 2) := by decide +kernel
theorem dX9_apartBy_127 : decode cX9_apartBy 127 = .ok (.aload_n 0, 1) := by decide +kernel
theorem dX9_apartBy_128 : decode cX9_apartBy 128 = .ok (.getfield 30, 3) := by decide +kernel
theorem dX9_apartBy_131 : decode cX9_apartBy 131 = .ok (.iload 6, 2) := by decide +kernel
theorem dX9_apartBy_133 : decode cX9_apartBy 133 = .ok (.invokeinterface 129 2, 5) := by decide +kernel
theorem dX9_apartBy_138 : decode cX9_apartBy 138 = .ok (.checkcast 86, 3) := by decide +kernel
theorem dX9_apartBy_141 : decode cX9_apartBy 141 = .ok (.iload 8, 2) := by decide +kernel
theorem dX9_apartBy_143 : decode cX9_apartBy 143 = .ok (.iaload, 1) := by decide +kernel
theorem dX9_apartBy_144 : decode cX9_apartBy 144 = .ok (.aaload, 1) := by decide +kernel
theorem dX9_apartBy_145 : decode cX9_apartBy 145 = .ok (.aload_n 0, 1) := by decide +kernel
theorem dX9_apartBy_146 : decode cX9_apartBy 146 = .ok (.getfield 30, 3) := by decide +kernel
theorem dX9_apartBy_149 : decode cX9_apartBy 149 = .ok (.iload 7, 2) := by decide +kernel
theorem dX9_apartBy_151 : decode cX9_apartBy 151 = .ok (.invokeinterface 129 2, 5) := by decide +kernel
theorem dX9_apartBy_156 : decode cX9_apartBy 156 = .ok (.checkcast 86, 3) := by decide +kernel
theorem dX9_apartBy_159 : decode cX9_apartBy 159 = .ok (.iload 8, 2) := by decide +kernel
theorem dX9_apartBy_161 : decode cX9_apartBy 161 = .ok (.iaload, 1) := by decide +kernel
theorem dX9_apartBy_162 : decode cX9_apartBy 162 = .ok (.iconst 1, 1) := by decide +kernel
theorem dX9_apartBy_163 : decode cX9_apartBy 163 = .ok (.bastore, 1) := by decide +kernel
theorem dX9_apartBy_164 : decode cX9_apartBy 164 = .ok (.iinc 8 1, 3) := by decide +kernel
theorem dX9_apartBy_167 : decode cX9_apartBy 167 = .ok (.goto (-48), 3) := by decide +kernel
theorem dX9_apartBy_170 : decode cX9_apartBy 170 = .ok (.iinc 7 1, 3) := by decide +kernel
theorem dX9_apartBy_173 : decode cX9_apartBy 173 = .ok (.goto (-122), 3) := by decide +kernel
theorem dX9_apartBy_176 : decode cX9_apartBy 176 = .ok (.iinc 6 1, 3) := by decide +kernel
theorem dX9_apartBy_179 : decode cX9_apartBy 179 = .ok (.goto (-145), 3) := by decide +kernel
theorem dX9_apartBy_182 : decode cX9_apartBy 182 = .ok (.aload 5, 2) := by decide +kernel
theorem dX9_apartBy_184 : decode cX9_apartBy 184 = .ok (.astore_n 3, 1) := by decide +kernel
theorem dX9_apartBy_185 : decode cX9_apartBy 185 = .ok (.iinc 4 1, 3) := by decide +kernel
theorem dX9_apartBy_188 : decode cX9_apartBy 188 = .ok (.goto (-172), 3) := by decide +kernel
theorem dX9_apartBy_191 : decode cX9_apartBy 191 = .ok (.iconst (-1), 1) := by decide +kernel
theorem dX9_apartBy_192 : decode cX9_apartBy 192 = .ok (.ireturn, 1) := by decide +kernel
set_option maxRecDepth 20000 in
theorem ggX9_apart_X9_isOf : GoodIn wsX9_apart wsX9_isOf := goodIn_r _ [5, 6, 7, 8, 9, 10, 11, 58, 59, 60] (by decide +kernel) (by decide +kernel)
set_option maxRecDepth 20000 in
theorem gX9_apart_X9_isOf : GoodIn wsX9_apart (va_wsS RX9 122 yX9_isOf wsX9_isOf) := goodIn_app (goodIn_of _ (by decide +kernel)) ggX9_apart_X9_isOf
set_option maxRecDepth 20000 in
theorem ggX9_apart_X9_apartBy : GoodIn wsX9_apart wsX9_apartBy := goodIn_r _ [15, 16, 17, 1, 18, 6, 7, 8, 9, 10, 11, 19, 20, 21, 22, 23, 24, 25, 26, 27, 28, 29, 30, 31, 32, 33, 34, 35, 41, 42, 43, 44, 45, 46, 47, 48, 49, 50, 51, 52, 53, 54, 55, 56, 57, 58, 59, 60] (by decide +kernel) (by decide +kernel)
set_option maxRecDepth 20000 in
theorem gX9_apart_X9_apartBy : GoodIn wsX9_apart (wsV RX9 222 RX9 yX9_apartBy wsX9_apartBy) := goodIn_app (goodIn_of _ (by decide +kernel)) ggX9_apart_X9_apartBy
set_option maxRecDepth 20000 in
theorem ggX9_apart_X9_isWrong : GoodIn wsX9_apart wsX9_isWrong := goodIn_r _ [39, 40, 41, 42, 43, 44, 45, 46, 47, 48, 49, 50, 51, 52, 53, 54, 55, 56, 57] (by decide +kernel) (by decide +kernel)
set_option maxRecDepth 20000 in
theorem gX9_apart_X9_isWrong : GoodIn wsX9_apart (wsV RX9 62 RX9 yX9_isWrong wsX9_isWrong) := goodIn_app (goodIn_of _ (by decide +kernel)) ggX9_apart_X9_isWrong
theorem dX9_apart_0 : decode cX9_apart 0 = .ok (.aload_n 0, 1) := by decide +kernel
theorem dX9_apart_1 : decode cX9_apart 1 = .ok (.aload_n 0, 1) := by decide +kernel
theorem dX9_apart_2 : decode cX9_apart 2 = .ok (.getfield 30, 3) := by decide +kernel
theorem dX9_apart_5 : decode cX9_apart 5 = .ok (.iload_n 1, 1) := by decide +kernel
theorem dX9_apart_6 : decode cX9_apart 6 = .ok (.invokestatic 122, 3) := by decide +kernel
theorem dX9_apart_9 : decode cX9_apart 9 = .ok (.ifCond .eq 14, 3) := by decide +kernel
theorem dX9_apart_12 : decode cX9_apart 12 = .ok (.aload_n 0, 1) := by decide +kernel
theorem dX9_apart_13 : decode cX9_apart 13 = .ok (.getfield 30, 3) := by decide +kernel
theorem dX9_apart_16 : decode cX9_apart 16 = .ok (.iload_n 2, 1) := by decide +kernel
theorem dX9_apart_17 : decode cX9_apart 17 = .ok (.invokestatic 122, 3) := by decide +kernel
theorem dX9_apart_20 : decode cX9_apart 20 = .ok (.ifCond .ne 7, 3) := by decide +kernel
theorem dX9_apart_23 : decode cX9_apart 23 = .ok (.iconst 1, 1) := by decide +kernel
theorem dX9_apart_24 : decode cX9_apart 24 = .ok (.goto 18, 3) := by decide +kernel
theorem dX9_apart_27 : decode cX9_apart 27 = .ok (.aload_n 0, 1) := by decide +kernel
theorem dX9_apart_28 : decode cX9_apart 28 = .ok (.iload_n 1, 1) := by decide +kernel
theorem dX9_apart_29 : decode cX9_apart 29 = .ok (.iload_n 2, 1) := by decide +kernel
theorem dX9_apart_30 : decode cX9_apart 30 = .ok (.invokevirtual 222, 3) := by decide +kernel
theorem dX9_apart_33 : decode cX9_apart 33 = .ok (.iconst (-1), 1) := by decide +kernel
theorem dX9_apart_34 : decode cX9_apart 34 = .ok (.if_icmp .ne 7, 3) := by decide +kernel
theorem dX9_apart_37 : decode cX9_apart 37 = .ok (.iconst 2, 1) := by decide +kernel
theorem dX9_apart_38 : decode cX9_apart 38 = .ok (.goto 4, 3) := by decide +kernel
theorem dX9_apart_41 : decode cX9_apart 41 = .ok (.iconst 0, 1) := by decide +kernel
theorem dX9_apart_42 : decode cX9_apart 42 = .ok (.invokevirtual 62, 3) := by decide +kernel
theorem dX9_apart_45 : decode cX9_apart 45 = .ok (.ifCond .eq 5, 3) := by decide +kernel
theorem dX9_apart_48 : decode cX9_apart 48 = .ok (.iconst 0, 1) := by decide +kernel
theorem dX9_apart_49 : decode cX9_apart 49 = .ok (.ireturn, 1) := by decide +kernel
theorem dX9_apart_50 : decode cX9_apart 50 = .ok (.aload_n 0, 1) := by decide +kernel
theorem dX9_apart_51 : decode cX9_apart 51 = .ok (.iload_n 1, 1) := by decide +kernel
theorem dX9_apart_52 : decode cX9_apart 52 = .ok (.iload_n 2, 1) := by decide +kernel
theorem dX9_apart_53 : decode cX9_apart 53 = .ok (.invokevirtual 222, 3) := by decide +kernel
theorem dX9_apart_56 : decode cX9_apart 56 = .ok (.ireturn, 1) := by decide +kernel
set_option maxRecDepth 20000 in
theorem ggX9_reached_Jx4a65c_get_915e3 : GoodIn wsX9_reached wsJx4a65c_get_915e3 := goodIn_r _ [7, 8, 9, 10, 11, 12, 13, 14, 15, 16, 17, 18, 19, 6, 20, 21, 43, 44, 45] (by decide +kernel) (by decide +kernel)
set_option maxRecDepth 20000 in
theorem gX9_reached_Jx4a65c_get_915e3_f129Jx4a65c : GoodIn wsX9_reached (va_wsF RX9 129 RJx4a65c ⟨"java/util/List", "get", "(I)Ljava/lang/Object;"⟩ yJx4a65c_get_915e3 wsJx4a65c_get_915e3) := goodIn_app (goodIn_of _ (by decide +kernel)) ggX9_reached_Jx4a65c_get_915e3
set_option maxRecDepth 20000 in
theorem ggX9_reached_X9_reached : GoodIn wsX9_reached wsX9_reached := goodIn_r _ [0, 1, 2, 3, 4, 5, 6, 7, 8, 9, 10, 11, 12, 13, 14, 15, 16, 17, 18, 19, 20, 21, 22, 23, 24, 25, 26, 27, 28, 29, 30, 31, 32, 33, 34, 35, 36, 37, 38, 39, 40, 41, 42, 43, 44, 45] (by decide +kernel) (by decide +kernel)
set_option maxRecDepth 20000 in
theorem gX9_reached_X9_reached : GoodIn wsX9_reached (wsV RX9 225 RX9 yX9_reached wsX9_reached) := goodIn_app (goodIn_of _ (by decide +kernel)) ggX9_reached_X9_reached
theorem dX9_reached_0 : decode cX9_reached 0 = .ok (.iload_n 2, 1) := by decide +kernel
theorem dX9_reached_1 : decode cX9_reached 1 = .ok (.iconst 1, 1) := by decide +kernel
theorem dX9_reached_2 : decode cX9_reached 2 = .ok (.iload_n 1, 1) := by decide +kernel
theorem dX9_reached_3 : decode cX9_reached 3 = .ok (.ishl, 1) := by decide +kernel
theorem dX9_reached_4 : decode cX9_reached 4 = .ok (.ior, 1) := by decide +kernel
theorem dX9_reached_5 : decode cX9_reached 5 = .ok (.istore_n 3, 1) := by decide +kernel
theorem dX9_reached_6 : decode cX9_reached 6 = .ok (.iconst 1, 1) := by decide +kernel
theorem dX9_reached_7 : decode cX9_reached 7 = .ok (.istore 4, 2) := by decide +kernel
theorem dX9_reached_9 : decode cX9_reached 9 = .ok (.iload 4, 2) := by decide +kernel
theorem dX9_reached_11 : decode cX9_reached 11 = .ok (.iconst 2, 1) := by decide +kernel
theorem dX9_reached_12 : decode cX9_reached 12 = .ok (.if_icmp .gt 49, 3) := by decide +kernel
theorem dX9_reached_15 : decode cX9_reached 15 = .ok (.aload_n 0, 1) := by decide +kernel
theorem dX9_reached_16 : decode cX9_reached 16 = .ok (.getfield 30, 3) := by decide +kernel
theorem dX9_reached_19 : decode cX9_reached 19 = .ok (.iload_n 1, 1) := by decide +kernel
theorem dX9_reached_20 : decode cX9_reached 20 = .ok (.invokeinterface 129 2, 5) := by decide +kernel
theorem dX9_reached_25 : decode cX9_reached 25 = .ok (.checkcast 86, 3) := by decide +kernel
theorem dX9_reached_28 : decode cX9_reached 28 = .ok (.iload 4, 2) := by decide +kernel
theorem dX9_reached_30 : decode cX9_reached 30 = .ok (.iaload, 1) := by decide +kernel
theorem dX9_reached_31 : decode cX9_reached 31 = .ok (.istore 5, 2) := by decide +kernel
theorem dX9_reached_33 : decode cX9_reached 33 = .ok (.iload_n 3, 1) := by decide +kernel
theorem dX9_reached_34 : decode cX9_reached 34 = .ok (.iload 5, 2) := by decide +kernel
theorem dX9_reached_36 : decode cX9_reached 36 = .ok (.ishr, 1) := by decide +kernel
theorem dX9_reached_37 : decode cX9_reached 37 = .ok (.iconst 1, 1) := by decide +kernel
theorem dX9_reached_38 : decode cX9_reached 38 = .ok (.iand, 1) := by decide +kernel
theorem dX9_reached_39 : decode cX9_reached 39 = .ok (.iconst 1, 1) := by decide +kernel
theorem dX9_reached_40 : decode cX9_reached 40 = .ok (.if_icmp .ne 7, 3) := by decide +kernel
theorem dX9_reached_43 : decode cX9_reached 43 = .ok (.iload_n 3, 1) := by decide +kernel
theorem dX9_reached_44 : decode cX9_reached 44 = .ok (.goto 10, 3) := by decide +kernel
theorem dX9_reached_47 : decode cX9_reached 47 = .ok (.aload_n 0, 1) := by decide +kernel
theorem dX9_reached_48 : decode cX9_reached 48 = .ok (.iload 5, 2) := by decide +kernel
theorem dX9_reached_50 : decode cX9_reached 50 = .ok (.iload_n 3, 1) := by decide +kernel
theorem dX9_reached_51 : decode cX9_reached 51 = .ok (.invokevirtual 225, 3) := by decide +kernel
theorem dX9_reached_54 : decode cX9_reached 54 = .ok (.istore_n 3, 1) := by decide +kernel
theorem dX9_reached_55 : decode cX9_reached 55 = .ok (.iinc 4 1, 3) := by decide +kernel
theorem dX9_reached_58 : decode cX9_reached 58 = .ok (.goto (-49), 3) := by decide +kernel
theorem dX9_reached_61 : decode cX9_reached 61 = .ok (.iload_n 3, 1) := by decide +kernel
theorem dX9_reached_62 : decode cX9_reached 62 = .ok (.ireturn, 1) := by decide +kernel
set_option maxRecDepth 20000 in
theorem ggX9_leastStates_Jx4a65c_isEmpty_aae02 : GoodIn wsX9_leastStates wsJx4a65c_isEmpty_aae02 := goodIn_r _ [6, 7, 63, 64, 65] (by decide +kernel) (by decide +kernel)
set_option maxRecDepth 20000 in
theorem gX9_leastStates_Jx4a65c_isEmpty_aae02_f135Jx4a65c : GoodIn wsX9_leastStates (va_wsF RX9 135 RJx4a65c ⟨"java/util/List", "isEmpty", "()Z"⟩ yJx4a65c_isEmpty_aae02 wsJx4a65c_isEmpty_aae02) := goodIn_app (goodIn_of _ (by decide +kernel)) ggX9_leastStates_Jx4a65c_isEmpty_aae02
set_option maxRecDepth 20000 in
theorem ggX9_leastStates_X9_isWrong : GoodIn wsX9_leastStates wsX9_isWrong := goodIn_r _ [12, 13, 46, 47, 48, 49, 50, 51, 52, 53, 54, 55, 56, 57, 58, 59, 60, 61, 62] (by decide +kernel) (by decide +kernel)
set_option maxRecDepth 20000 in
theorem gX9_leastStates_X9_isWrong : GoodIn wsX9_leastStates (wsV RX9 62 RX9 yX9_isWrong wsX9_isWrong) := goodIn_app (goodIn_of _ (by decide +kernel)) ggX9_leastStates_X9_isWrong
set_option maxRecDepth 20000 in
theorem ggX9_leastStates_X9_reached : GoodIn wsX9_leastStates wsX9_reached := goodIn_r _ [17, 1, 18, 19, 20, 21, 5, 22, 7, 23, 24, 25, 26, 27, 28, 29, 30, 31, 32, 33, 34, 35, 14, 15, 16, 11, 46, 47, 48, 49, 50, 51, 52, 53, 54, 55, 56, 57, 58, 59, 60, 61, 62, 63, 64, 65] (by decide +kernel) (by decide +kernel)
set_option maxRecDepth 20000 in
theorem gX9_leastStates_X9_reached : GoodIn wsX9_leastStates (wsV RX9 225 RX9 yX9_reached wsX9_reached) := goodIn_app (goodIn_of _ (by decide +kernel)) ggX9_leastStates_X9_reached
set_option maxRecDepth 20000 in
theorem ggX9_leastStates_Jx4a65c_size_8abf5 : GoodIn wsX9_leastStates wsJx4a65c_size_8abf5 := goodIn_r _ [39, 7, 63, 64, 65] (by decide +kernel) (by decide +kernel)
set_option maxRecDepth 20000 in
theorem gX9_leastStates_Jx4a65c_size_8abf5_f50Jx4a65c : GoodIn wsX9_leastStates (va_wsF RX9 50 RJx4a65c ⟨"java/util/List", "size", "()I"⟩ yJx4a65c_size_8abf5 wsJx4a65c_size_8abf5) := goodIn_app (goodIn_of _ (by decide +kernel)) ggX9_leastStates_Jx4a65c_size_8abf5
set_option maxRecDepth 20000 in
theorem ggX9_leastStates_X9_apartBy : GoodIn wsX9_leastStates wsX9_apartBy := goodIn_r _ [43, 44, 45, 1, 18, 36, 37, 38, 5, 39, 7, 19, 20, 21, 22, 23, 24, 25, 26, 27, 28, 29, 30, 31, 32, 33, 34, 35, 46, 47, 48, 49, 50, 51, 52, 53, 54, 55, 56, 57, 58, 59, 60, 61, 62, 63, 64, 65] (by decide +kernel) (by decide +kernel)
set_option maxRecDepth 20000 in
theorem gX9_leastStates_X9_apartBy : GoodIn wsX9_leastStates (wsV RX9 222 RX9 yX9_apartBy wsX9_apartBy) := goodIn_app (goodIn_of _ (by decide +kernel)) ggX9_leastStates_X9_apartBy
theorem dX9_leastStates_0 : decode cX9_leastStates 0 = .ok (.aload_n 0, 1) := by decide +kernel
theorem dX9_leastStates_1 : decode cX9_leastStates 1 = .ok (.aload_n 0, 1) := by decide +kernel
theorem dX9_leastStates_2 : decode cX9_leastStates 2 = .ok (.getfield 30, 3) := by decide +kernel
theorem dX9_leastStates_5 : decode cX9_leastStates 5 = .ok (.invokeinterface 135 1, 5) := by decide +kernel
theorem dX9_leastStates_10 : decode cX9_leastStates 10 = .ok (.ifCond .eq 7, 3) := by decide +kernel
theorem dX9_leastStates_13 : decode cX9_leastStates 13 = .ok (.iconst 1, 1) := by decide +kernel
theorem dX9_leastStates_14 : decode cX9_leastStates 14 = .ok (.goto 4, 3) := by decide +kernel
theorem dX9_leastStates_17 : decode cX9_leastStates 17 = .ok (.iconst 0, 1) := by decide +kernel
theorem dX9_leastStates_18 : decode cX9_leastStates 18 = .ok (.invokevirtual 62, 3) := by decide +kernel
theorem dX9_leastStates_21 : decode cX9_leastStates 21 = .ok (.ifCond .eq 5, 3) := by decide +kernel
theorem dX9_leastStates_24 : decode cX9_leastStates 24 = .ok (.iconst 0, 1) := by decide +kernel
theorem dX9_leastStates_25 : decode cX9_leastStates 25 = .ok (.ireturn, 1) := by decide +kernel
theorem dX9_leastStates_26 : decode cX9_leastStates 26 = .ok (.aload_n 0, 1) := by decide +kernel
theorem dX9_leastStates_27 : decode cX9_leastStates 27 = .ok (.iconst 0, 1) := by decide +kernel
theorem dX9_leastStates_28 : decode cX9_leastStates 28 = .ok (.iconst 0, 1) := by decide +kernel
theorem dX9_leastStates_29 : decode cX9_leastStates 29 = .ok (.invokevirtual 225, 3) := by decide +kernel
theorem dX9_leastStates_32 : decode cX9_leastStates 32 = .ok (.istore_n 1, 1) := by decide +kernel
theorem dX9_leastStates_33 : decode cX9_leastStates 33 = .ok (.iconst 0, 1) := by decide +kernel
theorem dX9_leastStates_34 : decode cX9_leastStates 34 = .ok (.istore_n 2, 1) := by decide +kernel
theorem dX9_leastStates_35 : decode cX9_leastStates 35 = .ok (.iconst 0, 1) := by decide +kernel
theorem dX9_leastStates_36 : decode cX9_leastStates 36 = .ok (.istore_n 3, 1) := by decide +kernel
theorem dX9_leastStates_37 : decode cX9_leastStates 37 = .ok (.iload_n 3, 1) := by decide +kernel
theorem dX9_leastStates_38 : decode cX9_leastStates 38 = .ok (.aload_n 0, 1) := by decide +kernel
theorem dX9_leastStates_39 : decode cX9_leastStates 39 = .ok (.getfield 30, 3) := by decide +kernel
theorem dX9_leastStates_42 : decode cX9_leastStates 42 = .ok (.invokeinterface 50 1, 5) := by decide +kernel
theorem dX9_leastStates_47 : decode cX9_leastStates 47 = .ok (.if_icmp .ge 83, 3) := by decide +kernel
theorem dX9_leastStates_50 : decode cX9_leastStates 50 = .ok (.iload_n 1, 1) := by decide +kernel
theorem dX9_leastStates_51 : decode cX9_leastStates 51 = .ok (.iload_n 3, 1) := by decide +kernel
theorem dX9_leastStates_52 : decode cX9_leastStates 52 = .ok (.ishr, 1) := by decide +kernel
theorem dX9_leastStates_53 : decode cX9_leastStates 53 = .ok (.iconst 1, 1) := by decide +kernel
theorem dX9_leastStates_54 : decode cX9_leastStates 54 = .ok (.iand, 1) := by decide +kernel
theorem dX9_leastStates_55 : decode cX9_leastStates 55 = .ok (.iconst 1, 1) := by decide +kernel
theorem dX9_leastStates_56 : decode cX9_leastStates 56 = .ok (.if_icmp .ne 7, 3) := by decide +kernel
theorem dX9_leastStates_59 : decode cX9_leastStates 59 = .ok (.iconst 1, 1) := by decide +kernel
theorem dX9_leastStates_60 : decode cX9_leastStates 60 = .ok (.goto 4, 3) := by decide +kernel
theorem dX9_leastStates_63 : decode cX9_leastStates 63 = .ok (.iconst 0, 1) := by decide +kernel
theorem dX9_leastStates_64 : decode cX9_leastStates 64 = .ok (.istore 4, 2) := by decide +kernel
theorem dX9_leastStates_66 : decode cX9_leastStates 66 = .ok (.iconst 0, 1) := by decide +kernel
theorem dX9_leastStates_67 : decode cX9_leastStates 67 = .ok (.istore 5, 2) := by decide +kernel
theorem dX9_leastStates_69 : decode cX9_leastStates 69 = .ok (.iload 5, 2) := by decide +kernel
theorem dX9_leastStates_71 : decode cX9_leastStates 71 = .ok (.iload_n 3, 1) := by decide +kernel
theorem dX9_leastStates_72 : decode cX9_leastStates 72 = .ok (.if_icmp .ge 39, 3) := by decide +kernel
theorem dX9_leastStates_75 : decode cX9_leastStates 75 = .ok (.iload 4, 2) := by decide +kernel
theorem dX9_leastStates_77 : decode cX9_leastStates 77 = .ok (.iload_n 1, 1) := by decide +kernel
theorem dX9_leastStates_78 : decode cX9_leastStates 78 = .ok (.iload 5, 2) := by decide +kernel
theorem dX9_leastStates_80 : decode cX9_leastStates 80 = .ok (.ishr, 1) := by decide +kernel
theorem dX9_leastStates_81 : decode cX9_leastStates 81 = .ok (.iconst 1, 1) := by decide +kernel
theorem dX9_leastStates_82 : decode cX9_leastStates 82 = .ok (.iand, 1) := by decide +kernel
theorem dX9_leastStates_83 : decode cX9_leastStates 83 = .ok (.ifCond .eq 14, 3) := by decide +kernel
theorem dX9_leastStates_86 : decode cX9_leastStates 86 = .ok (.aload_n 0, 1) := by decide +kernel
theorem dX9_leastStates_87 : decode cX9_leastStates 87 = .ok (.iload_n 3, 1) := by decide +kernel
theorem dX9_leastStates_88 : decode cX9_leastStates 88 = .ok (.iload 5, 2) := by decide +kernel
theorem dX9_leastStates_90 : decode cX9_leastStates 90 = .ok (.invokevirtual 222, 3) := by decide +kernel
theorem dX9_leastStates_93 : decode cX9_leastStates 93 = .ok (.iconst (-1), 1) := by decide +kernel
theorem dX9_leastStates_94 : decode cX9_leastStates 94 = .ok (.if_icmp .eq 7, 3) := by decide +kernel
theorem dX9_leastStates_97 : decode cX9_leastStates 97 = .ok (.iconst 1, 1) := by decide +kernel
theorem dX9_leastStates_98 : decode cX9_leastStates 98 = .ok (.goto 4, 3) := by decide +kernel
theorem dX9_leastStates_101 : decode cX9_leastStates 101 = .ok (.iconst 0, 1) := by decide +kernel
theorem dX9_leastStates_102 : decode cX9_leastStates 102 = .ok (.iand, 1) := by decide +kernel
theorem dX9_leastStates_103 : decode cX9_leastStates 103 = .ok (.istore 4, 2) := by decide +kernel
theorem dX9_leastStates_105 : decode cX9_leastStates 105 = .ok (.iinc 5 1, 3) := by decide +kernel
theorem dX9_leastStates_108 : decode cX9_leastStates 108 = .ok (.goto (-39), 3) := by decide +kernel
theorem dX9_leastStates_111 : decode cX9_leastStates 111 = .ok (.iload_n 2, 1) := by decide +kernel
theorem dX9_leastStates_112 : decode cX9_leastStates 112 = .ok (.iload 4, 2) := by decide +kernel
theorem dX9_leastStates_114 : decode cX9_leastStates 114 = .ok (.ifCond .eq 7, 3) := by decide +kernel
theorem dX9_leastStates_117 : decode cX9_leastStates 117 = .ok (.iconst 1, 1) := by decide +kernel
theorem dX9_leastStates_118 : decode cX9_leastStates 118 = .ok (.goto 4, 3) := by decide +kernel
theorem dX9_leastStates_121 : decode cX9_leastStates 121 = .ok (.iconst 0, 1) := by decide +kernel
theorem dX9_leastStates_122 : decode cX9_leastStates 122 = .ok (.iadd, 1) := by decide +kernel
theorem dX9_leastStates_123 : decode cX9_leastStates 123 = .ok (.istore_n 2, 1) := by decide +kernel
theorem dX9_leastStates_124 : decode cX9_leastStates 124 = .ok (.iinc 3 1, 3) := by decide +kernel
theorem dX9_leastStates_127 : decode cX9_leastStates 127 = .ok (.goto (-90), 3) := by decide +kernel
theorem dX9_leastStates_130 : decode cX9_leastStates 130 = .ok (.iload_n 2, 1) := by decide +kernel
theorem dX9_leastStates_131 : decode cX9_leastStates 131 = .ok (.ireturn, 1) := by decide +kernel
set_option maxRecDepth 20000 in
theorem ggX9_sample_Jx4a65c_iterator_32c93 : GoodIn wsX9_sample wsJx4a65c_iterator_32c93 := goodIn_r _ [8, 9, 10, 11, 12, 13, 14, 15, 16, 17, 18, 19, 20, 21, 22, 125, 126, 127, 128, 129, 130, 131] (by decide +kernel) (by decide +kernel)
set_option maxRecDepth 20000 in
theorem gX9_sample_Jx4a65c_iterator_32c93_f72Jx4a65c : GoodIn wsX9_sample (va_wsF RX9 72 RJx4a65c ⟨"java/util/List", "iterator", "()Ljava/util/Iterator;"⟩ yJx4a65c_iterator_32c93 wsJx4a65c_iterator_32c93) := goodIn_app (goodIn_of _ (by decide +kernel)) ggX9_sample_Jx4a65c_iterator_32c93
set_option maxRecDepth 20000 in
theorem ggX9_sample_Jx35411_hasNext_aae02 : GoodIn wsX9_sample wsJx35411_hasNext_aae02 := goodIn_r _ [26, 27, 15, 125, 126, 127, 128, 129, 130, 131] (by decide +kernel) (by decide +kernel)
set_option maxRecDepth 20000 in
theorem gX9_sample_Jx35411_hasNext_aae02_f76Jx35411 : GoodIn wsX9_sample (va_wsF RX9 76 RJx35411 ⟨"java/util/Iterator", "hasNext", "()Z"⟩ yJx35411_hasNext_aae02 wsJx35411_hasNext_aae02) := goodIn_app (goodIn_of _ (by decide +kernel)) ggX9_sample_Jx35411_hasNext_aae02
set_option maxRecDepth 20000 in
theorem ggX9_sample_Jx35411_next_0502b : GoodIn wsX9_sample wsJx35411_next_0502b := goodIn_r _ [31, 27, 15, 32, 19, 33, 34, 35, 11, 36, 20, 21, 22, 125, 126, 127, 128, 129, 130, 131] (by decide +kernel) (by decide +kernel)
set_option maxRecDepth 20000 in
theorem gX9_sample_Jx35411_next_0502b_f82Jx35411 : GoodIn wsX9_sample (va_wsF RX9 82 RJx35411 ⟨"java/util/Iterator", "next", "()Ljava/lang/Object;"⟩ yJx35411_next_0502b wsJx35411_next_0502b) := goodIn_app (goodIn_of _ (by decide +kernel)) ggX9_sample_Jx35411_next_0502b
set_option maxRecDepth 20000 in
theorem ggX9_sample_X9_isWord : GoodIn wsX9_sample wsX9_isWord := goodIn_r _ [40, 41, 42, 43, 39, 44] (by decide +kernel) (by decide +kernel)
set_option maxRecDepth 20000 in
theorem gX9_sample_X9_isWord : GoodIn wsX9_sample (va_wsS RX9 216 yX9_isWord wsX9_isWord) := goodIn_app (goodIn_of _ (by decide +kernel)) ggX9_sample_X9_isWord
set_option maxRecDepth 20000 in
theorem ggX9_sample_Jx4a65c_size_8abf5 : GoodIn wsX9_sample wsJx4a65c_size_8abf5 := goodIn_r _ [48, 49, 129, 130, 131] (by decide +kernel) (by decide +kernel)
set_option maxRecDepth 20000 in
theorem gX9_sample_Jx4a65c_size_8abf5_f50Jx4a65c : GoodIn wsX9_sample (va_wsF RX9 50 RJx4a65c ⟨"java/util/List", "size", "()I"⟩ yJx4a65c_size_8abf5 wsJx4a65c_size_8abf5) := goodIn_app (goodIn_of _ (by decide +kernel)) ggX9_sample_Jx4a65c_size_8abf5
set_option maxRecDepth 20000 in
theorem ggX9_sample_X9_isWrong : GoodIn wsX9_sample wsX9_isWrong := goodIn_r _ [53, 54, 108, 109, 110, 111, 112, 113, 114, 115, 116, 117, 118, 119, 120, 121, 122, 123, 124] (by decide +kernel) (by decide +kernel)
set_option maxRecDepth 20000 in
theorem gX9_sample_X9_isWrong : GoodIn wsX9_sample (wsV RX9 62 RX9 yX9_isWrong wsX9_isWrong) := goodIn_app (goodIn_of _ (by decide +kernel)) ggX9_sample_X9_isWrong
set_option maxRecDepth 20000 in
theorem ggX9_sample_Jx4a65c_add_9ea2d : GoodIn wsX9_sample wsJx4a65c_add_9ea2d := goodIn_r _ [58, 59, 21, 60, 49, 61, 62, 63, 7, 64, 65, 66, 67, 68, 69, 70, 71, 72, 73, 74, 75, 76, 77, 78, 79, 80, 81, 82, 83, 84, 85, 86, 87, 88, 89, 90, 91, 92, 93, 94, 95, 96, 97, 98, 99, 100, 101, 102, 103, 104, 105, 106, 107, 129, 130, 131] (by decide +kernel) (by decide +kernel)
set_option maxRecDepth 20000 in
theorem gX9_sample_Jx4a65c_add_9ea2d_f94Jx4a65c : GoodIn wsX9_sample (va_wsF RX9 94 RJx4a65c ⟨"java/util/List", "add", "(Ljava/lang/Object;)Z"⟩ yJx4a65c_add_9ea2d wsJx4a65c_add_9ea2d) := goodIn_app (goodIn_of _ (by decide +kernel)) ggX9_sample_Jx4a65c_add_9ea2d
theorem dX9_sample_0 : decode cX9_sample 0 = .ok (.iconst 0, 1) := by decide +kernel
theorem dX9_sample_1 : decode cX9_sample 1 = .ok (.istore 4, 2) := by decide +kernel
theorem dX9_sample_3 : decode cX9_sample 3 = .ok (.aload_n 0, 1) := by decide +kernel
theorem dX9_sample_4 : decode cX9_sample 4 = .ok (.getfield 33, 3) := by decide +kernel
theorem dX9_sample_7 : decode cX9_sample 7 = .ok (.invokeinterface 72 1, 5) := by decide +kernel
theorem dX9_sample_12 : decode cX9_sample 12 = .ok (.astore 5, 2) := by decide +kernel
theorem dX9_sample_14 : decode cX9_sample 14 = .ok (.aload 5, 2) := by decide +kernel
theorem dX9_sample_16 : decode cX9_sample 16 = .ok (.invokeinterface 76 1, 5) := by decide +kernel
theorem dX9_sample_21 : decode cX9_sample 21 = .ok (.ifCond .eq 44, 3) := by decide +kernel
theorem dX9_sample_24 : decode cX9_sample 24 = .ok (.aload 5, 2) := by decide +kernel
theorem dX9_sample_26 : decode cX9_sample 26 = .ok (.invokeinterface 82 1, 5) := by decide +kernel
theorem dX9_sample_31 : decode cX9_sample 31 = .ok (.checkcast 86, 3) := by decide +kernel
theorem dX9_sample_34 : decode cX9_sample 34 = .ok (.astore 6, 2) := by decide +kernel
theorem dX9_sample_36 : decode cX9_sample 36 = .ok (.iload 4, 2) := by decide +kernel
theorem dX9_sample_38 : decode cX9_sample 38 = .ok (.aload 6, 2) := by decide +kernel
theorem dX9_sample_40 : decode cX9_sample 40 = .ok (.iconst 0, 1) := by decide +kernel
theorem dX9_sample_41 : decode cX9_sample 41 = .ok (.iaload, 1) := by decide +kernel
theorem dX9_sample_42 : decode cX9_sample 42 = .ok (.iload_n 1, 1) := by decide +kernel
theorem dX9_sample_43 : decode cX9_sample 43 = .ok (.if_icmp .ne 15, 3) := by decide +kernel
theorem dX9_sample_46 : decode cX9_sample 46 = .ok (.aload 6, 2) := by decide +kernel
theorem dX9_sample_48 : decode cX9_sample 48 = .ok (.iconst 1, 1) := by decide +kernel
theorem dX9_sample_49 : decode cX9_sample 49 = .ok (.iaload, 1) := by decide +kernel
theorem dX9_sample_50 : decode cX9_sample 50 = .ok (.iload_n 2, 1) := by decide +kernel
theorem dX9_sample_51 : decode cX9_sample 51 = .ok (.if_icmp .ne 7, 3) := by decide +kernel
theorem dX9_sample_54 : decode cX9_sample 54 = .ok (.iconst 1, 1) := by decide +kernel
theorem dX9_sample_55 : decode cX9_sample 55 = .ok (.goto 4, 3) := by decide +kernel
theorem dX9_sample_58 : decode cX9_sample 58 = .ok (.iconst 0, 1) := by decide +kernel
theorem dX9_sample_59 : decode cX9_sample 59 = .ok (.ior, 1) := by decide +kernel
theorem dX9_sample_60 : decode cX9_sample 60 = .ok (.istore 4, 2) := by decide +kernel
theorem dX9_sample_62 : decode cX9_sample 62 = .ok (.goto (-48), 3) := by decide +kernel
theorem dX9_sample_65 : decode cX9_sample 65 = .ok (.aload_n 0, 1) := by decide +kernel
theorem dX9_sample_66 : decode cX9_sample 66 = .ok (.iload_n 1, 1) := by decide +kernel
theorem dX9_sample_67 : decode cX9_sample 67 = .ok (.iload_n 2, 1) := by decide +kernel
theorem dX9_sample_68 : decode cX9_sample 68 = .ok (.invokestatic 216, 3) := by decide +kernel
theorem dX9_sample_71 : decode cX9_sample 71 = .ok (.ifCond .ne 7, 3) := by decide +kernel
theorem dX9_sample_74 : decode cX9_sample 74 = .ok (.iconst 1, 1) := by decide +kernel
theorem dX9_sample_75 : decode cX9_sample 75 = .ok (.goto 31, 3) := by decide +kernel
theorem dX9_sample_78 : decode cX9_sample 78 = .ok (.iload 4, 2) := by decide +kernel
theorem dX9_sample_80 : decode cX9_sample 80 = .ok (.ifCond .eq 7, 3) := by decide +kernel
theorem dX9_sample_83 : decode cX9_sample 83 = .ok (.iconst 2, 1) := by decide +kernel
theorem dX9_sample_84 : decode cX9_sample 84 = .ok (.goto 22, 3) := by decide +kernel
theorem dX9_sample_87 : decode cX9_sample 87 = .ok (.aload_n 0, 1) := by decide +kernel
theorem dX9_sample_88 : decode cX9_sample 88 = .ok (.getfield 33, 3) := by decide +kernel
theorem dX9_sample_91 : decode cX9_sample 91 = .ok (.invokeinterface 50 1, 5) := by decide +kernel
theorem dX9_sample_96 : decode cX9_sample 96 = .ok (.bipush 12, 2) := by decide +kernel
theorem dX9_sample_98 : decode cX9_sample 98 = .ok (.if_icmp .ne 7, 3) := by decide +kernel
theorem dX9_sample_101 : decode cX9_sample 101 = .ok (.iconst 3, 1) := by decide +kernel
theorem dX9_sample_102 : decode cX9_sample 102 = .ok (.goto 4, 3) := by decide +kernel
theorem dX9_sample_105 : decode cX9_sample 105 = .ok (.iconst 0, 1) := by decide +kernel
theorem dX9_sample_106 : decode cX9_sample 106 = .ok (.invokevirtual 62, 3) := by decide +kernel
theorem dX9_sample_109 : decode cX9_sample 109 = .ok (.ifCond .eq 5, 3) := by decide +kernel
theorem dX9_sample_112 : decode cX9_sample 112 = .ok (.iconst 0, 1) := by decide +kernel
theorem dX9_sample_113 : decode cX9_sample 113 = .ok (.ireturn, 1) := by decide +kernel
theorem dX9_sample_114 : decode cX9_sample 114 = .ok (.aload_n 0, 1) := by decide +kernel
theorem dX9_sample_115 : decode cX9_sample 115 = .ok (.getfield 33, 3) := by decide +kernel
theorem dX9_sample_118 : decode cX9_sample 118 = .ok (.iconst 3, 1) := by decide +kernel
theorem dX9_sample_119 : decode cX9_sample 119 = .ok (.newarray .int, 2) := by decide +kernel
theorem dX9_sample_121 : decode cX9_sample 121 = .ok (.dup, 1) := by decide +kernel
theorem dX9_sample_122 : decode cX9_sample 122 = .ok (.iconst 0, 1) := by decide +kernel
theorem dX9_sample_123 : decode cX9_sample 123 = .ok (.iload_n 1, 1) := by decide +kernel
theorem dX9_sample_124 : decode cX9_sample 124 = .ok (.iastore, 1) := by decide +kernel
theorem dX9_sample_125 : decode cX9_sample 125 = .ok (.dup, 1) := by decide +kernel
theorem dX9_sample_126 : decode cX9_sample 126 = .ok (.iconst 1, 1) := by decide +kernel
theorem dX9_sample_127 : decode cX9_sample 127 = .ok (.iload_n 2, 1) := by decide +kernel
theorem dX9_sample_128 : decode cX9_sample 128 = .ok (.iastore, 1) := by decide +kernel
theorem dX9_sample_129 : decode cX9_sample 129 = .ok (.dup, 1) := by decide +kernel
theorem dX9_sample_130 : decode cX9_sample 130 = .ok (.iconst 2, 1) := by decide +kernel
theorem dX9_sample_131 : decode cX9_sample 131 = .ok (.iload_n 3, 1) := by decide +kernel
theorem dX9_sample_132 : decode cX9_sample 132 = .ok (.ifCond .eq 7, 3) := by decide +kernel
theorem dX9_sample_135 : decode cX9_sample 135 = .ok (.iconst 1, 1) := by decide +kernel
theorem dX9_sample_136 : decode cX9_sample 136 = .ok (.goto 4, 3) := by decide +kernel
theorem dX9_sample_139 : decode cX9_sample 139 = .ok (.iconst 0, 1) := by decide +kernel
theorem dX9_sample_140 : decode cX9_sample 140 = .ok (.iastore, 1) := by decide +kernel
theorem dX9_sample_141 : decode cX9_sample 141 = .ok (.invokeinterface 94 2, 5) := by decide +kernel
theorem dX9_sample_146 : decode cX9_sample 146 = .ok (.pop, 1) := by decide +kernel
theorem dX9_sample_147 : decode cX9_sample 147 = .ok (.aload_n 0, 1) := by decide +kernel
theorem dX9_sample_148 : decode cX9_sample 148 = .ok (.getfield 33, 3) := by decide +kernel
theorem dX9_sample_151 : decode cX9_sample 151 = .ok (.invokeinterface 50 1, 5) := by decide +kernel
theorem dX9_sample_156 : decode cX9_sample 156 = .ok (.ireturn, 1) := by decide +kernel
set_option maxRecDepth 20000 in
theorem ggX9_fits_Jx4a65c_isEmpty_aae02 : GoodIn wsX9_fits wsJx4a65c_isEmpty_aae02 := goodIn_r _ [8, 9, 86, 87, 88] (by decide +kernel) (by decide +kernel)
set_option maxRecDepth 20000 in
theorem gX9_fits_Jx4a65c_isEmpty_aae02_f135Jx4a65c : GoodIn wsX9_fits (va_wsF RX9 135 RJx4a65c ⟨"java/util/List", "isEmpty", "()Z"⟩ yJx4a65c_isEmpty_aae02 wsJx4a65c_isEmpty_aae02) := goodIn_app (goodIn_of _ (by decide +kernel)) ggX9_fits_Jx4a65c_isEmpty_aae02
set_option maxRecDepth 20000 in
theorem ggX9_fits_X9_isWrong : GoodIn wsX9_fits wsX9_isWrong := goodIn_r _ [14, 15, 69, 70, 71, 72, 73, 74, 75, 76, 77, 78, 79, 80, 81, 82, 83, 84, 85] (by decide +kernel) (by decide +kernel)
set_option maxRecDepth 20000 in
theorem gX9_fits_X9_isWrong : GoodIn wsX9_fits (wsV RX9 62 RX9 yX9_isWrong wsX9_isWrong) := goodIn_app (goodIn_of _ (by decide +kernel)) ggX9_fits_X9_isWrong
set_option maxRecDepth 20000 in
theorem ggX9_fits_Jx4a65c_iterator_32c93 : GoodIn wsX9_fits wsJx4a65c_iterator_32c93 := goodIn_r _ [19, 20, 21, 22, 23, 24, 25, 26, 27, 28, 29, 30, 31, 32, 33, 89, 90, 91, 92, 86, 87, 88] (by decide +kernel) (by decide +kernel)
set_option maxRecDepth 20000 in
theorem gX9_fits_Jx4a65c_iterator_32c93_f72Jx4a65c : GoodIn wsX9_fits (va_wsF RX9 72 RJx4a65c ⟨"java/util/List", "iterator", "()Ljava/util/Iterator;"⟩ yJx4a65c_iterator_32c93 wsJx4a65c_iterator_32c93) := goodIn_app (goodIn_of _ (by decide +kernel)) ggX9_fits_Jx4a65c_iterator_32c93
set_option maxRecDepth 20000 in
theorem ggX9_fits_Jx35411_hasNext_aae02 : GoodIn wsX9_fits wsJx35411_hasNext_aae02 := goodIn_r _ [37, 38, 26, 89, 90, 91, 92, 86, 87, 88] (by decide +kernel) (by decide +kernel)
set_option maxRecDepth 20000 in
theorem gX9_fits_Jx35411_hasNext_aae02_f76Jx35411 : GoodIn wsX9_fits (va_wsF RX9 76 RJx35411 ⟨"java/util/Iterator", "hasNext", "()Z"⟩ yJx35411_hasNext_aae02 wsJx35411_hasNext_aae02) := goodIn_app (goodIn_of _ (by decide +kernel)) ggX9_fits_Jx35411_hasNext_aae02
set_option maxRecDepth 20000 in
theorem ggX9_fits_Jx35411_next_0502b : GoodIn wsX9_fits wsJx35411_next_0502b := goodIn_r _ [42, 38, 26, 43, 30, 44, 45, 46, 22, 47, 31, 32, 33, 89, 90, 91, 92, 86, 87, 88] (by decide +kernel) (by decide +kernel)
set_option maxRecDepth 20000 in
theorem gX9_fits_Jx35411_next_0502b_f82Jx35411 : GoodIn wsX9_fits (va_wsF RX9 82 RJx35411 ⟨"java/util/Iterator", "next", "()Ljava/lang/Object;"⟩ yJx35411_next_0502b wsJx35411_next_0502b) := goodIn_app (goodIn_of _ (by decide +kernel)) ggX9_fits_Jx35411_next_0502b
set_option maxRecDepth 20000 in
theorem ggX9_fits_X9_takes : GoodIn wsX9_fits wsX9_takes := goodIn_r _ [51, 1, 3, 52, 53, 54, 7, 55, 9, 56, 57, 58, 59, 60, 61, 62, 63, 64, 65, 66, 67, 68, 69, 70, 71, 72, 73, 74, 75, 76, 77, 78, 79, 80, 81, 82, 83, 84, 85, 86, 87, 88] (by decide +kernel) (by decide +kernel)
set_option maxRecDepth 20000 in
theorem gX9_fits_X9_takes : GoodIn wsX9_fits (wsV RX9 219 RX9 yX9_takes wsX9_takes) := goodIn_app (goodIn_of _ (by decide +kernel)) ggX9_fits_X9_takes
theorem dX9_fits_0 : decode cX9_fits 0 = .ok (.aload_n 0, 1) := by decide +kernel
theorem dX9_fits_1 : decode cX9_fits 1 = .ok (.aload_n 0, 1) := by decide +kernel
theorem dX9_fits_2 : decode cX9_fits 2 = .ok (.getfield 30, 3) := by decide +kernel
theorem dX9_fits_5 : decode cX9_fits 5 = .ok (.invokeinterface 135 1, 5) := by decide +kernel
theorem dX9_fits_10 : decode cX9_fits 10 = .ok (.ifCond .eq 7, 3) := by decide +kernel
theorem dX9_fits_13 : decode cX9_fits 13 = .ok (.iconst 1, 1) := by decide +kernel
theorem dX9_fits_14 : decode cX9_fits 14 = .ok (.goto 4, 3) := by decide +kernel
theorem dX9_fits_17 : decode cX9_fits 17 = .ok (.iconst 0, 1) := by decide +kernel
theorem dX9_fits_18 : decode cX9_fits 18 = .ok (.invokevirtual 62, 3) := by decide +kernel
theorem dX9_fits_21 : decode cX9_fits 21 = .ok (.ifCond .eq 5, 3) := by decide +kernel
theorem dX9_fits_24 : decode cX9_fits 24 = .ok (.iconst 0, 1) := by decide +kernel
theorem dX9_fits_25 : decode cX9_fits 25 = .ok (.ireturn, 1) := by decide +kernel
theorem dX9_fits_26 : decode cX9_fits 26 = .ok (.iconst 1, 1) := by decide +kernel
theorem dX9_fits_27 : decode cX9_fits 27 = .ok (.istore_n 1, 1) := by decide +kernel
theorem dX9_fits_28 : decode cX9_fits 28 = .ok (.aload_n 0, 1) := by decide +kernel
theorem dX9_fits_29 : decode cX9_fits 29 = .ok (.getfield 33, 3) := by decide +kernel
theorem dX9_fits_32 : decode cX9_fits 32 = .ok (.invokeinterface 72 1, 5) := by decide +kernel
theorem dX9_fits_37 : decode cX9_fits 37 = .ok (.astore_n 2, 1) := by decide +kernel
theorem dX9_fits_38 : decode cX9_fits 38 = .ok (.aload_n 2, 1) := by decide +kernel
theorem dX9_fits_39 : decode cX9_fits 39 = .ok (.invokeinterface 76 1, 5) := by decide +kernel
theorem dX9_fits_44 : decode cX9_fits 44 = .ok (.ifCond .eq 49, 3) := by decide +kernel
theorem dX9_fits_47 : decode cX9_fits 47 = .ok (.aload_n 2, 1) := by decide +kernel
theorem dX9_fits_48 : decode cX9_fits 48 = .ok (.invokeinterface 82 1, 5) := by decide +kernel
theorem dX9_fits_53 : decode cX9_fits 53 = .ok (.checkcast 86, 3) := by decide +kernel
theorem dX9_fits_56 : decode cX9_fits 56 = .ok (.astore_n 3, 1) := by decide +kernel
theorem dX9_fits_57 : decode cX9_fits 57 = .ok (.iload_n 1, 1) := by decide +kernel
theorem dX9_fits_58 : decode cX9_fits 58 = .ok (.aload_n 0, 1) := by decide +kernel
theorem dX9_fits_59 : decode cX9_fits 59 = .ok (.aload_n 3, 1) := by decide +kernel
theorem dX9_fits_60 : decode cX9_fits 60 = .ok (.iconst 0, 1) := by decide +kernel
theorem dX9_fits_61 : decode cX9_fits 61 = .ok (.iaload, 1) := by decide +kernel
theorem dX9_fits_62 : decode cX9_fits 62 = .ok (.aload_n 3, 1) := by decide +kernel
theorem dX9_fits_63 : decode cX9_fits 63 = .ok (.iconst 1, 1) := by decide +kernel
theorem dX9_fits_64 : decode cX9_fits 64 = .ok (.iaload, 1) := by decide +kernel
theorem dX9_fits_65 : decode cX9_fits 65 = .ok (.invokevirtual 219, 3) := by decide +kernel
theorem dX9_fits_68 : decode cX9_fits 68 = .ok (.aload_n 3, 1) := by decide +kernel
theorem dX9_fits_69 : decode cX9_fits 69 = .ok (.iconst 2, 1) := by decide +kernel
theorem dX9_fits_70 : decode cX9_fits 70 = .ok (.iaload, 1) := by decide +kernel
theorem dX9_fits_71 : decode cX9_fits 71 = .ok (.iconst 1, 1) := by decide +kernel
theorem dX9_fits_72 : decode cX9_fits 72 = .ok (.if_icmp .ne 7, 3) := by decide +kernel
theorem dX9_fits_75 : decode cX9_fits 75 = .ok (.iconst 1, 1) := by decide +kernel
theorem dX9_fits_76 : decode cX9_fits 76 = .ok (.goto 4, 3) := by decide +kernel
theorem dX9_fits_79 : decode cX9_fits 79 = .ok (.iconst 0, 1) := by decide +kernel
theorem dX9_fits_80 : decode cX9_fits 80 = .ok (.if_icmp .ne 7, 3) := by decide +kernel
theorem dX9_fits_83 : decode cX9_fits 83 = .ok (.iconst 1, 1) := by decide +kernel
theorem dX9_fits_84 : decode cX9_fits 84 = .ok (.goto 4, 3) := by decide +kernel
theorem dX9_fits_87 : decode cX9_fits 87 = .ok (.iconst 0, 1) := by decide +kernel
theorem dX9_fits_88 : decode cX9_fits 88 = .ok (.iand, 1) := by decide +kernel
theorem dX9_fits_89 : decode cX9_fits 89 = .ok (.istore_n 1, 1) := by decide +kernel
theorem dX9_fits_90 : decode cX9_fits 90 = .ok (.goto (-52), 3) := by decide +kernel
theorem dX9_fits_93 : decode cX9_fits 93 = .ok (.iload_n 1, 1) := by decide +kernel
theorem dX9_fits_94 : decode cX9_fits 94 = .ok (.ireturn, 1) := by decide +kernel
set_option maxRecDepth 20000 in
theorem ggX9_canFit_Jx4a65c_iterator_32c93 : GoodIn wsX9_canFit wsJx4a65c_iterator_32c93 := goodIn_r _ [7, 8, 9, 10, 11, 12, 13, 14, 15, 16, 17, 18, 19, 20, 21, 57, 58, 59, 60, 61, 62, 63] (by decide +kernel) (by decide +kernel)
set_option maxRecDepth 20000 in
theorem gX9_canFit_Jx4a65c_iterator_32c93_f72Jx4a65c : GoodIn wsX9_canFit (va_wsF RX9 72 RJx4a65c ⟨"java/util/List", "iterator", "()Ljava/util/Iterator;"⟩ yJx4a65c_iterator_32c93 wsJx4a65c_iterator_32c93) := goodIn_app (goodIn_of _ (by decide +kernel)) ggX9_canFit_Jx4a65c_iterator_32c93
set_option maxRecDepth 20000 in
theorem ggX9_canFit_Jx35411_hasNext_aae02 : GoodIn wsX9_canFit wsJx35411_hasNext_aae02 := goodIn_r _ [25, 26, 14, 57, 58, 59, 60, 61, 62, 63] (by decide +kernel) (by decide +kernel)
set_option maxRecDepth 20000 in
theorem gX9_canFit_Jx35411_hasNext_aae02_f76Jx35411 : GoodIn wsX9_canFit (va_wsF RX9 76 RJx35411 ⟨"java/util/Iterator", "hasNext", "()Z"⟩ yJx35411_hasNext_aae02 wsJx35411_hasNext_aae02) := goodIn_app (goodIn_of _ (by decide +kernel)) ggX9_canFit_Jx35411_hasNext_aae02
set_option maxRecDepth 20000 in
theorem ggX9_canFit_Jx35411_next_0502b : GoodIn wsX9_canFit wsJx35411_next_0502b := goodIn_r _ [30, 26, 14, 31, 18, 32, 33, 34, 10, 35, 19, 20, 21, 57, 58, 59, 60, 61, 62, 63] (by decide +kernel) (by decide +kernel)
set_option maxRecDepth 20000 in
theorem gX9_canFit_Jx35411_next_0502b_f82Jx35411 : GoodIn wsX9_canFit (va_wsF RX9 82 RJx35411 ⟨"java/util/Iterator", "next", "()Ljava/lang/Object;"⟩ yJx35411_next_0502b wsJx35411_next_0502b) := goodIn_app (goodIn_of _ (by decide +kernel)) ggX9_canFit_Jx35411_next_0502b
set_option maxRecDepth 20000 in
theorem ggX9_canFit_X9_digit : GoodIn wsX9_canFit wsX9_digit := goodIn_r _ [39] (by decide +kernel) (by decide +kernel)
set_option maxRecDepth 20000 in
theorem gX9_canFit_X9_digit : GoodIn wsX9_canFit (va_wsS RX9 228 yX9_digit wsX9_digit) := goodIn_app (goodIn_of _ (by decide +kernel)) ggX9_canFit_X9_digit
theorem dX9_canFit_0 : decode cX9_canFit 0 = .ok (.iconst 1, 1) := by decide +kernel
theorem dX9_canFit_1 : decode cX9_canFit 1 = .ok (.istore_n 2, 1) := by decide +kernel
theorem dX9_canFit_2 : decode cX9_canFit 2 = .ok (.iconst 0, 1) := by decide +kernel
theorem dX9_canFit_3 : decode cX9_canFit 3 = .ok (.istore_n 3, 1) := by decide +kernel
theorem dX9_canFit_4 : decode cX9_canFit 4 = .ok (.iload_n 3, 1) := by decide +kernel
theorem dX9_canFit_5 : decode cX9_canFit 5 = .ok (.iconst 2, 1) := by decide +kernel
theorem dX9_canFit_6 : decode cX9_canFit 6 = .ok (.iload_n 1, 1) := by decide +kernel
theorem dX9_canFit_7 : decode cX9_canFit 7 = .ok (.imul, 1) := by decide +kernel
theorem dX9_canFit_8 : decode cX9_canFit 8 = .ok (.if_icmp .ge 13, 3) := by decide +kernel
theorem dX9_canFit_11 : decode cX9_canFit 11 = .ok (.iload_n 2, 1) := by decide +kernel
theorem dX9_canFit_12 : decode cX9_canFit 12 = .ok (.iload_n 1, 1) := by decide +kernel
theorem dX9_canFit_13 : decode cX9_canFit 13 = .ok (.imul, 1) := by decide +kernel
theorem dX9_canFit_14 : decode cX9_canFit 14 = .ok (.istore_n 2, 1) := by decide +kernel
theorem dX9_canFit_15 : decode cX9_canFit 15 = .ok (.iinc 3 1, 3) := by decide +kernel
theorem dX9_canFit_18 : decode cX9_canFit 18 = .ok (.goto (-14), 3) := by decide +kernel
theorem dX9_canFit_21 : decode cX9_canFit 21 = .ok (.iconst 0, 1) := by decide +kernel
theorem dX9_canFit_22 : decode cX9_canFit 22 = .ok (.istore_n 3, 1) := by decide +kernel
theorem dX9_canFit_23 : decode cX9_canFit 23 = .ok (.iload_n 3, 1) := by decide +kernel
theorem dX9_canFit_24 : decode cX9_canFit 24 = .ok (.iload_n 2, 1) := by decide +kernel
theorem dX9_canFit_25 : decode cX9_canFit 25 = .ok (.if_icmp .ge 145, 3) := by decide +kernel
theorem dX9_canFit_28 : decode cX9_canFit 28 = .ok (.iconst 0, 1) := by decide +kernel
theorem dX9_canFit_29 : decode cX9_canFit 29 = .ok (.istore 4, 2) := by decide +kernel
theorem dX9_canFit_31 : decode cX9_canFit 31 = .ok (.iconst 0, 1) := by decide +kernel
theorem dX9_canFit_32 : decode cX9_canFit 32 = .ok (.istore 5, 2) := by decide +kernel
theorem dX9_canFit_34 : decode cX9_canFit 34 = .ok (.aload_n 0, 1) := by decide +kernel
theorem dX9_canFit_35 : decode cX9_canFit 35 = .ok (.getfield 33, 3) := by decide +kernel
theorem dX9_canFit_38 : decode cX9_canFit 38 = .ok (.invokeinterface 72 1, 5) := by decide +kernel
theorem dX9_canFit_43 : decode cX9_canFit 43 = .ok (.astore 6, 2) := by decide +kernel
theorem dX9_canFit_45 : decode cX9_canFit 45 = .ok (.aload 6, 2) := by decide +kernel
theorem dX9_canFit_47 : decode cX9_canFit 47 = .ok (.invokeinterface 76 1, 5) := by decide +kernel
theorem dX9_canFit_52 : decode cX9_canFit 52 = .ok (.ifCond .eq 102, 3) := by decide +kernel
theorem dX9_canFit_55 : decode cX9_canFit 55 = .ok (.aload 6, 2) := by decide +kernel
theorem dX9_canFit_57 : decode cX9_canFit 57 = .ok (.invokeinterface 82 1, 5) := by decide +kernel
theorem dX9_canFit_62 : decode cX9_canFit 62 = .ok (.checkcast 86, 3) := by decide +kernel
theorem dX9_canFit_65 : decode cX9_canFit 65 = .ok (.astore 7, 2) := by decide +kernel
theorem dX9_canFit_67 : decode cX9_canFit 67 = .ok (.iconst 0, 1) := by decide +kernel
theorem dX9_canFit_68 : decode cX9_canFit 68 = .ok (.istore 8, 2) := by decide +kernel
theorem dX9_canFit_70 : decode cX9_canFit 70 = .ok (.iconst 0, 1) := by decide +kernel
theorem dX9_canFit_71 : decode cX9_canFit 71 = .ok (.istore 9, 2) := by decide +kernel
theorem dX9_canFit_73 : decode cX9_canFit 73 = .ok (.iload 9, 2) := by decide +kernel
theorem dX9_canFit_75 : decode cX9_canFit 75 = .ok (.aload 7, 2) := by decide +kernel
theorem dX9_canFit_77 : decode cX9_canFit 77 = .ok (.iconst 0, 1) := by decide +kernel
theorem dX9_canFit_78 : decode cX9_canFit 78 = .ok (.iaload, 1) := by decide +kernel
theorem dX9_canFit_79 : decode cX9_canFit 79 = .ok (.if_icmp .ge 30, 3) := by decide +kernel
theorem dX9_canFit_82 : decode cX9_canFit 82 = .ok (.iload_n 3, 1) := by decide +kernel
theorem dX9_canFit_83 : decode cX9_canFit 83 = .ok (.iconst 2, 1) := by decide +kernel
theorem dX9_canFit_84 : decode cX9_canFit 84 = .ok (.iload 8, 2) := by decide +kernel
theorem dX9_canFit_86 : decode cX9_canFit 86 = .ok (.imul, 1) := by decide +kernel
theorem dX9_canFit_87 : decode cX9_canFit 87 = .ok (.aload 7, 2) := by decide +kernel
theorem dX9_canFit_89 : decode cX9_canFit 89 = .ok (.iconst 1, 1) := by decide +kernel
theorem dX9_canFit_90 : decode cX9_canFit 90 = .ok (.iaload, 1) := by decide +kernel
theorem dX9_canFit_91 : decode cX9_canFit 91 = .ok (.iload 9, 2) := by decide +kernel
theorem dX9_canFit_93 : decode cX9_canFit 93 = .ok (.ishr, 1) := by decide +kernel
theorem dX9_canFit_94 : decode cX9_canFit 94 = .ok (.iconst 1, 1) := by decide +kernel
theorem dX9_canFit_95 : decode cX9_canFit 95 = .ok (.iand, 1) := by decide +kernel
theorem dX9_canFit_96 : decode cX9_canFit 96 = .ok (.iadd, 1) := by decide +kernel
theorem dX9_canFit_97 : decode cX9_canFit 97 = .ok (.iload_n 1, 1) := by decide +kernel
theorem dX9_canFit_98 : decode cX9_canFit 98 = .ok (.invokestatic 228, 3) := by decide +kernel
theorem dX9_canFit_101 : decode cX9_canFit 101 = .ok (.istore 8, 2) := by decide +kernel
theorem dX9_canFit_103 : decode cX9_canFit 103 = .ok (.iinc 9 1, 3) := by decide +kernel
theorem dX9_canFit_106 : decode cX9_canFit 106 = .ok (.goto (-33), 3) := by decide +kernel
theorem dX9_canFit_109 : decode cX9_canFit 109 = .ok (.iload 4, 2) := by decide +kernel
theorem dX9_canFit_111 : decode cX9_canFit 111 = .ok (.aload 7, 2) := by decide +kernel
theorem dX9_canFit_113 : decode cX9_canFit 113 = .ok (.iconst 2, 1) := by decide +kernel
theorem dX9_canFit_114 : decode cX9_canFit 114 = .ok (.iaload, 1) := by decide +kernel
theorem dX9_canFit_115 : decode cX9_canFit 115 = .ok (.iconst 1, 1) := by decide +kernel
theorem dX9_canFit_116 : decode cX9_canFit 116 = .ok (.if_icmp .ne 10, 3) := by decide +kernel
theorem dX9_canFit_119 : decode cX9_canFit 119 = .ok (.iconst 1, 1) := by decide +kernel
theorem dX9_canFit_120 : decode cX9_canFit 120 = .ok (.iload 8, 2) := by decide +kernel
theorem dX9_canFit_122 : decode cX9_canFit 122 = .ok (.ishl, 1) := by decide +kernel
theorem dX9_canFit_123 : decode cX9_canFit 123 = .ok (.goto 4, 3) := by decide +kernel
theorem dX9_canFit_126 : decode cX9_canFit 126 = .ok (.iconst 0, 1) := by decide +kernel
theorem dX9_canFit_127 : decode cX9_canFit 127 = .ok (.ior, 1) := by decide +kernel
theorem dX9_canFit_128 : decode cX9_canFit 128 = .ok (.istore 4, 2) := by decide +kernel
theorem dX9_canFit_130 : decode cX9_canFit 130 = .ok (.iload 5, 2) := by decide +kernel
theorem dX9_canFit_132 : decode cX9_canFit 132 = .ok (.aload 7, 2) := by decide +kernel
theorem dX9_canFit_134 : decode cX9_canFit 134 = .ok (.iconst 2, 1) := by decide +kernel
theorem dX9_canFit_135 : decode cX9_canFit 135 = .ok (.iaload, 1) := by decide +kernel
theorem dX9_canFit_136 : decode cX9_canFit 136 = .ok (.iconst 1, 1) := by decide +kernel
theorem dX9_canFit_137 : decode cX9_canFit 137 = .ok (.if_icmp .ne 7, 3) := by decide +kernel
theorem dX9_canFit_140 : decode cX9_canFit 140 = .ok (.iconst 0, 1) := by decide +kernel
theorem dX9_canFit_141 : decode cX9_canFit 141 = .ok (.goto 7, 3) := by decide +kernel
theorem dX9_canFit_144 : decode cX9_canFit 144 = .ok (.iconst 1, 1) := by decide +kernel
theorem dX9_canFit_145 : decode cX9_canFit 145 = .ok (.iload 8, 2) := by decide +kernel
theorem dX9_canFit_147 : decode cX9_canFit 147 = .ok (.ishl, 1) := by decide +kernel
theorem dX9_canFit_148 : decode cX9_canFit 148 = .ok (.ior, 1) := by decide +kernel
theorem dX9_canFit_149 : decode cX9_canFit 149 = .ok (.istore 5, 2) := by decide +kernel
theorem dX9_canFit_151 : decode cX9_canFit 151 = .ok (.goto (-106), 3) := by decide +kernel
theorem dX9_canFit_154 : decode cX9_canFit 154 = .ok (.iload 4, 2) := by decide +kernel
theorem dX9_canFit_156 : decode cX9_canFit 156 = .ok (.iload 5, 2) := by decide +kernel
theorem dX9_canFit_158 : decode cX9_canFit 158 = .ok (.iand, 1) := by decide +kernel
theorem dX9_canFit_159 : decode cX9_canFit 159 = .ok (.ifCond .ne 5, 3) := by decide +kernel
theorem dX9_canFit_162 : decode cX9_canFit 162 = .ok (.iconst 1, 1) := by decide +kernel
theorem dX9_canFit_163 : decode cX9_canFit 163 = .ok (.ireturn, 1) := by decide +kernel
theorem dX9_canFit_164 : decode cX9_canFit 164 = .ok (.iinc 3 1, 3) := by decide +kernel
theorem dX9_canFit_167 : decode cX9_canFit 167 = .ok (.goto (-144), 3) := by decide +kernel
theorem dX9_canFit_170 : decode cX9_canFit 170 = .ok (.iconst 0, 1) := by decide +kernel
theorem dX9_canFit_171 : decode cX9_canFit 171 = .ok (.ireturn, 1) := by decide +kernel
theorem dX9_digit_0 : decode cX9_digit 0 = .ok (.iload_n 0, 1) := by decide +kernel
theorem dX9_digit_1 : decode cX9_digit 1 = .ok (.istore_n 3, 1) := by decide +kernel
theorem dX9_digit_2 : decode cX9_digit 2 = .ok (.iconst 0, 1) := by decide +kernel
theorem dX9_digit_3 : decode cX9_digit 3 = .ok (.istore 4, 2) := by decide +kernel
theorem dX9_digit_5 : decode cX9_digit 5 = .ok (.iload 4, 2) := by decide +kernel
theorem dX9_digit_7 : decode cX9_digit 7 = .ok (.iload_n 1, 1) := by decide +kernel
theorem dX9_digit_8 : decode cX9_digit 8 = .ok (.if_icmp .ge 13, 3) := by decide +kernel
theorem dX9_digit_11 : decode cX9_digit 11 = .ok (.iload_n 3, 1) := by decide +kernel
theorem dX9_digit_12 : decode cX9_digit 12 = .ok (.iload_n 2, 1) := by decide +kernel
theorem dX9_digit_13 : decode cX9_digit 13 = .ok (.idiv, 1) := by decide +kernel
theorem dX9_digit_14 : decode cX9_digit 14 = .ok (.istore_n 3, 1) := by decide +kernel
theorem dX9_digit_15 : decode cX9_digit 15 = .ok (.iinc 4 1, 3) := by decide +kernel
theorem dX9_digit_18 : decode cX9_digit 18 = .ok (.goto (-13), 3) := by decide +kernel
theorem dX9_digit_21 : decode cX9_digit 21 = .ok (.iload_n 3, 1) := by decide +kernel
theorem dX9_digit_22 : decode cX9_digit 22 = .ok (.iload_n 2, 1) := by decide +kernel
theorem dX9_digit_23 : decode cX9_digit 23 = .ok (.irem, 1) := by decide +kernel
theorem dX9_digit_24 : decode cX9_digit 24 = .ok (.ireturn, 1) := by decide +kernel
set_option maxRecDepth 20000 in
theorem ggX9_fewest_X9_canFit : GoodIn wsX9_fewest wsX9_canFit := goodIn_r _ [5, 6, 7, 8, 9, 10, 11, 12, 13, 14, 15, 16, 17, 18, 19, 20, 21, 22, 23, 24, 25, 26, 27, 28, 29, 30, 31, 32, 33, 34, 35, 36, 37, 38, 39, 40, 41, 42, 4, 43, 49, 50, 51, 52, 53, 54, 55, 56, 57, 58, 59, 60, 61, 62, 63, 64, 65, 66, 67, 68, 69, 70, 71, 72] (by decide +kernel) (by decide +kernel)
set_option maxRecDepth 20000 in
theorem gX9_fewest_X9_canFit : GoodIn wsX9_fewest (wsV RX9 232 RX9 yX9_canFit wsX9_canFit) := goodIn_app (goodIn_of _ (by decide +kernel)) ggX9_fewest_X9_canFit
set_option maxRecDepth 20000 in
theorem ggX9_fewest_X9_isWrong : GoodIn wsX9_fewest wsX9_isWrong := goodIn_r _ [47, 48, 49, 50, 51, 52, 53, 54, 55, 56, 57, 58, 59, 60, 61, 62, 63, 64, 65] (by decide +kernel) (by decide +kernel)
set_option maxRecDepth 20000 in
theorem gX9_fewest_X9_isWrong : GoodIn wsX9_fewest (wsV RX9 62 RX9 yX9_isWrong wsX9_isWrong) := goodIn_app (goodIn_of _ (by decide +kernel)) ggX9_fewest_X9_isWrong
theorem dX9_fewest_0 : decode cX9_fewest 0 = .ok (.iconst 1, 1) := by decide +kernel
theorem dX9_fewest_1 : decode cX9_fewest 1 = .ok (.istore_n 1, 1) := by decide +kernel
theorem dX9_fewest_2 : decode cX9_fewest 2 = .ok (.iload_n 1, 1) := by decide +kernel
theorem dX9_fewest_3 : decode cX9_fewest 3 = .ok (.iconst 4, 1) := by decide +kernel
theorem dX9_fewest_4 : decode cX9_fewest 4 = .ok (.if_icmp .ge 17, 3) := by decide +kernel
theorem dX9_fewest_7 : decode cX9_fewest 7 = .ok (.aload_n 0, 1) := by decide +kernel
theorem dX9_fewest_8 : decode cX9_fewest 8 = .ok (.iload_n 1, 1) := by decide +kernel
theorem dX9_fewest_9 : decode cX9_fewest 9 = .ok (.invokevirtual 232, 3) := by decide +kernel
theorem dX9_fewest_12 : decode cX9_fewest 12 = .ok (.ifCond .ne 9, 3) := by decide +kernel
theorem dX9_fewest_15 : decode cX9_fewest 15 = .ok (.iinc 1 1, 3) := by decide +kernel
theorem dX9_fewest_18 : decode cX9_fewest 18 = .ok (.goto (-16), 3) := by decide +kernel
theorem dX9_fewest_21 : decode cX9_fewest 21 = .ok (.aload_n 0, 1) := by decide +kernel
theorem dX9_fewest_22 : decode cX9_fewest 22 = .ok (.iload_n 1, 1) := by decide +kernel
theorem dX9_fewest_23 : decode cX9_fewest 23 = .ok (.iconst 4, 1) := by decide +kernel
theorem dX9_fewest_24 : decode cX9_fewest 24 = .ok (.if_icmp .ne 7, 3) := by decide +kernel
theorem dX9_fewest_27 : decode cX9_fewest 27 = .ok (.iconst 1, 1) := by decide +kernel
theorem dX9_fewest_28 : decode cX9_fewest 28 = .ok (.goto 4, 3) := by decide +kernel
theorem dX9_fewest_31 : decode cX9_fewest 31 = .ok (.iconst 0, 1) := by decide +kernel
theorem dX9_fewest_32 : decode cX9_fewest 32 = .ok (.invokevirtual 62, 3) := by decide +kernel
theorem dX9_fewest_35 : decode cX9_fewest 35 = .ok (.ifCond .eq 7, 3) := by decide +kernel
theorem dX9_fewest_38 : decode cX9_fewest 38 = .ok (.iconst 0, 1) := by decide +kernel
theorem dX9_fewest_39 : decode cX9_fewest 39 = .ok (.goto 4, 3) := by decide +kernel
theorem dX9_fewest_42 : decode cX9_fewest 42 = .ok (.iload_n 1, 1) := by decide +kernel
theorem dX9_fewest_43 : decode cX9_fewest 43 = .ok (.ireturn, 1) := by decide +kernel
set_option maxRecDepth 20000 in
theorem ggX9_isCode_X9_isBetween : GoodIn wsX9_isCode wsX9_isBetween := goodIn_r _ [5] (by decide +kernel) (by decide +kernel)
set_option maxRecDepth 20000 in
theorem gX9_isCode_X9_isBetween : GoodIn wsX9_isCode (va_wsS RX9 56 yX9_isBetween wsX9_isBetween) := goodIn_app (goodIn_of _ (by decide +kernel)) ggX9_isCode_X9_isBetween
theorem dX9_isCode_0 : decode cX9_isCode 0 = .ok (.iload_n 0, 1) := by decide +kernel
theorem dX9_isCode_1 : decode cX9_isCode 1 = .ok (.i2l, 1) := by decide +kernel
theorem dX9_isCode_2 : decode cX9_isCode 2 = .ok (.lconst 0, 1) := by decide +kernel
theorem dX9_isCode_3 : decode cX9_isCode 3 = .ok (.ldc2_w 235, 3) := by decide +kernel
theorem dX9_isCode_6 : decode cX9_isCode 6 = .ok (.invokestatic 56, 3) := by decide +kernel
theorem dX9_isCode_9 : decode cX9_isCode 9 = .ok (.ifCond .eq 34, 3) := by decide +kernel
theorem dX9_isCode_12 : decode cX9_isCode 12 = .ok (.iload_n 0, 1) := by decide +kernel
theorem dX9_isCode_13 : decode cX9_isCode 13 = .ok (.bipush 100, 2) := by decide +kernel
theorem dX9_isCode_15 : decode cX9_isCode 15 = .ok (.idiv, 1) := by decide +kernel
theorem dX9_isCode_16 : decode cX9_isCode 16 = .ok (.iconst 3, 1) := by decide +kernel
theorem dX9_isCode_17 : decode cX9_isCode 17 = .ok (.if_icmp .gt 26, 3) := by decide +kernel
theorem dX9_isCode_20 : decode cX9_isCode 20 = .ok (.iload_n 0, 1) := by decide +kernel
theorem dX9_isCode_21 : decode cX9_isCode 21 = .ok (.bipush 10, 2) := by decide +kernel
theorem dX9_isCode_23 : decode cX9_isCode 23 = .ok (.idiv, 1) := by decide +kernel
theorem dX9_isCode_24 : decode cX9_isCode 24 = .ok (.bipush 10, 2) := by decide +kernel
theorem dX9_isCode_26 : decode cX9_isCode 26 = .ok (.irem, 1) := by decide +kernel
theorem dX9_isCode_27 : decode cX9_isCode 27 = .ok (.iconst 3, 1) := by decide +kernel
theorem dX9_isCode_28 : decode cX9_isCode 28 = .ok (.if_icmp .gt 15, 3) := by decide +kernel
theorem dX9_isCode_31 : decode cX9_isCode 31 = .ok (.iload_n 0, 1) := by decide +kernel
theorem dX9_isCode_32 : decode cX9_isCode 32 = .ok (.bipush 10, 2) := by decide +kernel
theorem dX9_isCode_34 : decode cX9_isCode 34 = .ok (.irem, 1) := by decide +kernel
theorem dX9_isCode_35 : decode cX9_isCode 35 = .ok (.iconst 3, 1) := by decide +kernel
theorem dX9_isCode_36 : decode cX9_isCode 36 = .ok (.if_icmp .gt 7, 3) := by decide +kernel
theorem dX9_isCode_39 : decode cX9_isCode 39 = .ok (.iconst 1, 1) := by decide +kernel
theorem dX9_isCode_40 : decode cX9_isCode 40 = .ok (.goto 4, 3) := by decide +kernel
theorem dX9_isCode_43 : decode cX9_isCode 43 = .ok (.iconst 0, 1) := by decide +kernel
theorem dX9_isCode_44 : decode cX9_isCode 44 = .ok (.ireturn, 1) := by decide +kernel
theorem dX9_hint_0 : decode cX9_hint 0 = .ok (.iconst 0, 1) := by decide +kernel
theorem dX9_hint_1 : decode cX9_hint 1 = .ok (.istore_n 2, 1) := by decide +kernel
theorem dX9_hint_2 : decode cX9_hint 2 = .ok (.iconst 0, 1) := by decide +kernel
theorem dX9_hint_3 : decode cX9_hint 3 = .ok (.istore_n 3, 1) := by decide +kernel
theorem dX9_hint_4 : decode cX9_hint 4 = .ok (.iconst 1, 1) := by decide +kernel
theorem dX9_hint_5 : decode cX9_hint 5 = .ok (.istore 4, 2) := by decide +kernel
theorem dX9_hint_7 : decode cX9_hint 7 = .ok (.iload 4, 2) := by decide +kernel
theorem dX9_hint_9 : decode cX9_hint 9 = .ok (.bipush 100, 2) := by decide +kernel
theorem dX9_hint_11 : decode cX9_hint 11 = .ok (.if_icmp .gt 38, 3) := by decide +kernel
theorem dX9_hint_14 : decode cX9_hint 14 = .ok (.iload_n 2, 1) := by decide +kernel
theorem dX9_hint_15 : decode cX9_hint 15 = .ok (.iload_n 0, 1) := by decide +kernel
theorem dX9_hint_16 : decode cX9_hint 16 = .ok (.iload 4, 2) := by decide +kernel
theorem dX9_hint_18 : decode cX9_hint 18 = .ok (.idiv, 1) := by decide +kernel
theorem dX9_hint_19 : decode cX9_hint 19 = .ok (.bipush 10, 2) := by decide +kernel
theorem dX9_hint_21 : decode cX9_hint 21 = .ok (.irem, 1) := by decide +kernel
theorem dX9_hint_22 : decode cX9_hint 22 = .ok (.iload_n 1, 1) := by decide +kernel
theorem dX9_hint_23 : decode cX9_hint 23 = .ok (.iload 4, 2) := by decide +kernel
theorem dX9_hint_25 : decode cX9_hint 25 = .ok (.idiv, 1) := by decide +kernel
theorem dX9_hint_26 : decode cX9_hint 26 = .ok (.bipush 10, 2) := by decide +kernel
theorem dX9_hint_28 : decode cX9_hint 28 = .ok (.irem, 1) := by decide +kernel
theorem dX9_hint_29 : decode cX9_hint 29 = .ok (.if_icmp .ne 7, 3) := by decide +kernel
theorem dX9_hint_32 : decode cX9_hint 32 = .ok (.iconst 1, 1) := by decide +kernel
theorem dX9_hint_33 : decode cX9_hint 33 = .ok (.goto 4, 3) := by decide +kernel
theorem dX9_hint_36 : decode cX9_hint 36 = .ok (.iconst 0, 1) := by decide +kernel
theorem dX9_hint_37 : decode cX9_hint 37 = .ok (.iadd, 1) := by decide +kernel
theorem dX9_hint_38 : decode cX9_hint 38 = .ok (.istore_n 2, 1) := by decide +kernel
theorem dX9_hint_39 : decode cX9_hint 39 = .ok (.iload 4, 2) := by decide +kernel
theorem dX9_hint_41 : decode cX9_hint 41 = .ok (.bipush 10, 2) := by decide +kernel
theorem dX9_hint_43 : decode cX9_hint 43 = .ok (.imul, 1) := by decide +kernel
theorem dX9_hint_44 : decode cX9_hint 44 = .ok (.istore 4, 2) := by decide +kernel
theorem dX9_hint_46 : decode cX9_hint 46 = .ok (.goto (-39), 3) := by decide +kernel
theorem dX9_hint_49 : decode cX9_hint 49 = .ok (.iconst 0, 1) := by decide +kernel
theorem dX9_hint_50 : decode cX9_hint 50 = .ok (.istore 4, 2) := by decide +kernel
theorem dX9_hint_52 : decode cX9_hint 52 = .ok (.iload 4, 2) := by decide +kernel
theorem dX9_hint_54 : decode cX9_hint 54 = .ok (.iconst 3, 1) := by decide +kernel
theorem dX9_hint_55 : decode cX9_hint 55 = .ok (.if_icmp .gt 89, 3) := by decide +kernel
theorem dX9_hint_58 : decode cX9_hint 58 = .ok (.iconst 0, 1) := by decide +kernel
theorem dX9_hint_59 : decode cX9_hint 59 = .ok (.istore 5, 2) := by decide +kernel
theorem dX9_hint_61 : decode cX9_hint 61 = .ok (.iconst 0, 1) := by decide +kernel
theorem dX9_hint_62 : decode cX9_hint 62 = .ok (.istore 6, 2) := by decide +kernel
theorem dX9_hint_64 : decode cX9_hint 64 = .ok (.iconst 1, 1) := by decide +kernel
theorem dX9_hint_65 : decode cX9_hint 65 = .ok (.istore 7, 2) := by decide +kernel
theorem dX9_hint_67 : decode cX9_hint 67 = .ok (.iload 7, 2) := by decide +kernel
theorem dX9_hint_69 : decode cX9_hint 69 = .ok (.bipush 100, 2) := by decide +kernel
theorem dX9_hint_71 : decode cX9_hint 71 = .ok (.if_icmp .gt 57, 3) := by decide +kernel
theorem dX9_hint_74 : decode cX9_hint 74 = .ok (.iload 5, 2) := by decide +kernel
theorem dX9_hint_76 : decode cX9_hint 76 = .ok (.iload_n 0, 1) := by decide +kernel
theorem dX9_hint_77 : decode cX9_hint 77 = .ok (.iload 7, 2) := by decide +kernel
theorem dX9_hint_79 : decode cX9_hint 79 = .ok (.idiv, 1) := by decide +kernel
theorem dX9_hint_80 : decode cX9_hint 80 = .ok (.bipush 10, 2) := by decide +kernel
theorem dX9_hint_82 : decode cX9_hint 82 = .ok (.irem, 1) := by decide +kernel
theorem dX9_hint_83 : decode cX9_hint 83 = .ok (.iload 4, 2) := by decide +kernel
theorem dX9_hint_85 : decode cX9_hint 85 = .ok (.if_icmp .ne 7, 3) := by decide +kernel
theorem dX9_hint_88 : decode cX9_hint 88 = .ok (.iconst 1, 1) := by decide +kernel
theorem dX9_hint_89 : decode cX9_hint 89 = .ok (.goto 4, 3) := by decide +kernel
theorem dX9_hint_92 : decode cX9_hint 92 = .ok (.iconst 0, 1) := by decide +kernel
theorem dX9_hint_93 : decode cX9_hint 93 = .ok (.iadd, 1) := by decide +kernel
theorem dX9_hint_94 : decode cX9_hint 94 = .ok (.istore 5, 2) := by decide +kernel
theorem dX9_hint_96 : decode cX9_hint 96 = .ok (.iload 6, 2) := by decide +kernel
theorem dX9_hint_98 : decode cX9_hint 98 = .ok (.iload_n 1, 1) := by decide +kernel
theorem dX9_hint_99 : decode cX9_hint 99 = .ok (.iload 7, 2) := by decide +kernel
theorem dX9_hint_101 : decode cX9_hint 101 = .ok (.idiv, 1) := by decide +kernel
theorem dX9_hint_102 : decode cX9_hint 102 = .ok (.bipush 10, 2) := by decide +kernel
theorem dX9_hint_104 : decode cX9_hint 104 = .ok (.irem, 1) := by decide +kernel
theorem dX9_hint_105 : decode cX9_hint 105 = .ok (.iload 4, 2) := by decide +kernel
theorem dX9_hint_107 : decode cX9_hint 107 = .ok (.if_icmp .ne 7, 3) := by decide +kernel
theorem dX9_hint_110 : decode cX9_hint 110 = .ok (.iconst 1, 1) := by decide +kernel
theorem dX9_hint_111 : decode cX9_hint 111 = .ok (.goto 4, 3) := by decide +kernel
theorem dX9_hint_114 : decode cX9_hint 114 = .ok (.iconst 0, 1) := by decide +kernel
theorem dX9_hint_115 : decode cX9_hint 115 = .ok (.iadd, 1) := by decide +kernel
theorem dX9_hint_116 : decode cX9_hint 116 = .ok (.istore 6, 2) := by decide +kernel
theorem dX9_hint_118 : decode cX9_hint 118 = .ok (.iload 7, 2) := by decide +kernel
theorem dX9_hint_120 : decode cX9_hint 120 = .ok (.bipush 10, 2) := by decide +kernel
theorem dX9_hint_122 : decode cX9_hint 122 = .ok (.imul, 1) := by decide +kernel
theorem dX9_hint_123 : decode cX9_hint 123 = .ok (.istore 7, 2) := by decide +kernel
theorem dX9_hint_125 : decode cX9_hint 125 = .ok (.goto (-58), 3) := by decide +kernel
theorem dX9_hint_128 : decode cX9_hint 128 = .ok (.iload_n 3, 1) := by decide +kernel
theorem dX9_hint_129 : decode cX9_hint 129 = .ok (.iload 5, 2) := by decide +kernel
theorem dX9_hint_131 : decode cX9_hint 131 = .ok (.iload 6, 2) := by decide +kernel
theorem dX9_hint_133 : decode cX9_hint 133 = .ok (.invokestatic 185, 3) := by decide +kernel
theorem dX9_hint_136 : decode cX9_hint 136 = .ok (.iadd, 1) := by decide +kernel
theorem dX9_hint_137 : decode cX9_hint 137 = .ok (.istore_n 3, 1) := by decide +kernel
theorem dX9_hint_138 : decode cX9_hint 138 = .ok (.iinc 4 1, 3) := by decide +kernel
theorem dX9_hint_141 : decode cX9_hint 141 = .ok (.goto (-89), 3) := by decide +kernel
theorem dX9_hint_144 : decode cX9_hint 144 = .ok (.bipush 10, 2) := by decide +kernel
theorem dX9_hint_146 : decode cX9_hint 146 = .ok (.iload_n 2, 1) := by decide +kernel
theorem dX9_hint_147 : decode cX9_hint 147 = .ok (.imul, 1) := by decide +kernel
theorem dX9_hint_148 : decode cX9_hint 148 = .ok (.iload_n 3, 1) := by decide +kernel
theorem dX9_hint_149 : decode cX9_hint 149 = .ok (.iadd, 1) := by decide +kernel
theorem dX9_hint_150 : decode cX9_hint 150 = .ok (.iload_n 2, 1) := by decide +kernel
theorem dX9_hint_151 : decode cX9_hint 151 = .ok (.isub, 1) := by decide +kernel
theorem dX9_hint_152 : decode cX9_hint 152 = .ok (.ireturn, 1) := by decide +kernel
set_option maxRecDepth 20000 in
theorem ggX9_secret_X9_isCode : GoodIn wsX9_secret wsX9_isCode := goodIn_r _ [6, 7, 8, 9, 5, 10] (by decide +kernel) (by decide +kernel)
set_option maxRecDepth 20000 in
theorem gX9_secret_X9_isCode : GoodIn wsX9_secret (va_wsS RX9 237 yX9_isCode wsX9_isCode) := goodIn_app (goodIn_of _ (by decide +kernel)) ggX9_secret_X9_isCode
set_option maxRecDepth 20000 in
theorem ggX9_secret_X9_isWrong : GoodIn wsX9_secret wsX9_isWrong := goodIn_r _ [14, 15, 29, 30, 31, 32, 33, 34, 35, 36, 37, 38, 39, 40, 41, 42, 43, 44, 45] (by decide +kernel) (by decide +kernel)
set_option maxRecDepth 20000 in
theorem gX9_secret_X9_isWrong : GoodIn wsX9_secret (wsV RX9 62 RX9 yX9_isWrong wsX9_isWrong) := goodIn_app (goodIn_of _ (by decide +kernel)) ggX9_secret_X9_isWrong
set_option maxRecDepth 20000 in
theorem ggX9_secret_Jx4a65c_size_8abf5 : GoodIn wsX9_secret wsJx4a65c_size_8abf5 := goodIn_r _ [20, 21, 46, 47, 48] (by decide +kernel) (by decide +kernel)
set_option maxRecDepth 20000 in
theorem gX9_secret_Jx4a65c_size_8abf5_f50Jx4a65c : GoodIn wsX9_secret (va_wsF RX9 50 RJx4a65c ⟨"java/util/List", "size", "()I"⟩ yJx4a65c_size_8abf5 wsJx4a65c_size_8abf5) := goodIn_app (goodIn_of _ (by decide +kernel)) ggX9_secret_Jx4a65c_size_8abf5
set_option maxRecDepth 20000 in
theorem ggX9_secret_Jx4a65c_clear_da8c8 : GoodIn wsX9_secret wsJx4a65c_clear_da8c8 := goodIn_r _ [25, 26, 27, 28, 21, 46, 47, 48] (by decide +kernel) (by decide +kernel)
set_option maxRecDepth 20000 in
theorem gX9_secret_Jx4a65c_clear_da8c8_f66Jx4a65c : GoodIn wsX9_secret (va_wsF RX9 66 RJx4a65c ⟨"java/util/List", "clear", "()V"⟩ yJx4a65c_clear_da8c8 wsJx4a65c_clear_da8c8) := goodIn_app (goodIn_of _ (by decide +kernel)) ggX9_secret_Jx4a65c_clear_da8c8
theorem dX9_secret_0 : decode cX9_secret 0 = .ok (.aload_n 0, 1) := by decide +kernel
theorem dX9_secret_1 : decode cX9_secret 1 = .ok (.iload_n 1, 1) := by decide +kernel
theorem dX9_secret_2 : decode cX9_secret 2 = .ok (.invokestatic 237, 3) := by decide +kernel
theorem dX9_secret_5 : decode cX9_secret 5 = .ok (.ifCond .eq 7, 3) := by decide +kernel
theorem dX9_secret_8 : decode cX9_secret 8 = .ok (.iconst 0, 1) := by decide +kernel
theorem dX9_secret_9 : decode cX9_secret 9 = .ok (.goto 4, 3) := by decide +kernel
theorem dX9_secret_12 : decode cX9_secret 12 = .ok (.iconst 1, 1) := by decide +kernel
theorem dX9_secret_13 : decode cX9_secret 13 = .ok (.invokevirtual 62, 3) := by decide +kernel
theorem dX9_secret_16 : decode cX9_secret 16 = .ok (.ifCond .eq 5, 3) := by decide +kernel
theorem dX9_secret_19 : decode cX9_secret 19 = .ok (.iconst 0, 1) := by decide +kernel
theorem dX9_secret_20 : decode cX9_secret 20 = .ok (.ireturn, 1) := by decide +kernel
theorem dX9_secret_21 : decode cX9_secret 21 = .ok (.aload_n 0, 1) := by decide +kernel
theorem dX9_secret_22 : decode cX9_secret 22 = .ok (.getfield 36, 3) := by decide +kernel
theorem dX9_secret_25 : decode cX9_secret 25 = .ok (.invokeinterface 50 1, 5) := by decide +kernel
theorem dX9_secret_30 : decode cX9_secret 30 = .ok (.istore_n 2, 1) := by decide +kernel
theorem dX9_secret_31 : decode cX9_secret 31 = .ok (.aload_n 0, 1) := by decide +kernel
theorem dX9_secret_32 : decode cX9_secret 32 = .ok (.getfield 36, 3) := by decide +kernel
theorem dX9_secret_35 : decode cX9_secret 35 = .ok (.invokeinterface 66 1, 5) := by decide +kernel
theorem dX9_secret_40 : decode cX9_secret 40 = .ok (.aload_n 0, 1) := by decide +kernel
theorem dX9_secret_41 : decode cX9_secret 41 = .ok (.iload_n 1, 1) := by decide +kernel
theorem dX9_secret_42 : decode cX9_secret 42 = .ok (.putfield 240, 3) := by decide +kernel
theorem dX9_secret_45 : decode cX9_secret 45 = .ok (.iload_n 2, 1) := by decide +kernel
theorem dX9_secret_46 : decode cX9_secret 46 = .ok (.ireturn, 1) := by decide +kernel
set_option maxRecDepth 20000 in
theorem ggX9_guess_X9_isCode : GoodIn wsX9_guess wsX9_isCode := goodIn_r _ [7, 8, 9, 10, 6, 11] (by decide +kernel) (by decide +kernel)
set_option maxRecDepth 20000 in
theorem gX9_guess_X9_isCode : GoodIn wsX9_guess (va_wsS RX9 237 yX9_isCode wsX9_isCode) := goodIn_app (goodIn_of _ (by decide +kernel)) ggX9_guess_X9_isCode
set_option maxRecDepth 20000 in
theorem ggX9_guess_Jx4a65c_size_8abf5 : GoodIn wsX9_guess wsJx4a65c_size_8abf5 := goodIn_r _ [16, 17, 98, 99, 100] (by decide +kernel) (by decide +kernel)
set_option maxRecDepth 20000 in
theorem gX9_guess_Jx4a65c_size_8abf5_f50Jx4a65c : GoodIn wsX9_guess (va_wsF RX9 50 RJx4a65c ⟨"java/util/List", "size", "()I"⟩ yJx4a65c_size_8abf5 wsJx4a65c_size_8abf5) := goodIn_app (goodIn_of _ (by decide +kernel)) ggX9_guess_Jx4a65c_size_8abf5
set_option maxRecDepth 20000 in
theorem ggX9_guess_X9_isWrong : GoodIn wsX9_guess wsX9_isWrong := goodIn_r _ [21, 22, 81, 82, 83, 84, 85, 86, 87, 88, 89, 90, 91, 92, 93, 94, 95, 96, 97] (by decide +kernel) (by decide +kernel)
set_option maxRecDepth 20000 in
theorem gX9_guess_X9_isWrong : GoodIn wsX9_guess (wsV RX9 62 RX9 yX9_isWrong wsX9_isWrong) := goodIn_app (goodIn_of _ (by decide +kernel)) ggX9_guess_X9_isWrong
set_option maxRecDepth 20000 in
theorem ggX9_guess_X9_hint : GoodIn wsX9_guess wsX9_hint := goodIn_r _ [25, 26, 27, 28, 29] (by decide +kernel) (by decide +kernel)
set_option maxRecDepth 20000 in
theorem gX9_guess_X9_hint : GoodIn wsX9_guess (va_wsS RX9 243 yX9_hint wsX9_hint) := goodIn_app (goodIn_of _ (by decide +kernel)) ggX9_guess_X9_hint
set_option maxRecDepth 20000 in
theorem ggX9_guess_Jx4a65c_add_9ea2d : GoodIn wsX9_guess wsJx4a65c_add_9ea2d := goodIn_r _ [33, 34, 35, 36, 17, 37, 38, 39, 15, 40, 41, 42, 43, 44, 45, 46, 47, 48, 49, 50, 51, 28, 52, 53, 54, 55, 56, 57, 58, 59, 60, 61, 62, 63, 64, 65, 66, 67, 68, 69, 70, 71, 72, 73, 74, 75, 76, 27, 29, 77, 78, 79, 80, 98, 99, 100] (by decide +kernel) (by decide +kernel)
set_option maxRecDepth 20000 in
theorem gX9_guess_Jx4a65c_add_9ea2d_f94Jx4a65c : GoodIn wsX9_guess (va_wsF RX9 94 RJx4a65c ⟨"java/util/List", "add", "(Ljava/lang/Object;)Z"⟩ yJx4a65c_add_9ea2d wsJx4a65c_add_9ea2d) := goodIn_app (goodIn_of _ (by decide +kernel)) ggX9_guess_Jx4a65c_add_9ea2d
theorem dX9_guess_0 : decode cX9_guess 0 = .ok (.aload_n 0, 1) := by decide +kernel
theorem dX9_guess_1 : decode cX9_guess 1 = .ok (.iload_n 1, 1) := by decide +kernel
theorem dX9_guess_2 : decode cX9_guess 2 = .ok (.invokestatic 237, 3) := by decide +kernel
theorem dX9_guess_5 : decode cX9_guess 5 = .ok (.ifCond .ne 7, 3) := by decide +kernel
theorem dX9_guess_8 : decode cX9_guess 8 = .ok (.iconst 1, 1) := by decide +kernel
theorem dX9_guess_9 : decode cX9_guess 9 = .ok (.goto 22, 3) := by decide +kernel
theorem dX9_guess_12 : decode cX9_guess 12 = .ok (.aload_n 0, 1) := by decide +kernel
theorem dX9_guess_13 : decode cX9_guess 13 = .ok (.getfield 36, 3) := by decide +kernel
theorem dX9_guess_16 : decode cX9_guess 16 = .ok (.invokeinterface 50 1, 5) := by decide +kernel
theorem dX9_guess_21 : decode cX9_guess 21 = .ok (.bipush 20, 2) := by decide +kernel
theorem dX9_guess_23 : decode cX9_guess 23 = .ok (.if_icmp .ne 7, 3) := by decide +kernel
theorem dX9_guess_26 : decode cX9_guess 26 = .ok (.iconst 2, 1) := by decide +kernel
theorem dX9_guess_27 : decode cX9_guess 27 = .ok (.goto 4, 3) := by decide +kernel
theorem dX9_guess_30 : decode cX9_guess 30 = .ok (.iconst 0, 1) := by decide +kernel
theorem dX9_guess_31 : decode cX9_guess 31 = .ok (.invokevirtual 62, 3) := by decide +kernel
theorem dX9_guess_34 : decode cX9_guess 34 = .ok (.ifCond .eq 5, 3) := by decide +kernel
theorem dX9_guess_37 : decode cX9_guess 37 = .ok (.iconst 0, 1) := by decide +kernel
theorem dX9_guess_38 : decode cX9_guess 38 = .ok (.ireturn, 1) := by decide +kernel
theorem dX9_guess_39 : decode cX9_guess 39 = .ok (.aload_n 0, 1) := by decide +kernel
theorem dX9_guess_40 : decode cX9_guess 40 = .ok (.getfield 36, 3) := by decide +kernel
theorem dX9_guess_43 : decode cX9_guess 43 = .ok (.iconst 2, 1) := by decide +kernel
theorem dX9_guess_44 : decode cX9_guess 44 = .ok (.newarray .int, 2) := by decide +kernel
theorem dX9_guess_46 : decode cX9_guess 46 = .ok (.dup, 1) := by decide +kernel
theorem dX9_guess_47 : decode cX9_guess 47 = .ok (.iconst 0, 1) := by decide +kernel
theorem dX9_guess_48 : decode cX9_guess 48 = .ok (.iload_n 1, 1) := by decide +kernel
theorem dX9_guess_49 : decode cX9_guess 49 = .ok (.iastore, 1) := by decide +kernel
theorem dX9_guess_50 : decode cX9_guess 50 = .ok (.dup, 1) := by decide +kernel
theorem dX9_guess_51 : decode cX9_guess 51 = .ok (.iconst 1, 1) := by decide +kernel
theorem dX9_guess_52 : decode cX9_guess 52 = .ok (.aload_n 0, 1) := by decide +kernel
theorem dX9_guess_53 : decode cX9_guess 53 = .ok (.getfield 240, 3) := by decide +kernel
theorem dX9_guess_56 : decode cX9_guess 56 = .ok (.iload_n 1, 1) := by decide +kernel
theorem dX9_guess_57 : decode cX9_guess 57 = .ok (.invokestatic 243, 3) := by decide +kernel
theorem dX9_guess_60 : decode cX9_guess 60 = .ok (.iastore, 1) := by decide +kernel
theorem dX9_guess_61 : decode cX9_guess 61 = .ok (.invokeinterface 94 2, 5) := by decide +kernel
theorem dX9_guess_66 : decode cX9_guess 66 = .ok (.pop, 1) := by decide +kernel
theorem dX9_guess_67 : decode cX9_guess 67 = .ok (.aload_n 0, 1) := by decide +kernel
theorem dX9_guess_68 : decode cX9_guess 68 = .ok (.getfield 240, 3) := by decide +kernel
theorem dX9_guess_71 : decode cX9_guess 71 = .ok (.iload_n 1, 1) := by decide +kernel
theorem dX9_guess_72 : decode cX9_guess 72 = .ok (.invokestatic 243, 3) := by decide +kernel
theorem dX9_guess_75 : decode cX9_guess 75 = .ok (.ireturn, 1) := by decide +kernel
set_option maxRecDepth 20000 in
theorem ggX9_isPossible_X9_isCode : GoodIn wsX9_isPossible wsX9_isCode := goodIn_r _ [6, 7, 8, 9, 5, 10] (by decide +kernel) (by decide +kernel)
set_option maxRecDepth 20000 in
theorem gX9_isPossible_X9_isCode : GoodIn wsX9_isPossible (va_wsS RX9 237 yX9_isCode wsX9_isCode) := goodIn_app (goodIn_of _ (by decide +kernel)) ggX9_isPossible_X9_isCode
set_option maxRecDepth 20000 in
theorem ggX9_isPossible_Jx4a65c_iterator_32c93 : GoodIn wsX9_isPossible wsJx4a65c_iterator_32c93 := goodIn_r _ [15, 16, 17, 18, 19, 20, 21, 22, 23, 24, 25, 26, 27, 28, 29, 68, 69, 70, 71, 72, 73, 74] (by decide +kernel) (by decide +kernel)
set_option maxRecDepth 20000 in
theorem gX9_isPossible_Jx4a65c_iterator_32c93_f72Jx4a65c : GoodIn wsX9_isPossible (va_wsF RX9 72 RJx4a65c ⟨"java/util/List", "iterator", "()Ljava/util/Iterator;"⟩ yJx4a65c_iterator_32c93 wsJx4a65c_iterator_32c93) := goodIn_app (goodIn_of _ (by decide +kernel)) ggX9_isPossible_Jx4a65c_iterator_32c93
set_option maxRecDepth 20000 in
theorem ggX9_isPossible_Jx35411_hasNext_aae02 : GoodIn wsX9_isPossible wsJx35411_hasNext_aae02 := goodIn_r _ [33, 34, 22, 68, 69, 70, 71, 72, 73, 74] (by decide +kernel) (by decide +kernel)
set_option maxRecDepth 20000 in
theorem gX9_isPossible_Jx35411_hasNext_aae02_f76Jx35411 : GoodIn wsX9_isPossible (va_wsF RX9 76 RJx35411 ⟨"java/util/Iterator", "hasNext", "()Z"⟩ yJx35411_hasNext_aae02 wsJx35411_hasNext_aae02) := goodIn_app (goodIn_of _ (by decide +kernel)) ggX9_isPossible_Jx35411_hasNext_aae02
set_option maxRecDepth 20000 in
theorem ggX9_isPossible_Jx35411_next_0502b : GoodIn wsX9_isPossible wsJx35411_next_0502b := goodIn_r _ [38, 34, 22, 39, 26, 40, 41, 42, 18, 43, 27, 28, 29, 68, 69, 70, 71, 72, 73, 74] (by decide +kernel) (by decide +kernel)
set_option maxRecDepth 20000 in
theorem gX9_isPossible_Jx35411_next_0502b_f82Jx35411 : GoodIn wsX9_isPossible (va_wsF RX9 82 RJx35411 ⟨"java/util/Iterator", "next", "()Ljava/lang/Object;"⟩ yJx35411_next_0502b wsJx35411_next_0502b) := goodIn_app (goodIn_of _ (by decide +kernel)) ggX9_isPossible_Jx35411_next_0502b
set_option maxRecDepth 20000 in
theorem ggX9_isPossible_X9_hint : GoodIn wsX9_isPossible wsX9_hint := goodIn_r _ [46, 47, 48, 49, 50] (by decide +kernel) (by decide +kernel)
set_option maxRecDepth 20000 in
theorem gX9_isPossible_X9_hint : GoodIn wsX9_isPossible (va_wsS RX9 243 yX9_hint wsX9_hint) := goodIn_app (goodIn_of _ (by decide +kernel)) ggX9_isPossible_X9_hint
theorem dX9_isPossible_0 : decode cX9_isPossible 0 = .ok (.iload_n 1, 1) := by decide +kernel
theorem dX9_isPossible_1 : decode cX9_isPossible 1 = .ok (.invokestatic 237, 3) := by decide +kernel
theorem dX9_isPossible_4 : decode cX9_isPossible 4 = .ok (.istore_n 2, 1) := by decide +kernel
theorem dX9_isPossible_5 : decode cX9_isPossible 5 = .ok (.aload_n 0, 1) := by decide +kernel
theorem dX9_isPossible_6 : decode cX9_isPossible 6 = .ok (.getfield 36, 3) := by decide +kernel
theorem dX9_isPossible_9 : decode cX9_isPossible 9 = .ok (.invokeinterface 72 1, 5) := by decide +kernel
theorem dX9_isPossible_14 : decode cX9_isPossible 14 = .ok (.astore_n 3, 1) := by decide +kernel
theorem dX9_isPossible_15 : decode cX9_isPossible 15 = .ok (.aload_n 3, 1) := by decide +kernel
theorem dX9_isPossible_16 : decode cX9_isPossible 16 = .ok (.invokeinterface 76 1, 5) := by decide +kernel
theorem dX9_isPossible_21 : decode cX9_isPossible 21 = .ok (.ifCond .eq 42, 3) := by decide +kernel
theorem dX9_isPossible_24 : decode cX9_isPossible 24 = .ok (.aload_n 3, 1) := by decide +kernel
theorem dX9_isPossible_25 : decode cX9_isPossible 25 = .ok (.invokeinterface 82 1, 5) := by decide +kernel
theorem dX9_isPossible_30 : decode cX9_isPossible 30 = .ok (.checkcast 86, 3) := by decide +kernel
theorem dX9_isPossible_33 : decode cX9_isPossible 33 = .ok (.astore 4, 2) := by decide +kernel
theorem dX9_isPossible_35 : decode cX9_isPossible 35 = .ok (.iload_n 2, 1) := by decide +kernel
theorem dX9_isPossible_36 : decode cX9_isPossible 36 = .ok (.ifCond .eq 22, 3) := by decide +kernel
theorem dX9_isPossible_39 : decode cX9_isPossible 39 = .ok (.iload_n 1, 1) := by decide +kernel
theorem dX9_isPossible_40 : decode cX9_isPossible 40 = .ok (.aload 4, 2) := by decide +kernel
theorem dX9_isPossible_42 : decode cX9_isPossible 42 = .ok (.iconst 0, 1) := by decide +kernel
theorem dX9_isPossible_43 : decode cX9_isPossible 43 = .ok (.iaload, 1) := by decide +kernel
theorem dX9_isPossible_44 : decode cX9_isPossible 44 = .ok (.invokestatic 243, 3) := by decide +kernel
theorem dX9_isPossible_47 : decode cX9_isPossible 47 = .ok (.aload 4, 2) := by decide +kernel
theorem dX9_isPossible_49 : decode cX9_isPossible 49 = .ok (.iconst 1, 1) := by decide +kernel
theorem dX9_isPossible_50 : decode cX9_isPossible 50 = .ok (.iaload, 1) := by decide +kernel
theorem dX9_isPossible_51 : decode cX9_isPossible 51 = .ok (.if_icmp .ne 7, 3) := by decide +kernel
theorem dX9_isPossible_54 : decode cX9_isPossible 54 = .ok (.iconst 1, 1) := by decide +kernel
theorem dX9_isPossible_55 : decode cX9_isPossible 55 = .ok (.goto 4, 3) := by decide +kernel
theorem dX9_isPossible_58 : decode cX9_isPossible 58 = .ok (.iconst 0, 1) := by decide +kernel
theorem dX9_isPossible_59 : decode cX9_isPossible 59 = .ok (.istore_n 2, 1) := by decide +kernel
theorem dX9_isPossible_60 : decode cX9_isPossible 60 = .ok (.goto (-45), 3) := by decide +kernel
theorem dX9_isPossible_63 : decode cX9_isPossible 63 = .ok (.iload_n 2, 1) := by decide +kernel
theorem dX9_isPossible_64 : decode cX9_isPossible 64 = .ok (.ireturn, 1) := by decide +kernel
set_option maxRecDepth 20000 in
theorem ggX9_possibleCodes_X9_isPossible : GoodIn wsX9_possibleCodes wsX9_isPossible := goodIn_r _ [5, 6, 7, 8, 9, 4, 10, 11, 12, 13, 14, 15, 16, 17, 18, 19, 20, 21, 22, 23, 24, 25, 26, 27, 28, 29, 30, 31, 32, 33, 34, 35, 36, 37, 38, 39, 40, 41, 42, 43, 44, 45, 46, 47, 48, 49, 50, 51, 52, 53, 54, 55, 56, 57, 58, 59, 60, 61, 62, 63, 64, 65, 66, 67, 68, 69, 70, 71, 72, 73, 74, 75, 76, 77, 78] (by decide +kernel) (by decide +kernel)
set_option maxRecDepth 20000 in
theorem gX9_possibleCodes_X9_isPossible : GoodIn wsX9_possibleCodes (wsV RX9 246 RX9 yX9_isPossible wsX9_isPossible) := goodIn_app (goodIn_of _ (by decide +kernel)) ggX9_possibleCodes_X9_isPossible
theorem dX9_possibleCodes_0 : decode cX9_possibleCodes 0 = .ok (.iconst 0, 1) := by decide +kernel
theorem dX9_possibleCodes_1 : decode cX9_possibleCodes 1 = .ok (.istore_n 1, 1) := by decide +kernel
theorem dX9_possibleCodes_2 : decode cX9_possibleCodes 2 = .ok (.iconst 0, 1) := by decide +kernel
theorem dX9_possibleCodes_3 : decode cX9_possibleCodes 3 = .ok (.istore_n 2, 1) := by decide +kernel
theorem dX9_possibleCodes_4 : decode cX9_possibleCodes 4 = .ok (.iload_n 2, 1) := by decide +kernel
theorem dX9_possibleCodes_5 : decode cX9_possibleCodes 5 = .ok (.sipush 333, 3) := by decide +kernel
theorem dX9_possibleCodes_8 : decode cX9_possibleCodes 8 = .ok (.if_icmp .gt 25, 3) := by decide +kernel
theorem dX9_possibleCodes_11 : decode cX9_possibleCodes 11 = .ok (.iload_n 1, 1) := by decide +kernel
theorem dX9_possibleCodes_12 : decode cX9_possibleCodes 12 = .ok (.aload_n 0, 1) := by decide +kernel
theorem dX9_possibleCodes_13 : decode cX9_possibleCodes 13 = .ok (.iload_n 2, 1) := by decide +kernel
theorem dX9_possibleCodes_14 : decode cX9_possibleCodes 14 = .ok (.invokevirtual 246, 3) := by decide +kernel
theorem dX9_possibleCodes_17 : decode cX9_possibleCodes 17 = .ok (.ifCond .eq 7, 3) := by decide +kernel
theorem dX9_possibleCodes_20 : decode cX9_possibleCodes 20 = .ok (.iconst 1, 1) := by decide +kernel
theorem dX9_possibleCodes_21 : decode cX9_possibleCodes 21 = .ok (.goto 4, 3) := by decide +kernel
theorem dX9_possibleCodes_24 : decode cX9_possibleCodes 24 = .ok (.iconst 0, 1) := by decide +kernel
theorem dX9_possibleCodes_25 : decode cX9_possibleCodes 25 = .ok (.iadd, 1) := by decide +kernel
theorem dX9_possibleCodes_26 : decode cX9_possibleCodes 26 = .ok (.istore_n 1, 1) := by decide +kernel
theorem dX9_possibleCodes_27 : decode cX9_possibleCodes 27 = .ok (.iinc 2 1, 3) := by decide +kernel
theorem dX9_possibleCodes_30 : decode cX9_possibleCodes 30 = .ok (.goto (-26), 3) := by decide +kernel
theorem dX9_possibleCodes_33 : decode cX9_possibleCodes 33 = .ok (.iload_n 1, 1) := by decide +kernel
theorem dX9_possibleCodes_34 : decode cX9_possibleCodes 34 = .ok (.ireturn, 1) := by decide +kernel
set_option maxRecDepth 20000 in
theorem ggX9_possible_X9_possibleCodes : GoodIn wsX9_possible wsX9_possibleCodes := goodIn_r _ [6, 7, 8, 9, 5, 10, 11, 12, 13, 14, 15, 16, 17, 18, 19, 20, 21, 22, 23, 24, 25, 26, 27, 28, 29, 30, 31, 32, 33, 34, 35, 36, 37, 38, 39, 40, 41, 42, 43, 44, 45, 46, 47, 48, 49, 50, 51, 52, 53, 54, 55, 56, 57, 58, 59, 60, 61, 62, 63, 64, 65, 66, 67, 68, 69, 70, 71, 72, 73, 74, 75, 76, 77, 78, 79, 80, 81, 82, 83] (by decide +kernel) (by decide +kernel)
set_option maxRecDepth 20000 in
theorem gX9_possible_X9_possibleCodes : GoodIn wsX9_possible (wsV RX9 249 RX9 yX9_possibleCodes wsX9_possibleCodes) := goodIn_app (goodIn_of _ (by decide +kernel)) ggX9_possible_X9_possibleCodes
theorem dX9_possible_0 : decode cX9_possible 0 = .ok (.aload_n 0, 1) := by decide +kernel
theorem dX9_possible_1 : decode cX9_possible 1 = .ok (.iconst 0, 1) := by decide +kernel
theorem dX9_possible_2 : decode cX9_possible 2 = .ok (.putfield 47, 3) := by decide +kernel
theorem dX9_possible_5 : decode cX9_possible 5 = .ok (.aload_n 0, 1) := by decide +kernel
theorem dX9_possible_6 : decode cX9_possible 6 = .ok (.invokevirtual 249, 3) := by decide +kernel
theorem dX9_possible_9 : decode cX9_possible 9 = .ok (.ireturn, 1) := by decide +kernel
set_option maxRecDepth 20000 in
theorem ggX9_nextCode_X9_isPossible : GoodIn wsX9_nextCode wsX9_isPossible := goodIn_r _ [6, 7, 8, 9, 10, 5, 11, 12, 13, 14, 15, 16, 17, 18, 19, 20, 21, 22, 23, 24, 25, 26, 27, 28, 29, 30, 31, 32, 33, 34, 35, 36, 37, 38, 39, 40, 41, 42, 43, 44, 45, 46, 47, 48, 49, 50, 51, 52, 53, 54, 55, 56, 57, 58, 59, 60, 61, 62, 63, 64, 65, 66, 67, 68, 69, 70, 71, 72, 73, 74, 75, 76, 77, 78, 79] (by decide +kernel) (by decide +kernel)
set_option maxRecDepth 20000 in
theorem gX9_nextCode_X9_isPossible : GoodIn wsX9_nextCode (wsV RX9 246 RX9 yX9_isPossible wsX9_isPossible) := goodIn_app (goodIn_of _ (by decide +kernel)) ggX9_nextCode_X9_isPossible
theorem dX9_nextCode_0 : decode cX9_nextCode 0 = .ok (.aload_n 0, 1) := by decide +kernel
theorem dX9_nextCode_1 : decode cX9_nextCode 1 = .ok (.iconst 0, 1) := by decide +kernel
theorem dX9_nextCode_2 : decode cX9_nextCode 2 = .ok (.putfield 47, 3) := by decide +kernel
theorem dX9_nextCode_5 : decode cX9_nextCode 5 = .ok (.iconst 0, 1) := by decide +kernel
theorem dX9_nextCode_6 : decode cX9_nextCode 6 = .ok (.istore_n 1, 1) := by decide +kernel
theorem dX9_nextCode_7 : decode cX9_nextCode 7 = .ok (.aload_n 0, 1) := by decide +kernel
theorem dX9_nextCode_8 : decode cX9_nextCode 8 = .ok (.iload_n 1, 1) := by decide +kernel
theorem dX9_nextCode_9 : decode cX9_nextCode 9 = .ok (.invokevirtual 246, 3) := by decide +kernel
theorem dX9_nextCode_12 : decode cX9_nextCode 12 = .ok (.ifCond .ne 9, 3) := by decide +kernel
theorem dX9_nextCode_15 : decode cX9_nextCode 15 = .ok (.iinc 1 1, 3) := by decide +kernel
theorem dX9_nextCode_18 : decode cX9_nextCode 18 = .ok (.goto (-11), 3) := by decide +kernel
theorem dX9_nextCode_21 : decode cX9_nextCode 21 = .ok (.iload_n 1, 1) := by decide +kernel
theorem dX9_nextCode_22 : decode cX9_nextCode 22 = .ok (.ireturn, 1) := by decide +kernel
set_option maxRecDepth 20000 in
theorem ggX9_things_X9_isBetween : GoodIn wsX9_things wsX9_isBetween := goodIn_r _ [8] (by decide +kernel) (by decide +kernel)
set_option maxRecDepth 20000 in
theorem gX9_things_X9_isBetween : GoodIn wsX9_things (va_wsS RX9 56 yX9_isBetween wsX9_isBetween) := goodIn_app (goodIn_of _ (by decide +kernel)) ggX9_things_X9_isBetween
set_option maxRecDepth 20000 in
theorem ggX9_things_X9_isWrong : GoodIn wsX9_things wsX9_isWrong := goodIn_r _ [12, 13, 14, 15, 16, 17, 18, 19, 20, 21, 22, 23, 24, 25, 26, 27, 28, 29, 30] (by decide +kernel) (by decide +kernel)
set_option maxRecDepth 20000 in
theorem gX9_things_X9_isWrong : GoodIn wsX9_things (wsV RX9 62 RX9 yX9_isWrong wsX9_isWrong) := goodIn_app (goodIn_of _ (by decide +kernel)) ggX9_things_X9_isWrong
theorem dX9_things_0 : decode cX9_things 0 = .ok (.aload_n 0, 1) := by decide +kernel
theorem dX9_things_1 : decode cX9_things 1 = .ok (.iload_n 1, 1) := by decide +kernel
theorem dX9_things_2 : decode cX9_things 2 = .ok (.i2l, 1) := by decide +kernel
theorem dX9_things_3 : decode cX9_things 3 = .ok (.ldc2_w 133, 3) := by decide +kernel
theorem dX9_things_6 : decode cX9_things 6 = .ok (.ldc2_w 252, 3) := by decide +kernel
theorem dX9_things_9 : decode cX9_things 9 = .ok (.invokestatic 56, 3) := by decide +kernel
theorem dX9_things_12 : decode cX9_things 12 = .ok (.ifCond .eq 7, 3) := by decide +kernel
theorem dX9_things_15 : decode cX9_things 15 = .ok (.iconst 0, 1) := by decide +kernel
theorem dX9_things_16 : decode cX9_things 16 = .ok (.goto 4, 3) := by decide +kernel
theorem dX9_things_19 : decode cX9_things 19 = .ok (.iconst 1, 1) := by decide +kernel
theorem dX9_things_20 : decode cX9_things 20 = .ok (.invokevirtual 62, 3) := by decide +kernel
theorem dX9_things_23 : decode cX9_things 23 = .ok (.ifCond .eq 5, 3) := by decide +kernel
theorem dX9_things_26 : decode cX9_things 26 = .ok (.iconst 0, 1) := by decide +kernel
theorem dX9_things_27 : decode cX9_things 27 = .ok (.ireturn, 1) := by decide +kernel
theorem dX9_things_28 : decode cX9_things 28 = .ok (.aload_n 0, 1) := by decide +kernel
theorem dX9_things_29 : decode cX9_things 29 = .ok (.getfield 39, 3) := by decide +kernel
theorem dX9_things_32 : decode cX9_things 32 = .ok (.istore_n 2, 1) := by decide +kernel
theorem dX9_things_33 : decode cX9_things 33 = .ok (.aload_n 0, 1) := by decide +kernel
theorem dX9_things_34 : decode cX9_things 34 = .ok (.iload_n 1, 1) := by decide +kernel
theorem dX9_things_35 : decode cX9_things 35 = .ok (.putfield 39, 3) := by decide +kernel
theorem dX9_things_38 : decode cX9_things 38 = .ok (.aload_n 0, 1) := by decide +kernel
theorem dX9_things_39 : decode cX9_things 39 = .ok (.getfield 44, 3) := by decide +kernel
theorem dX9_things_42 : decode cX9_things 42 = .ok (.astore_n 3, 1) := by decide +kernel
theorem dX9_things_43 : decode cX9_things 43 = .ok (.aload_n 3, 1) := by decide +kernel
theorem dX9_things_44 : decode cX9_things 44 = .ok (.arraylength, 1) := by decide +kernel
theorem dX9_things_45 : decode cX9_things 45 = .ok (.istore 4, 2) := by decide +kernel
theorem dX9_things_47 : decode cX9_things 47 = .ok (.iconst 0, 1) := by decide +kernel
theorem dX9_things_48 : decode cX9_things 48 = .ok (.istore 5, 2) := by decide +kernel
theorem dX9_things_50 : decode cX9_things 50 = .ok (.iload 5, 2) := by decide +kernel
theorem dX9_things_52 : decode cX9_things 52 = .ok (.iload 4, 2) := by decide +kernel
theorem dX9_things_54 : decode cX9_things 54 = .ok (.if_icmp .ge 36, 3) := by decide +kernel
theorem dX9_things_57 : decode cX9_things 57 = .ok (.aload_n 3, 1) := by decide +kernel
theorem dX9_things_58 : decode cX9_things 58 = .ok (.iload 5, 2) := by decide +kernel
theorem dX9_things_60 : decode cX9_things 60 = .ok (.aaload, 1) := by decide +kernel
theorem dX9_things_61 : decode cX9_things 61 = .ok (.astore 6, 2) := by decide +kernel
theorem dX9_things_63 : decode cX9_things 63 = .ok (.iconst 0, 1) := by decide +kernel
theorem dX9_things_64 : decode cX9_things 64 = .ok (.istore 7, 2) := by decide +kernel
theorem dX9_things_66 : decode cX9_things 66 = .ok (.iload 7, 2) := by decide +kernel
theorem dX9_things_68 : decode cX9_things 68 = .ok (.iconst 5, 1) := by decide +kernel
theorem dX9_things_69 : decode cX9_things 69 = .ok (.if_icmp .ge 15, 3) := by decide +kernel
theorem dX9_things_72 : decode cX9_things 72 = .ok (.aload 6, 2) := by decide +kernel
theorem dX9_things_74 : decode cX9_things 74 = .ok (.iload 7, 2) := by decide +kernel
theorem dX9_things_76 : decode cX9_things 76 = .ok (.iconst 0, 1) := by decide +kernel
theorem dX9_things_77 : decode cX9_things 77 = .ok (.bastore, 1) := by decide +kernel
theorem dX9_things_78 : decode cX9_things 78 = .ok (.iinc 7 1, 3) := by decide +kernel
theorem dX9_things_81 : decode cX9_things 81 = .ok (.goto (-15), 3) := by decide +kernel
theorem dX9_things_84 : decode cX9_things 84 = .ok (.iinc 5 1, 3) := by decide +kernel
theorem dX9_things_87 : decode cX9_things 87 = .ok (.goto (-37), 3) := by decide +kernel
theorem dX9_things_90 : decode cX9_things 90 = .ok (.iload_n 2, 1) := by decide +kernel
theorem dX9_things_91 : decode cX9_things 91 = .ok (.ireturn, 1) := by decide +kernel
set_option maxRecDepth 20000 in
theorem ggX9_orders_X9_orders : GoodIn wsX9_orders wsX9_orders := goodIn_r _ [0, 1, 2, 3, 4, 5, 6, 7, 8, 9, 10, 11, 12, 13, 14, 15, 16, 17, 18, 19, 20, 21, 22, 23] (by decide +kernel) (by decide +kernel)
set_option maxRecDepth 20000 in
theorem gX9_orders_X9_orders : GoodIn wsX9_orders (wsV RX9 254 RX9 yX9_orders wsX9_orders) := goodIn_app (goodIn_of _ (by decide +kernel)) ggX9_orders_X9_orders
theorem dX9_orders_0 : decode cX9_orders 0 = .ok (.iload_n 1, 1) := by decide +kernel
theorem dX9_orders_1 : decode cX9_orders 1 = .ok (.iconst 1, 1) := by decide +kernel
theorem dX9_orders_2 : decode cX9_orders 2 = .ok (.aload_n 0, 1) := by decide +kernel
theorem dX9_orders_3 : decode cX9_orders 3 = .ok (.getfield 39, 3) := by decide +kernel
theorem dX9_orders_6 : decode cX9_orders 6 = .ok (.ishl, 1) := by decide +kernel
theorem dX9_orders_7 : decode cX9_orders 7 = .ok (.iconst 1, 1) := by decide +kernel
theorem dX9_orders_8 : decode cX9_orders 8 = .ok (.isub, 1) := by decide +kernel
theorem dX9_orders_9 : decode cX9_orders 9 = .ok (.if_icmp .ne 5, 3) := by decide +kernel
theorem dX9_orders_12 : decode cX9_orders 12 = .ok (.iconst 1, 1) := by decide +kernel
theorem dX9_orders_13 : decode cX9_orders 13 = .ok (.ireturn, 1) := by decide +kernel
theorem dX9_orders_14 : decode cX9_orders 14 = .ok (.iconst 0, 1) := by decide +kernel
theorem dX9_orders_15 : decode cX9_orders 15 = .ok (.istore 4, 2) := by decide +kernel
theorem dX9_orders_17 : decode cX9_orders 17 = .ok (.iconst 0, 1) := by decide +kernel
theorem dX9_orders_18 : decode cX9_orders 18 = .ok (.istore 5, 2) := by decide +kernel
theorem dX9_orders_20 : decode cX9_orders 20 = .ok (.iload 5, 2) := by decide +kernel
theorem dX9_orders_22 : decode cX9_orders 22 = .ok (.aload_n 0, 1) := by decide +kernel
theorem dX9_orders_23 : decode cX9_orders 23 = .ok (.getfield 39, 3) := by decide +kernel
theorem dX9_orders_26 : decode cX9_orders 26 = .ok (.if_icmp .ge 122, 3) := by decide +kernel
theorem dX9_orders_29 : decode cX9_orders 29 = .ok (.iload_n 1, 1) := by decide +kernel
theorem dX9_orders_30 : decode cX9_orders 30 = .ok (.iload 5, 2) := by decide +kernel
theorem dX9_orders_32 : decode cX9_orders 32 = .ok (.ishr, 1) := by decide +kernel
theorem dX9_orders_33 : decode cX9_orders 33 = .ok (.iconst 1, 1) := by decide +kernel
theorem dX9_orders_34 : decode cX9_orders 34 = .ok (.iand, 1) := by decide +kernel
theorem dX9_orders_35 : decode cX9_orders 35 = .ok (.ifCond .ne 27, 3) := by decide +kernel
theorem dX9_orders_38 : decode cX9_orders 38 = .ok (.iload 5, 2) := by decide +kernel
theorem dX9_orders_40 : decode cX9_orders 40 = .ok (.iload_n 3, 1) := by decide +kernel
theorem dX9_orders_41 : decode cX9_orders 41 = .ok (.if_icmp .ne 17, 3) := by decide +kernel
theorem dX9_orders_44 : decode cX9_orders 44 = .ok (.iload_n 2, 1) := by decide +kernel
theorem dX9_orders_45 : decode cX9_orders 45 = .ok (.iconst (-1), 1) := by decide +kernel
theorem dX9_orders_46 : decode cX9_orders 46 = .ok (.if_icmp .eq 12, 3) := by decide +kernel
theorem dX9_orders_49 : decode cX9_orders 49 = .ok (.iload_n 1, 1) := by decide +kernel
theorem dX9_orders_50 : decode cX9_orders 50 = .ok (.iload_n 2, 1) := by decide +kernel
theorem dX9_orders_51 : decode cX9_orders 51 = .ok (.ishr, 1) := by decide +kernel
theorem dX9_orders_52 : decode cX9_orders 52 = .ok (.iconst 1, 1) := by decide +kernel
theorem dX9_orders_53 : decode cX9_orders 53 = .ok (.iand, 1) := by decide +kernel
theorem dX9_orders_54 : decode cX9_orders 54 = .ok (.iconst 1, 1) := by decide +kernel
theorem dX9_orders_55 : decode cX9_orders 55 = .ok (.if_icmp .ne 7, 3) := by decide +kernel
theorem dX9_orders_58 : decode cX9_orders 58 = .ok (.iconst 1, 1) := by decide +kernel
theorem dX9_orders_59 : decode cX9_orders 59 = .ok (.goto 4, 3) := by decide +kernel
theorem dX9_orders_62 : decode cX9_orders 62 = .ok (.iconst 0, 1) := by decide +kernel
theorem dX9_orders_63 : decode cX9_orders 63 = .ok (.istore 6, 2) := by decide +kernel
theorem dX9_orders_65 : decode cX9_orders 65 = .ok (.iconst 0, 1) := by decide +kernel
theorem dX9_orders_66 : decode cX9_orders 66 = .ok (.istore 7, 2) := by decide +kernel
theorem dX9_orders_68 : decode cX9_orders 68 = .ok (.iload 7, 2) := by decide +kernel
theorem dX9_orders_70 : decode cX9_orders 70 = .ok (.aload_n 0, 1) := by decide +kernel
theorem dX9_orders_71 : decode cX9_orders 71 = .ok (.getfield 39, 3) := by decide +kernel
theorem dX9_orders_74 : decode cX9_orders 74 = .ok (.if_icmp .ge 42, 3) := by decide +kernel
theorem dX9_orders_77 : decode cX9_orders 77 = .ok (.iload 6, 2) := by decide +kernel
theorem dX9_orders_79 : decode cX9_orders 79 = .ok (.aload_n 0, 1) := by decide +kernel
theorem dX9_orders_80 : decode cX9_orders 80 = .ok (.getfield 44, 3) := by decide +kernel
theorem dX9_orders_83 : decode cX9_orders 83 = .ok (.iload 7, 2) := by decide +kernel
theorem dX9_orders_85 : decode cX9_orders 85 = .ok (.aaload, 1) := by decide +kernel
theorem dX9_orders_86 : decode cX9_orders 86 = .ok (.iload 5, 2) := by decide +kernel
theorem dX9_orders_88 : decode cX9_orders 88 = .ok (.baload, 1) := by decide +kernel
theorem dX9_orders_89 : decode cX9_orders 89 = .ok (.ifCond .eq 13, 3) := by decide +kernel
theorem dX9_orders_92 : decode cX9_orders 92 = .ok (.iload_n 1, 1) := by decide +kernel
theorem dX9_orders_93 : decode cX9_orders 93 = .ok (.iload 7, 2) := by decide +kernel
theorem dX9_orders_95 : decode cX9_orders 95 = .ok (.ishr, 1) := by decide +kernel
theorem dX9_orders_96 : decode cX9_orders 96 = .ok (.iconst 1, 1) := by decide +kernel
theorem dX9_orders_97 : decode cX9_orders 97 = .ok (.iand, 1) := by decide +kernel
theorem dX9_orders_98 : decode cX9_orders 98 = .ok (.iconst 1, 1) := by decide +kernel
theorem dX9_orders_99 : decode cX9_orders 99 = .ok (.if_icmp .ne 7, 3) := by decide +kernel
theorem dX9_orders_102 : decode cX9_orders 102 = .ok (.iconst 1, 1) := by decide +kernel
theorem dX9_orders_103 : decode cX9_orders 103 = .ok (.goto 4, 3) := by decide +kernel
theorem dX9_orders_106 : decode cX9_orders 106 = .ok (.iconst 0, 1) := by decide +kernel
theorem dX9_orders_107 : decode cX9_orders 107 = .ok (.iand, 1) := by decide +kernel
theorem dX9_orders_108 : decode cX9_orders 108 = .ok (.istore 6, 2) := by decide +kernel
theorem dX9_orders_110 : decode cX9_orders 110 = .ok (.iinc 7 1, 3) := by decide +kernel
theorem dX9_orders_113 : decode cX9_orders 113 = .ok (.goto (-45), 3) := by decide +kernel
theorem dX9_orders_116 : decode cX9_orders 116 = .ok (.iload 4, 2) := by decide +kernel
theorem dX9_orders_118 : decode cX9_orders 118 = .ok (.iload 6, 2) := by decide +kernel
theorem dX9_orders_120 : decode cX9_orders 120 = .ok (.ifCond .eq 18, 3) := by decide +kernel
theorem dX9_orders_123 : decode cX9_orders 123 = .ok (.aload_n 0, 1) := by decide +kernel
theorem dX9_orders_124 : decode cX9_orders 124 = .ok (.iload_n 1, 1) := by decide +kernel
theorem dX9_orders_125 : decode cX9_orders 125 = .ok (.iconst 1, 1) := by decide +kernel
theorem dX9_orders_126 : decode cX9_orders 126 = .ok (.iload 5, 2) := by decide +kernel
theorem dX9_orders_128 : decode cX9_orders 128 = .ok (.ishl, 1) := by decide +kernel
theorem dX9_orders_129 : decode cX9_orders 129 = .ok (.ior, 1) := by decide +kernel
theorem dX9_orders_130 : decode cX9_orders 130 = .ok (.iload_n 2, 1) := by decide +kernel
theorem dX9_orders_131 : decode cX9_orders 131 = .ok (.iload_n 3, 1) := by decide +kernel
theorem dX9_orders_132 : decode cX9_orders 132 = .ok (.invokevirtual 254, 3) := by decide +kernel
theorem dX9_orders_135 : decode cX9_orders 135 = .ok (.goto 4, 3) := by decide +kernel
theorem dX9_orders_138 : decode cX9_orders 138 = .ok (.iconst 0, 1) := by decide +kernel
theorem dX9_orders_139 : decode cX9_orders 139 = .ok (.iadd, 1) := by decide +kernel
theorem dX9_orders_140 : decode cX9_orders 140 = .ok (.istore 4, 2) := by decide +kernel
theorem dX9_orders_142 : decode cX9_orders 142 = .ok (.iinc 5 1, 3) := by decide +kernel
theorem dX9_orders_145 : decode cX9_orders 145 = .ok (.goto (-125), 3) := by decide +kernel
theorem dX9_orders_148 : decode cX9_orders 148 = .ok (.iload 4, 2) := by decide +kernel
theorem dX9_orders_150 : decode cX9_orders 150 = .ok (.ireturn, 1) := by decide +kernel
set_option maxRecDepth 20000 in
theorem ggX9_isThing_X9_isBetween : GoodIn wsX9_isThing wsX9_isBetween := goodIn_r _ [5] (by decide +kernel) (by decide +kernel)
set_option maxRecDepth 20000 in
theorem gX9_isThing_X9_isBetween : GoodIn wsX9_isThing (va_wsS RX9 56 yX9_isBetween wsX9_isBetween) := goodIn_app (goodIn_of _ (by decide +kernel)) ggX9_isThing_X9_isBetween
theorem dX9_isThing_0 : decode cX9_isThing 0 = .ok (.iload_n 1, 1) := by decide +kernel
theorem dX9_isThing_1 : decode cX9_isThing 1 = .ok (.i2l, 1) := by decide +kernel
theorem dX9_isThing_2 : decode cX9_isThing 2 = .ok (.lconst 0, 1) := by decide +kernel
theorem dX9_isThing_3 : decode cX9_isThing 3 = .ok (.aload_n 0, 1) := by decide +kernel
theorem dX9_isThing_4 : decode cX9_isThing 4 = .ok (.getfield 39, 3) := by decide +kernel
theorem dX9_isThing_7 : decode cX9_isThing 7 = .ok (.iconst 1, 1) := by decide +kernel
theorem dX9_isThing_8 : decode cX9_isThing 8 = .ok (.isub, 1) := by decide +kernel
theorem dX9_isThing_9 : decode cX9_isThing 9 = .ok (.i2l, 1) := by decide +kernel
theorem dX9_isThing_10 : decode cX9_isThing 10 = .ok (.invokestatic 56, 3) := by decide +kernel
theorem dX9_isThing_13 : decode cX9_isThing 13 = .ok (.ireturn, 1) := by decide +kernel
set_option maxRecDepth 20000 in
theorem ggX9_ahead_X9_isThing : GoodIn wsX9_ahead wsX9_isThing := goodIn_r _ [6, 7, 8, 9, 5, 10, 20, 21, 22, 23, 24, 25, 26, 27, 28, 29, 30, 31, 32, 33, 34, 35, 36] (by decide +kernel) (by decide +kernel)
set_option maxRecDepth 20000 in
theorem gX9_ahead_X9_isThing : GoodIn wsX9_ahead (wsV RX9 257 RX9 yX9_isThing wsX9_isThing) := goodIn_app (goodIn_of _ (by decide +kernel)) ggX9_ahead_X9_isThing
set_option maxRecDepth 20000 in
theorem ggX9_ahead_X9_orders : GoodIn wsX9_ahead wsX9_orders := goodIn_r _ [14, 7, 1, 11, 12, 13, 5, 20, 21, 22, 23, 24, 25, 26, 27, 28, 29, 30, 31, 32, 33, 34, 35, 36] (by decide +kernel) (by decide +kernel)
set_option maxRecDepth 20000 in
theorem gX9_ahead_X9_orders : GoodIn wsX9_ahead (wsV RX9 254 RX9 yX9_orders wsX9_orders) := goodIn_app (goodIn_of _ (by decide +kernel)) ggX9_ahead_X9_orders
set_option maxRecDepth 20000 in
theorem ggX9_ahead_X9_isWrong : GoodIn wsX9_ahead wsX9_isWrong := goodIn_r _ [18, 19, 20, 21, 22, 23, 24, 25, 26, 27, 28, 29, 30, 31, 32, 33, 34, 35, 36] (by decide +kernel) (by decide +kernel)
set_option maxRecDepth 20000 in
theorem gX9_ahead_X9_isWrong : GoodIn wsX9_ahead (wsV RX9 62 RX9 yX9_isWrong wsX9_isWrong) := goodIn_app (goodIn_of _ (by decide +kernel)) ggX9_ahead_X9_isWrong
theorem dX9_ahead_0 : decode cX9_ahead 0 = .ok (.aload_n 0, 1) := by decide +kernel
theorem dX9_ahead_1 : decode cX9_ahead 1 = .ok (.aload_n 0, 1) := by decide +kernel
theorem dX9_ahead_2 : decode cX9_ahead 2 = .ok (.iload_n 1, 1) := by decide +kernel
theorem dX9_ahead_3 : decode cX9_ahead 3 = .ok (.invokevirtual 257, 3) := by decide +kernel
theorem dX9_ahead_6 : decode cX9_ahead 6 = .ok (.ifCond .eq 16, 3) := by decide +kernel
theorem dX9_ahead_9 : decode cX9_ahead 9 = .ok (.aload_n 0, 1) := by decide +kernel
theorem dX9_ahead_10 : decode cX9_ahead 10 = .ok (.iload_n 2, 1) := by decide +kernel
theorem dX9_ahead_11 : decode cX9_ahead 11 = .ok (.invokevirtual 257, 3) := by decide +kernel
theorem dX9_ahead_14 : decode cX9_ahead 14 = .ok (.ifCond .eq 8, 3) := by decide +kernel
theorem dX9_ahead_17 : decode cX9_ahead 17 = .ok (.iload_n 1, 1) := by decide +kernel
theorem dX9_ahead_18 : decode cX9_ahead 18 = .ok (.iload_n 2, 1) := by decide +kernel
theorem dX9_ahead_19 : decode cX9_ahead 19 = .ok (.if_icmp .ne 7, 3) := by decide +kernel
theorem dX9_ahead_22 : decode cX9_ahead 22 = .ok (.iconst 1, 1) := by decide +kernel
theorem dX9_ahead_23 : decode cX9_ahead 23 = .ok (.goto 18, 3) := by decide +kernel
theorem dX9_ahead_26 : decode cX9_ahead 26 = .ok (.aload_n 0, 1) := by decide +kernel
theorem dX9_ahead_27 : decode cX9_ahead 27 = .ok (.iconst 0, 1) := by decide +kernel
theorem dX9_ahead_28 : decode cX9_ahead 28 = .ok (.iload_n 1, 1) := by decide +kernel
theorem dX9_ahead_29 : decode cX9_ahead 29 = .ok (.iload_n 2, 1) := by decide +kernel
theorem dX9_ahead_30 : decode cX9_ahead 30 = .ok (.invokevirtual 254, 3) := by decide +kernel
theorem dX9_ahead_33 : decode cX9_ahead 33 = .ok (.ifCond .ne 7, 3) := by decide +kernel
theorem dX9_ahead_36 : decode cX9_ahead 36 = .ok (.iconst 2, 1) := by decide +kernel
theorem dX9_ahead_37 : decode cX9_ahead 37 = .ok (.goto 4, 3) := by decide +kernel
theorem dX9_ahead_40 : decode cX9_ahead 40 = .ok (.iconst 0, 1) := by decide +kernel
theorem dX9_ahead_41 : decode cX9_ahead 41 = .ok (.invokevirtual 62, 3) := by decide +kernel
theorem dX9_ahead_44 : decode cX9_ahead 44 = .ok (.ifCond .eq 5, 3) := by decide +kernel
theorem dX9_ahead_47 : decode cX9_ahead 47 = .ok (.iconst 0, 1) := by decide +kernel
theorem dX9_ahead_48 : decode cX9_ahead 48 = .ok (.ireturn, 1) := by decide +kernel
theorem dX9_ahead_49 : decode cX9_ahead 49 = .ok (.aload_n 0, 1) := by decide +kernel
theorem dX9_ahead_50 : decode cX9_ahead 50 = .ok (.getfield 44, 3) := by decide +kernel
theorem dX9_ahead_53 : decode cX9_ahead 53 = .ok (.iload_n 1, 1) := by decide +kernel
theorem dX9_ahead_54 : decode cX9_ahead 54 = .ok (.aaload, 1) := by decide +kernel
theorem dX9_ahead_55 : decode cX9_ahead 55 = .ok (.iload_n 2, 1) := by decide +kernel
theorem dX9_ahead_56 : decode cX9_ahead 56 = .ok (.iconst 1, 1) := by decide +kernel
theorem dX9_ahead_57 : decode cX9_ahead 57 = .ok (.bastore, 1) := by decide +kernel
theorem dX9_ahead_58 : decode cX9_ahead 58 = .ok (.aload_n 0, 1) := by decide +kernel
theorem dX9_ahead_59 : decode cX9_ahead 59 = .ok (.iconst 0, 1) := by decide +kernel
theorem dX9_ahead_60 : decode cX9_ahead 60 = .ok (.iconst (-1), 1) := by decide +kernel
theorem dX9_ahead_61 : decode cX9_ahead 61 = .ok (.iconst (-1), 1) := by decide +kernel
theorem dX9_ahead_62 : decode cX9_ahead 62 = .ok (.invokevirtual 254, 3) := by decide +kernel
theorem dX9_ahead_65 : decode cX9_ahead 65 = .ok (.ireturn, 1) := by decide +kernel
set_option maxRecDepth 20000 in
theorem ggX9_orders__X9_orders : GoodIn wsX9_orders_ wsX9_orders := goodIn_r _ [6, 7, 8, 2, 3, 4, 5, 9, 10, 11, 12, 13, 14, 15, 16, 17, 18, 19, 20, 21, 22, 23, 24, 25] (by decide +kernel) (by decide +kernel)
set_option maxRecDepth 20000 in
theorem gX9_orders__X9_orders : GoodIn wsX9_orders_ (wsV RX9 254 RX9 yX9_orders wsX9_orders) := goodIn_app (goodIn_of _ (by decide +kernel)) ggX9_orders__X9_orders
theorem dX9_orders__0 : decode cX9_orders_ 0 = .ok (.aload_n 0, 1) := by decide +kernel
theorem dX9_orders__1 : decode cX9_orders_ 1 = .ok (.iconst 0, 1) := by decide +kernel
theorem dX9_orders__2 : decode cX9_orders_ 2 = .ok (.putfield 47, 3) := by decide +kernel
theorem dX9_orders__5 : decode cX9_orders_ 5 = .ok (.aload_n 0, 1) := by decide +kernel
theorem dX9_orders__6 : decode cX9_orders_ 6 = .ok (.iconst 0, 1) := by decide +kernel
theorem dX9_orders__7 : decode cX9_orders_ 7 = .ok (.iconst (-1), 1) := by decide +kernel
theorem dX9_orders__8 : decode cX9_orders_ 8 = .ok (.iconst (-1), 1) := by decide +kernel
theorem dX9_orders__9 : decode cX9_orders_ 9 = .ok (.invokevirtual 254, 3) := by decide +kernel
theorem dX9_orders__12 : decode cX9_orders_ 12 = .ok (.ireturn, 1) := by decide +kernel
set_option maxRecDepth 20000 in
theorem ggX9_pair_X9_orders : GoodIn wsX9_pair wsX9_orders := goodIn_r _ [13, 1, 14, 9, 10, 11, 12, 20, 21, 22, 23, 24, 25, 26, 27, 28, 29, 30, 31, 32, 33, 34, 35, 36] (by decide +kernel) (by decide +kernel)
set_option maxRecDepth 20000 in
theorem gX9_pair_X9_orders : GoodIn wsX9_pair (wsV RX9 254 RX9 yX9_orders wsX9_orders) := goodIn_app (goodIn_of _ (by decide +kernel)) ggX9_pair_X9_orders
set_option maxRecDepth 20000 in
theorem ggX9_pair_X9_isWrong : GoodIn wsX9_pair wsX9_isWrong := goodIn_r _ [18, 19, 20, 21, 22, 23, 24, 25, 26, 27, 28, 29, 30, 31, 32, 33, 34, 35, 36] (by decide +kernel) (by decide +kernel)
set_option maxRecDepth 20000 in
theorem gX9_pair_X9_isWrong : GoodIn wsX9_pair (wsV RX9 62 RX9 yX9_isWrong wsX9_isWrong) := goodIn_app (goodIn_of _ (by decide +kernel)) ggX9_pair_X9_isWrong
theorem dX9_pair_0 : decode cX9_pair 0 = .ok (.aload_n 0, 1) := by decide +kernel
theorem dX9_pair_1 : decode cX9_pair 1 = .ok (.iconst 0, 1) := by decide +kernel
theorem dX9_pair_2 : decode cX9_pair 2 = .ok (.iconst (-1), 1) := by decide +kernel
theorem dX9_pair_3 : decode cX9_pair 3 = .ok (.iconst (-1), 1) := by decide +kernel
theorem dX9_pair_4 : decode cX9_pair 4 = .ok (.invokevirtual 254, 3) := by decide +kernel
theorem dX9_pair_7 : decode cX9_pair 7 = .ok (.istore_n 1, 1) := by decide +kernel
theorem dX9_pair_8 : decode cX9_pair 8 = .ok (.aload_n 0, 1) := by decide +kernel
theorem dX9_pair_9 : decode cX9_pair 9 = .ok (.iload_n 1, 1) := by decide +kernel
theorem dX9_pair_10 : decode cX9_pair 10 = .ok (.iconst 1, 1) := by decide +kernel
theorem dX9_pair_11 : decode cX9_pair 11 = .ok (.if_icmp .ne 7, 3) := by decide +kernel
theorem dX9_pair_14 : decode cX9_pair 14 = .ok (.iconst 1, 1) := by decide +kernel
theorem dX9_pair_15 : decode cX9_pair 15 = .ok (.goto 4, 3) := by decide +kernel
theorem dX9_pair_18 : decode cX9_pair 18 = .ok (.iconst 0, 1) := by decide +kernel
theorem dX9_pair_19 : decode cX9_pair 19 = .ok (.invokevirtual 62, 3) := by decide +kernel
theorem dX9_pair_22 : decode cX9_pair 22 = .ok (.ifCond .eq 5, 3) := by decide +kernel
theorem dX9_pair_25 : decode cX9_pair 25 = .ok (.iconst 0, 1) := by decide +kernel
theorem dX9_pair_26 : decode cX9_pair 26 = .ok (.ireturn, 1) := by decide +kernel
theorem dX9_pair_27 : decode cX9_pair 27 = .ok (.iconst (-1), 1) := by decide +kernel
theorem dX9_pair_28 : decode cX9_pair 28 = .ok (.istore_n 2, 1) := by decide +kernel
theorem dX9_pair_29 : decode cX9_pair 29 = .ok (.iconst (-1), 1) := by decide +kernel
theorem dX9_pair_30 : decode cX9_pair 30 = .ok (.istore_n 3, 1) := by decide +kernel
theorem dX9_pair_31 : decode cX9_pair 31 = .ok (.iconst 0, 1) := by decide +kernel
theorem dX9_pair_32 : decode cX9_pair 32 = .ok (.istore 4, 2) := by decide +kernel
theorem dX9_pair_34 : decode cX9_pair 34 = .ok (.iload 4, 2) := by decide +kernel
theorem dX9_pair_36 : decode cX9_pair 36 = .ok (.aload_n 0, 1) := by decide +kernel
theorem dX9_pair_37 : decode cX9_pair 37 = .ok (.getfield 39, 3) := by decide +kernel
theorem dX9_pair_40 : decode cX9_pair 40 = .ok (.if_icmp .ge 78, 3) := by decide +kernel
theorem dX9_pair_43 : decode cX9_pair 43 = .ok (.iload 4, 2) := by decide +kernel
theorem dX9_pair_45 : decode cX9_pair 45 = .ok (.iconst 1, 1) := by decide +kernel
theorem dX9_pair_46 : decode cX9_pair 46 = .ok (.iadd, 1) := by decide +kernel
theorem dX9_pair_47 : decode cX9_pair 47 = .ok (.istore 5, 2) := by decide +kernel
theorem dX9_pair_49 : decode cX9_pair 49 = .ok (.iload 5, 2) := by decide +kernel
theorem dX9_pair_51 : decode cX9_pair 51 = .ok (.aload_n 0, 1) := by decide +kernel
theorem dX9_pair_52 : decode cX9_pair 52 = .ok (.getfield 39, 3) := by decide +kernel
theorem dX9_pair_55 : decode cX9_pair 55 = .ok (.if_icmp .ge 57, 3) := by decide +kernel
theorem dX9_pair_58 : decode cX9_pair 58 = .ok (.aload_n 0, 1) := by decide +kernel
theorem dX9_pair_59 : decode cX9_pair 59 = .ok (.iconst 0, 1) := by decide +kernel
theorem dX9_pair_60 : decode cX9_pair 60 = .ok (.iload 4, 2) := by decide +kernel
theorem dX9_pair_62 : decode cX9_pair 62 = .ok (.iload 5, 2) := by decide +kernel
theorem dX9_pair_64 : decode cX9_pair 64 = .ok (.invokevirtual 254, 3) := by decide +kernel
theorem dX9_pair_67 : decode cX9_pair 67 = .ok (.istore 6, 2) := by decide +kernel
theorem dX9_pair_69 : decode cX9_pair 69 = .ok (.iload 6, 2) := by decide +kernel
theorem dX9_pair_71 : decode cX9_pair 71 = .ok (.iload_n 1, 1) := by decide +kernel
theorem dX9_pair_72 : decode cX9_pair 72 = .ok (.iload 6, 2) := by decide +kernel
theorem dX9_pair_74 : decode cX9_pair 74 = .ok (.isub, 1) := by decide +kernel
theorem dX9_pair_75 : decode cX9_pair 75 = .ok (.invokestatic 185, 3) := by decide +kernel
theorem dX9_pair_78 : decode cX9_pair 78 = .ok (.istore 7, 2) := by decide +kernel
theorem dX9_pair_80 : decode cX9_pair 80 = .ok (.iload 7, 2) := by decide +kernel
theorem dX9_pair_82 : decode cX9_pair 82 = .ok (.iload_n 3, 1) := by decide +kernel
theorem dX9_pair_83 : decode cX9_pair 83 = .ok (.if_icmp .le 14, 3) := by decide +kernel
theorem dX9_pair_86 : decode cX9_pair 86 = .ok (.bipush 10, 2) := by decide +kernel
theorem dX9_pair_88 : decode cX9_pair 88 = .ok (.iload 4, 2) := by decide +kernel
theorem dX9_pair_90 : decode cX9_pair 90 = .ok (.imul, 1) := by decide +kernel
theorem dX9_pair_91 : decode cX9_pair 91 = .ok (.iload 5, 2) := by decide +kernel
theorem dX9_pair_93 : decode cX9_pair 93 = .ok (.iadd, 1) := by decide +kernel
theorem dX9_pair_94 : decode cX9_pair 94 = .ok (.goto 4, 3) := by decide +kernel
theorem dX9_pair_97 : decode cX9_pair 97 = .ok (.iload_n 2, 1) := by decide +kernel
theorem dX9_pair_98 : decode cX9_pair 98 = .ok (.istore_n 2, 1) := by decide +kernel
theorem dX9_pair_99 : decode cX9_pair 99 = .ok (.iload_n 3, 1) := by decide +kernel
theorem dX9_pair_100 : decode cX9_pair 100 = .ok (.iload 7, 2) := by decide +kernel
theorem dX9_pair_102 : decode cX9_pair 102 = .ok (.invokestatic 173, 3) := by decide +kernel
theorem dX9_pair_105 : decode cX9_pair 105 = .ok (.istore_n 3, 1) := by decide +kernel
theorem dX9_pair_106 : decode cX9_pair 106 = .ok (.iinc 5 1, 3) := by decide +kernel
theorem dX9_pair_109 : decode cX9_pair 109 = .ok (.goto (-60), 3) := by decide +kernel
theorem dX9_pair_112 : decode cX9_pair 112 = .ok (.iinc 4 1, 3) := by decide +kernel
theorem dX9_pair_115 : decode cX9_pair 115 = .ok (.goto (-81), 3) := by decide +kernel
theorem dX9_pair_118 : decode cX9_pair 118 = .ok (.iload_n 2, 1) := by decide +kernel
theorem dX9_pair_119 : decode cX9_pair 119 = .ok (.ireturn, 1) := by decide +kernel
set_option maxRecDepth 20000 in
theorem ggX9_checksum_Jx4a65c_iterator_32c93 : GoodIn wsX9_checksum wsJx4a65c_iterator_32c93 := goodIn_r _ [11, 12, 13, 14, 15, 16, 17, 18, 19, 20, 21, 22, 23, 24, 25, 87, 88, 89, 90, 91, 92, 93] (by decide +kernel) (by decide +kernel)
set_option maxRecDepth 20000 in
theorem gX9_checksum_Jx4a65c_iterator_32c93_f72Jx4a65c : GoodIn wsX9_checksum (va_wsF RX9 72 RJx4a65c ⟨"java/util/List", "iterator", "()Ljava/util/Iterator;"⟩ yJx4a65c_iterator_32c93 wsJx4a65c_iterator_32c93) := goodIn_app (goodIn_of _ (by decide +kernel)) ggX9_checksum_Jx4a65c_iterator_32c93
set_option maxRecDepth 20000 in
theorem ggX9_checksum_Jx35411_hasNext_aae02 : GoodIn wsX9_checksum wsJx35411_hasNext_aae02 := goodIn_r _ [29, 30, 18, 87, 88, 89, 90, 91, 92, 93] (by decide +kernel) (by decide +kernel)
set_option maxRecDepth 20000 in
theorem gX9_checksum_Jx35411_hasNext_aae02_f76Jx35411 : GoodIn wsX9_checksum (va_wsF RX9 76 RJx35411 ⟨"java/util/Iterator", "hasNext", "()Z"⟩ yJx35411_hasNext_aae02 wsJx35411_hasNext_aae02) := goodIn_app (goodIn_of _ (by decide +kernel)) ggX9_checksum_Jx35411_hasNext_aae02
set_option maxRecDepth 20000 in
theorem ggX9_checksum_Jx35411_next_0502b : GoodIn wsX9_checksum wsJx35411_next_0502b := goodIn_r _ [34, 30, 18, 35, 22, 36, 37, 38, 14, 39, 23, 24, 25, 87, 88, 89, 90, 91, 92, 93] (by decide +kernel) (by decide +kernel)
set_option maxRecDepth 20000 in
theorem gX9_checksum_Jx35411_next_0502b_f82Jx35411 : GoodIn wsX9_checksum (va_wsF RX9 82 RJx35411 ⟨"java/util/Iterator", "next", "()Ljava/lang/Object;"⟩ yJx35411_next_0502b wsJx35411_next_0502b) := goodIn_app (goodIn_of _ (by decide +kernel)) ggX9_checksum_Jx35411_next_0502b
set_option maxRecDepth 20000 in
theorem ggX9_checksum_X9_possibleCodes : GoodIn wsX9_checksum wsX9_possibleCodes := goodIn_r _ [44, 45, 46, 47, 43, 48, 49, 4, 50, 51, 52, 53, 54, 55, 56, 7, 8, 9, 10, 11, 12, 13, 14, 15, 16, 17, 18, 19, 20, 21, 22, 23, 24, 25, 26, 27, 28, 29, 30, 31, 32, 33, 34, 35, 36, 37, 38, 39, 57, 58, 59, 60, 61, 62, 63, 70, 71, 72, 73, 74, 75, 76, 77, 78, 79, 80, 81, 82, 83, 84, 85, 86, 87, 88, 89, 90, 91, 92, 93] (by decide +kernel) (by decide +kernel)
set_option maxRecDepth 20000 in
theorem gX9_checksum_X9_possibleCodes : GoodIn wsX9_checksum (wsV RX9 249 RX9 yX9_possibleCodes wsX9_possibleCodes) := goodIn_app (goodIn_of _ (by decide +kernel)) ggX9_checksum_X9_possibleCodes
set_option maxRecDepth 20000 in
theorem ggX9_checksum_X9_orders : GoodIn wsX9_checksum wsX9_orders := goodIn_r _ [67, 68, 69, 64, 65, 66, 43, 70, 71, 72, 73, 74, 75, 76, 77, 78, 79, 80, 81, 82, 83, 84, 85, 86] (by decide +kernel) (by decide +kernel)
set_option maxRecDepth 20000 in
theorem gX9_checksum_X9_orders : GoodIn wsX9_checksum (wsV RX9 254 RX9 yX9_orders wsX9_orders) := goodIn_app (goodIn_of _ (by decide +kernel)) ggX9_checksum_X9_orders
theorem dX9_checksum_0 : decode cX9_checksum 0 = .ok (.aload_n 0, 1) := by decide +kernel
theorem dX9_checksum_1 : decode cX9_checksum 1 = .ok (.iconst 0, 1) := by decide +kernel
theorem dX9_checksum_2 : decode cX9_checksum 2 = .ok (.putfield 47, 3) := by decide +kernel
theorem dX9_checksum_5 : decode cX9_checksum 5 = .ok (.ldc2_w 260, 3) := by decide +kernel
theorem dX9_checksum_8 : decode cX9_checksum 8 = .ok (.lstore_n 1, 1) := by decide +kernel
theorem dX9_checksum_9 : decode cX9_checksum 9 = .ok (.aload_n 0, 1) := by decide +kernel
theorem dX9_checksum_10 : decode cX9_checksum 10 = .ok (.getfield 10, 3) := by decide +kernel
theorem dX9_checksum_13 : decode cX9_checksum 13 = .ok (.invokeinterface 72 1, 5) := by decide +kernel
theorem dX9_checksum_18 : decode cX9_checksum 18 = .ok (.astore_n 3, 1) := by decide +kernel
theorem dX9_checksum_19 : decode cX9_checksum 19 = .ok (.aload_n 3, 1) := by decide +kernel
theorem dX9_checksum_20 : decode cX9_checksum 20 = .ok (.invokeinterface 76 1, 5) := by decide +kernel
theorem dX9_checksum_25 : decode cX9_checksum 25 = .ok (.ifCond .eq 51, 3) := by decide +kernel
theorem dX9_checksum_28 : decode cX9_checksum 28 = .ok (.aload_n 3, 1) := by decide +kernel
theorem dX9_checksum_29 : decode cX9_checksum 29 = .ok (.invokeinterface 82 1, 5) := by decide +kernel
theorem dX9_checksum_34 : decode cX9_checksum 34 = .ok (.checkcast 86, 3) := by decide +kernel
theorem dX9_checksum_37 : decode cX9_checksum 37 = .ok (.astore 4, 2) := by decide +kernel
theorem dX9_checksum_39 : decode cX9_checksum 39 = .ok (.ldc2_w 262, 3) := by decide +kernel
theorem dX9_checksum_42 : decode cX9_checksum 42 = .ok (.ldc2_w 262, 3) := by decide +kernel
theorem dX9_checksum_45 : decode cX9_checksum 45 = .ok (.lload_n 1, 1) := by decide +kernel
theorem dX9_checksum_46 : decode cX9_checksum 46 = .ok (.lmul, 1) := by decide +kernel
theorem dX9_checksum_47 : decode cX9_checksum 47 = .ok (.aload 4, 2) := by decide +kernel
theorem dX9_checksum_49 : decode cX9_checksum 49 = .ok (.iconst 0, 1) := by decide +kernel
theorem dX9_checksum_50 : decode cX9_checksum 50 = .ok (.iaload, 1) := by decide +kernel
theorem dX9_checksum_51 : decode cX9_checksum 51 = .ok (.i2l, 1) := by decide +kernel
theorem dX9_checksum_52 : decode cX9_checksum 52 = .ok (.ladd, 1) := by decide +kernel
theorem dX9_checksum_53 : decode cX9_checksum 53 = .ok (.lmul, 1) := by decide +kernel
theorem dX9_checksum_54 : decode cX9_checksum 54 = .ok (.aload 4, 2) := by decide +kernel
theorem dX9_checksum_56 : decode cX9_checksum 56 = .ok (.iconst 2, 1) := by decide +kernel
theorem dX9_checksum_57 : decode cX9_checksum 57 = .ok (.iaload, 1) := by decide +kernel
theorem dX9_checksum_58 : decode cX9_checksum 58 = .ok (.iconst 1, 1) := by decide +kernel
theorem dX9_checksum_59 : decode cX9_checksum 59 = .ok (.if_icmp .ne 7, 3) := by decide +kernel
theorem dX9_checksum_62 : decode cX9_checksum 62 = .ok (.iconst (-1), 1) := by decide +kernel
theorem dX9_checksum_63 : decode cX9_checksum 63 = .ok (.goto 7, 3) := by decide +kernel
theorem dX9_checksum_66 : decode cX9_checksum 66 = .ok (.aload 4, 2) := by decide +kernel
theorem dX9_checksum_68 : decode cX9_checksum 68 = .ok (.iconst 1, 1) := by decide +kernel
theorem dX9_checksum_69 : decode cX9_checksum 69 = .ok (.iaload, 1) := by decide +kernel
theorem dX9_checksum_70 : decode cX9_checksum 70 = .ok (.i2l, 1) := by decide +kernel
theorem dX9_checksum_71 : decode cX9_checksum 71 = .ok (.ladd, 1) := by decide +kernel
theorem dX9_checksum_72 : decode cX9_checksum 72 = .ok (.lstore_n 1, 1) := by decide +kernel
theorem dX9_checksum_73 : decode cX9_checksum 73 = .ok (.goto (-54), 3) := by decide +kernel
theorem dX9_checksum_76 : decode cX9_checksum 76 = .ok (.aload_n 0, 1) := by decide +kernel
theorem dX9_checksum_77 : decode cX9_checksum 77 = .ok (.getfield 27, 3) := by decide +kernel
theorem dX9_checksum_80 : decode cX9_checksum 80 = .ok (.invokeinterface 72 1, 5) := by decide +kernel
theorem dX9_checksum_85 : decode cX9_checksum 85 = .ok (.astore_n 3, 1) := by decide +kernel
theorem dX9_checksum_86 : decode cX9_checksum 86 = .ok (.aload_n 3, 1) := by decide +kernel
theorem dX9_checksum_87 : decode cX9_checksum 87 = .ok (.invokeinterface 76 1, 5) := by decide +kernel
theorem dX9_checksum_92 : decode cX9_checksum 92 = .ok (.ifCond .eq 29, 3) := by decide +kernel
theorem dX9_checksum_95 : decode cX9_checksum 95 = .ok (.aload_n 3, 1) := by decide +kernel
theorem dX9_checksum_96 : decode cX9_checksum 96 = .ok (.invokeinterface 82 1, 5) := by decide +kernel
theorem dX9_checksum_101 : decode cX9_checksum 101 = .ok (.checkcast 86, 3) := by decide +kernel
theorem dX9_checksum_104 : decode cX9_checksum 104 = .ok (.astore 4, 2) := by decide +kernel
theorem dX9_checksum_106 : decode cX9_checksum 106 = .ok (.ldc2_w 262, 3) := by decide +kernel
theorem dX9_checksum_109 : decode cX9_checksum 109 = .ok (.lload_n 1, 1) := by decide +kernel
theorem dX9_checksum_110 : decode cX9_checksum 110 = .ok (.lmul, 1) := by decide +kernel
theorem dX9_checksum_111 : decode cX9_checksum 111 = .ok (.aload 4, 2) := by decide +kernel
theorem dX9_checksum_113 : decode cX9_checksum 113 = .ok (.iconst 0, 1) := by decide +kernel
theorem dX9_checksum_114 : decode cX9_checksum 114 = .ok (.iaload, 1) := by decide +kernel
theorem dX9_checksum_115 : decode cX9_checksum 115 = .ok (.i2l, 1) := by decide +kernel
theorem dX9_checksum_116 : decode cX9_checksum 116 = .ok (.ladd, 1) := by decide +kernel
theorem dX9_checksum_117 : decode cX9_checksum 117 = .ok (.lstore_n 1, 1) := by decide +kernel
theorem dX9_checksum_118 : decode cX9_checksum 118 = .ok (.goto (-32), 3) := by decide +kernel
theorem dX9_checksum_121 : decode cX9_checksum 121 = .ok (.ldc2_w 262, 3) := by decide +kernel
theorem dX9_checksum_124 : decode cX9_checksum 124 = .ok (.ldc2_w 262, 3) := by decide +kernel
theorem dX9_checksum_127 : decode cX9_checksum 127 = .ok (.lload_n 1, 1) := by decide +kernel
theorem dX9_checksum_128 : decode cX9_checksum 128 = .ok (.lmul, 1) := by decide +kernel
theorem dX9_checksum_129 : decode cX9_checksum 129 = .ok (.aload_n 0, 1) := by decide +kernel
theorem dX9_checksum_130 : decode cX9_checksum 130 = .ok (.invokevirtual 249, 3) := by decide +kernel
theorem dX9_checksum_133 : decode cX9_checksum 133 = .ok (.i2l, 1) := by decide +kernel
theorem dX9_checksum_134 : decode cX9_checksum 134 = .ok (.ladd, 1) := by decide +kernel
theorem dX9_checksum_135 : decode cX9_checksum 135 = .ok (.lmul, 1) := by decide +kernel
theorem dX9_checksum_136 : decode cX9_checksum 136 = .ok (.aload_n 0, 1) := by decide +kernel
theorem dX9_checksum_137 : decode cX9_checksum 137 = .ok (.iconst 0, 1) := by decide +kernel
theorem dX9_checksum_138 : decode cX9_checksum 138 = .ok (.iconst (-1), 1) := by decide +kernel
theorem dX9_checksum_139 : decode cX9_checksum 139 = .ok (.iconst (-1), 1) := by decide +kernel
theorem dX9_checksum_140 : decode cX9_checksum 140 = .ok (.invokevirtual 254, 3) := by decide +kernel
theorem dX9_checksum_143 : decode cX9_checksum 143 = .ok (.i2l, 1) := by decide +kernel
theorem dX9_checksum_144 : decode cX9_checksum 144 = .ok (.ladd, 1) := by decide +kernel
theorem dX9_checksum_145 : decode cX9_checksum 145 = .ok (.lreturn, 1) := by decide +kernel
set_option maxRecDepth 20000 in
theorem ggX9_aliveShare_Jx4a65c_isEmpty_aae02 : GoodIn wsX9_aliveShare wsJx4a65c_isEmpty_aae02 := goodIn_r _ [6, 7, 77, 78, 79] (by decide +kernel) (by decide +kernel)
set_option maxRecDepth 20000 in
theorem gX9_aliveShare_Jx4a65c_isEmpty_aae02_f135Jx4a65c : GoodIn wsX9_aliveShare (va_wsF RX9 135 RJx4a65c ⟨"java/util/List", "isEmpty", "()Z"⟩ yJx4a65c_isEmpty_aae02 wsJx4a65c_isEmpty_aae02) := goodIn_app (goodIn_of _ (by decide +kernel)) ggX9_aliveShare_Jx4a65c_isEmpty_aae02
set_option maxRecDepth 20000 in
theorem ggX9_aliveShare_X9_isWrong : GoodIn wsX9_aliveShare wsX9_isWrong := goodIn_r _ [12, 13, 60, 61, 62, 63, 64, 65, 66, 67, 68, 69, 70, 71, 72, 73, 74, 75, 76] (by decide +kernel) (by decide +kernel)
set_option maxRecDepth 20000 in
theorem gX9_aliveShare_X9_isWrong : GoodIn wsX9_aliveShare (wsV RX9 62 RX9 yX9_isWrong wsX9_isWrong) := goodIn_app (goodIn_of _ (by decide +kernel)) ggX9_aliveShare_X9_isWrong
set_option maxRecDepth 20000 in
theorem ggX9_aliveShare_X9_living : GoodIn wsX9_aliveShare wsX9_living := goodIn_r _ [17, 1, 18, 19, 20, 21, 5, 22, 23, 24, 25, 26, 27, 28, 29, 30, 31, 32, 33, 34, 35, 36, 37, 38, 39, 40, 41, 42, 43, 44, 45, 46, 47, 48, 49, 50, 51, 52, 53, 11, 54, 55, 60, 61, 62, 63, 64, 65, 66, 67, 68, 69, 70, 71, 72, 73, 74, 75, 76, 80, 81, 82, 83, 77, 78, 79] (by decide +kernel) (by decide +kernel)
set_option maxRecDepth 20000 in
theorem gX9_aliveShare_X9_living : GoodIn wsX9_aliveShare (wsV RX9 160 RX9 yX9_living wsX9_living) := goodIn_app (goodIn_of _ (by decide +kernel)) ggX9_aliveShare_X9_living
set_option maxRecDepth 20000 in
theorem ggX9_aliveShare_Jx4a65c_size_8abf5 : GoodIn wsX9_aliveShare wsJx4a65c_size_8abf5 := goodIn_r _ [59, 7, 77, 78, 79] (by decide +kernel) (by decide +kernel)
set_option maxRecDepth 20000 in
theorem gX9_aliveShare_Jx4a65c_size_8abf5_f50Jx4a65c : GoodIn wsX9_aliveShare (va_wsF RX9 50 RJx4a65c ⟨"java/util/List", "size", "()I"⟩ yJx4a65c_size_8abf5 wsJx4a65c_size_8abf5) := goodIn_app (goodIn_of _ (by decide +kernel)) ggX9_aliveShare_Jx4a65c_size_8abf5
theorem dX9_aliveShare_0 : decode cX9_aliveShare 0 = .ok (.aload_n 0, 1) := by decide +kernel
theorem dX9_aliveShare_1 : decode cX9_aliveShare 1 = .ok (.aload_n 0, 1) := by decide +kernel
theorem dX9_aliveShare_2 : decode cX9_aliveShare 2 = .ok (.getfield 10, 3) := by decide +kernel
theorem dX9_aliveShare_5 : decode cX9_aliveShare 5 = .ok (.invokeinterface 135 1, 5) := by decide +kernel
theorem dX9_aliveShare_10 : decode cX9_aliveShare 10 = .ok (.ifCond .eq 7, 3) := by decide +kernel
theorem dX9_aliveShare_13 : decode cX9_aliveShare 13 = .ok (.iconst 1, 1) := by decide +kernel
theorem dX9_aliveShare_14 : decode cX9_aliveShare 14 = .ok (.goto 4, 3) := by decide +kernel
theorem dX9_aliveShare_17 : decode cX9_aliveShare 17 = .ok (.iconst 0, 1) := by decide +kernel
theorem dX9_aliveShare_18 : decode cX9_aliveShare 18 = .ok (.invokevirtual 62, 3) := by decide +kernel
theorem dX9_aliveShare_21 : decode cX9_aliveShare 21 = .ok (.ifCond .eq 7, 3) := by decide +kernel
theorem dX9_aliveShare_24 : decode cX9_aliveShare 24 = .ok (.fconst 0, 1) := by decide +kernel
theorem dX9_aliveShare_25 : decode cX9_aliveShare 25 = .ok (.goto 19, 3) := by decide +kernel
theorem dX9_aliveShare_28 : decode cX9_aliveShare 28 = .ok (.aload_n 0, 1) := by decide +kernel
theorem dX9_aliveShare_29 : decode cX9_aliveShare 29 = .ok (.invokevirtual 160, 3) := by decide +kernel
theorem dX9_aliveShare_32 : decode cX9_aliveShare 32 = .ok (.i2f, 1) := by decide +kernel
theorem dX9_aliveShare_33 : decode cX9_aliveShare 33 = .ok (.aload_n 0, 1) := by decide +kernel
theorem dX9_aliveShare_34 : decode cX9_aliveShare 34 = .ok (.getfield 10, 3) := by decide +kernel
theorem dX9_aliveShare_37 : decode cX9_aliveShare 37 = .ok (.invokeinterface 50 1, 5) := by decide +kernel
theorem dX9_aliveShare_42 : decode cX9_aliveShare 42 = .ok (.i2f, 1) := by decide +kernel
theorem dX9_aliveShare_43 : decode cX9_aliveShare 43 = .ok (.fdiv, 1) := by decide +kernel
theorem dX9_aliveShare_44 : decode cX9_aliveShare 44 = .ok (.freturn, 1) := by decide +kernel
set_option maxRecDepth 20000 in
theorem ggX9_meanLesson_Jx4a65c_size_8abf5 : GoodIn wsX9_meanLesson wsJx4a65c_size_8abf5 := goodIn_r _ [6, 7, 69, 70, 71] (by decide +kernel) (by decide +kernel)
set_option maxRecDepth 20000 in
theorem gX9_meanLesson_Jx4a65c_size_8abf5_f50Jx4a65c : GoodIn wsX9_meanLesson (va_wsF RX9 50 RJx4a65c ⟨"java/util/List", "size", "()I"⟩ yJx4a65c_size_8abf5 wsJx4a65c_size_8abf5) := goodIn_app (goodIn_of _ (by decide +kernel)) ggX9_meanLesson_Jx4a65c_size_8abf5
set_option maxRecDepth 20000 in
theorem ggX9_meanLesson_X9_lessonOf : GoodIn wsX9_meanLesson wsX9_lessonOf := goodIn_r _ [12, 13, 1, 14, 15, 16, 17, 18, 2, 3, 4, 5, 6, 7, 19, 20, 21, 22, 23, 24, 25, 26, 27, 28, 29, 30, 31, 32, 33, 34, 35, 36, 37, 38, 39, 40, 41, 42, 52, 53, 54, 55, 56, 57, 58, 59, 60, 61, 62, 63, 64, 65, 66, 67, 68, 69, 70, 71] (by decide +kernel) (by decide +kernel)
set_option maxRecDepth 20000 in
theorem gX9_meanLesson_X9_lessonOf : GoodIn wsX9_meanLesson (wsV RX9 197 RX9 yX9_lessonOf wsX9_lessonOf) := goodIn_app (goodIn_of _ (by decide +kernel)) ggX9_meanLesson_X9_lessonOf
set_option maxRecDepth 20000 in
theorem ggX9_meanLesson_Jx4a65c_isEmpty_aae02 : GoodIn wsX9_meanLesson wsJx4a65c_isEmpty_aae02 := goodIn_r _ [46, 7, 69, 70, 71] (by decide +kernel) (by decide +kernel)
set_option maxRecDepth 20000 in
theorem gX9_meanLesson_Jx4a65c_isEmpty_aae02_f135Jx4a65c : GoodIn wsX9_meanLesson (va_wsF RX9 135 RJx4a65c ⟨"java/util/List", "isEmpty", "()Z"⟩ yJx4a65c_isEmpty_aae02 wsJx4a65c_isEmpty_aae02) := goodIn_app (goodIn_of _ (by decide +kernel)) ggX9_meanLesson_Jx4a65c_isEmpty_aae02
set_option maxRecDepth 20000 in
theorem ggX9_meanLesson_X9_isWrong : GoodIn wsX9_meanLesson wsX9_isWrong := goodIn_r _ [50, 51, 52, 53, 54, 55, 56, 57, 58, 59, 60, 61, 62, 63, 64, 65, 66, 67, 68] (by decide +kernel) (by decide +kernel)
set_option maxRecDepth 20000 in
theorem gX9_meanLesson_X9_isWrong : GoodIn wsX9_meanLesson (wsV RX9 62 RX9 yX9_isWrong wsX9_isWrong) := goodIn_app (goodIn_of _ (by decide +kernel)) ggX9_meanLesson_X9_isWrong
theorem dX9_meanLesson_0 : decode cX9_meanLesson 0 = .ok (.iconst 0, 1) := by decide +kernel
theorem dX9_meanLesson_1 : decode cX9_meanLesson 1 = .ok (.istore_n 1, 1) := by decide +kernel
theorem dX9_meanLesson_2 : decode cX9_meanLesson 2 = .ok (.iconst 0, 1) := by decide +kernel
theorem dX9_meanLesson_3 : decode cX9_meanLesson 3 = .ok (.istore_n 2, 1) := by decide +kernel
theorem dX9_meanLesson_4 : decode cX9_meanLesson 4 = .ok (.iload_n 2, 1) := by decide +kernel
theorem dX9_meanLesson_5 : decode cX9_meanLesson 5 = .ok (.aload_n 0, 1) := by decide +kernel
theorem dX9_meanLesson_6 : decode cX9_meanLesson 6 = .ok (.getfield 10, 3) := by decide +kernel
theorem dX9_meanLesson_9 : decode cX9_meanLesson 9 = .ok (.invokeinterface 50 1, 5) := by decide +kernel
theorem dX9_meanLesson_14 : decode cX9_meanLesson 14 = .ok (.if_icmp .ge 17, 3) := by decide +kernel
theorem dX9_meanLesson_17 : decode cX9_meanLesson 17 = .ok (.iload_n 1, 1) := by decide +kernel
theorem dX9_meanLesson_18 : decode cX9_meanLesson 18 = .ok (.aload_n 0, 1) := by decide +kernel
theorem dX9_meanLesson_19 : decode cX9_meanLesson 19 = .ok (.iload_n 2, 1) := by decide +kernel
theorem dX9_meanLesson_20 : decode cX9_meanLesson 20 = .ok (.invokevirtual 197, 3) := by decide +kernel
theorem dX9_meanLesson_23 : decode cX9_meanLesson 23 = .ok (.iadd, 1) := by decide +kernel
theorem dX9_meanLesson_24 : decode cX9_meanLesson 24 = .ok (.istore_n 1, 1) := by decide +kernel
theorem dX9_meanLesson_25 : decode cX9_meanLesson 25 = .ok (.iinc 2 1, 3) := by decide +kernel
theorem dX9_meanLesson_28 : decode cX9_meanLesson 28 = .ok (.goto (-24), 3) := by decide +kernel
theorem dX9_meanLesson_31 : decode cX9_meanLesson 31 = .ok (.aload_n 0, 1) := by decide +kernel
theorem dX9_meanLesson_32 : decode cX9_meanLesson 32 = .ok (.aload_n 0, 1) := by decide +kernel
theorem dX9_meanLesson_33 : decode cX9_meanLesson 33 = .ok (.getfield 10, 3) := by decide +kernel
theorem dX9_meanLesson_36 : decode cX9_meanLesson 36 = .ok (.invokeinterface 135 1, 5) := by decide +kernel
theorem dX9_meanLesson_41 : decode cX9_meanLesson 41 = .ok (.ifCond .eq 7, 3) := by decide +kernel
theorem dX9_meanLesson_44 : decode cX9_meanLesson 44 = .ok (.iconst 1, 1) := by decide +kernel
theorem dX9_meanLesson_45 : decode cX9_meanLesson 45 = .ok (.goto 4, 3) := by decide +kernel
theorem dX9_meanLesson_48 : decode cX9_meanLesson 48 = .ok (.iconst 0, 1) := by decide +kernel
theorem dX9_meanLesson_49 : decode cX9_meanLesson 49 = .ok (.invokevirtual 62, 3) := by decide +kernel
theorem dX9_meanLesson_52 : decode cX9_meanLesson 52 = .ok (.ifCond .eq 7, 3) := by decide +kernel
theorem dX9_meanLesson_55 : decode cX9_meanLesson 55 = .ok (.dconst 0, 1) := by decide +kernel
theorem dX9_meanLesson_56 : decode cX9_meanLesson 56 = .ok (.goto 16, 3) := by decide +kernel
theorem dX9_meanLesson_59 : decode cX9_meanLesson 59 = .ok (.iload_n 1, 1) := by decide +kernel
theorem dX9_meanLesson_60 : decode cX9_meanLesson 60 = .ok (.i2d, 1) := by decide +kernel
theorem dX9_meanLesson_61 : decode cX9_meanLesson 61 = .ok (.aload_n 0, 1) := by decide +kernel
theorem dX9_meanLesson_62 : decode cX9_meanLesson 62 = .ok (.getfield 10, 3) := by decide +kernel
theorem dX9_meanLesson_65 : decode cX9_meanLesson 65 = .ok (.invokeinterface 50 1, 5) := by decide +kernel
theorem dX9_meanLesson_70 : decode cX9_meanLesson 70 = .ok (.i2d, 1) := by decide +kernel
theorem dX9_meanLesson_71 : decode cX9_meanLesson 71 = .ok (.ddiv, 1) := by decide +kernel
theorem dX9_meanLesson_72 : decode cX9_meanLesson 72 = .ok (.dreturn, 1) := by decide +kernel
theorem dX9_isSound_0 : decode cX9_isSound 0 = .ok (.aload_n 0, 1) := by decide +kernel
theorem dX9_isSound_1 : decode cX9_isSound 1 = .ok (.iconst 0, 1) := by decide +kernel
theorem dX9_isSound_2 : decode cX9_isSound 2 = .ok (.putfield 47, 3) := by decide +kernel
theorem dX9_isSound_5 : decode cX9_isSound 5 = .ok (.iconst 1, 1) := by decide +kernel
theorem dX9_isSound_6 : decode cX9_isSound 6 = .ok (.ireturn, 1) := by decide +kernel

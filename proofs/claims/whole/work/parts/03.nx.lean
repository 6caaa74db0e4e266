theorem dX0_init_0 : decode cX0_init 0 = .ok (.aload_n 0, 1) := by decide +kernel
theorem dX0_init_1 : decode cX0_init 1 = .ok (.invokespecial 1, 3) := by decide +kernel
theorem dX0_init_4 : decode cX0_init 4 = .ok (.aload_n 0, 1) := by decide +kernel
theorem dX0_init_5 : decode cX0_init 5 = .ok (.ldc2_w 7, 3) := by decide +kernel
theorem dX0_init_8 : decode cX0_init 8 = .ok (.putfield 9, 3) := by decide +kernel
theorem dX0_init_11 : decode cX0_init 11 = .ok (.return_, 1) := by decide +kernel
theorem dX0_isCode_0 : decode cX0_isCode 0 = .ok (.iload_n 0, 1) := by decide +kernel
theorem dX0_isCode_1 : decode cX0_isCode 1 = .ok (.ifCond .lt 33, 3) := by decide +kernel
theorem dX0_isCode_4 : decode cX0_isCode 4 = .ok (.iload_n 0, 1) := by decide +kernel
theorem dX0_isCode_5 : decode cX0_isCode 5 = .ok (.sipush 333, 3) := by decide +kernel
theorem dX0_isCode_8 : decode cX0_isCode 8 = .ok (.if_icmp .gt 26, 3) := by decide +kernel
theorem dX0_isCode_11 : decode cX0_isCode 11 = .ok (.iload_n 0, 1) := by decide +kernel
theorem dX0_isCode_12 : decode cX0_isCode 12 = .ok (.bipush 10, 2) := by decide +kernel
theorem dX0_isCode_14 : decode cX0_isCode 14 = .ok (.idiv, 1) := by decide +kernel
theorem dX0_isCode_15 : decode cX0_isCode 15 = .ok (.bipush 10, 2) := by decide +kernel
theorem dX0_isCode_17 : decode cX0_isCode 17 = .ok (.irem, 1) := by decide +kernel
theorem dX0_isCode_18 : decode cX0_isCode 18 = .ok (.iconst 4, 1) := by decide +kernel
theorem dX0_isCode_19 : decode cX0_isCode 19 = .ok (.if_icmp .ge 15, 3) := by decide +kernel
theorem dX0_isCode_22 : decode cX0_isCode 22 = .ok (.iload_n 0, 1) := by decide +kernel
theorem dX0_isCode_23 : decode cX0_isCode 23 = .ok (.bipush 10, 2) := by decide +kernel
theorem dX0_isCode_25 : decode cX0_isCode 25 = .ok (.irem, 1) := by decide +kernel
theorem dX0_isCode_26 : decode cX0_isCode 26 = .ok (.iconst 4, 1) := by decide +kernel
theorem dX0_isCode_27 : decode cX0_isCode 27 = .ok (.if_icmp .ge 7, 3) := by decide +kernel
theorem dX0_isCode_30 : decode cX0_isCode 30 = .ok (.iconst 1, 1) := by decide +kernel
theorem dX0_isCode_31 : decode cX0_isCode 31 = .ok (.goto 4, 3) := by decide +kernel
theorem dX0_isCode_34 : decode cX0_isCode 34 = .ok (.iconst 0, 1) := by decide +kernel
theorem dX0_isCode_35 : decode cX0_isCode 35 = .ok (.ireturn, 1) := by decide +kernel
theorem dX0_packed_0 : decode cX0_packed 0 = .ok (.iload_n 0, 1) := by decide +kernel
theorem dX0_packed_1 : decode cX0_packed 1 = .ok (.bipush 100, 2) := by decide +kernel
theorem dX0_packed_3 : decode cX0_packed 3 = .ok (.idiv, 1) := by decide +kernel
theorem dX0_packed_4 : decode cX0_packed 4 = .ok (.iconst 4, 1) := by decide +kernel
theorem dX0_packed_5 : decode cX0_packed 5 = .ok (.ishl, 1) := by decide +kernel
theorem dX0_packed_6 : decode cX0_packed 6 = .ok (.iload_n 0, 1) := by decide +kernel
theorem dX0_packed_7 : decode cX0_packed 7 = .ok (.bipush 10, 2) := by decide +kernel
theorem dX0_packed_9 : decode cX0_packed 9 = .ok (.idiv, 1) := by decide +kernel
theorem dX0_packed_10 : decode cX0_packed 10 = .ok (.bipush 10, 2) := by decide +kernel
theorem dX0_packed_12 : decode cX0_packed 12 = .ok (.irem, 1) := by decide +kernel
theorem dX0_packed_13 : decode cX0_packed 13 = .ok (.iconst 2, 1) := by decide +kernel
theorem dX0_packed_14 : decode cX0_packed 14 = .ok (.ishl, 1) := by decide +kernel
theorem dX0_packed_15 : decode cX0_packed 15 = .ok (.ior, 1) := by decide +kernel
theorem dX0_packed_16 : decode cX0_packed 16 = .ok (.iload_n 0, 1) := by decide +kernel
theorem dX0_packed_17 : decode cX0_packed 17 = .ok (.bipush 10, 2) := by decide +kernel
theorem dX0_packed_19 : decode cX0_packed 19 = .ok (.irem, 1) := by decide +kernel
theorem dX0_packed_20 : decode cX0_packed 20 = .ok (.ior, 1) := by decide +kernel
theorem dX0_packed_21 : decode cX0_packed 21 = .ok (.ireturn, 1) := by decide +kernel
theorem dX0_digit_0 : decode cX0_digit 0 = .ok (.iload_n 0, 1) := by decide +kernel
theorem dX0_digit_1 : decode cX0_digit 1 = .ok (.iconst 2, 1) := by decide +kernel
theorem dX0_digit_2 : decode cX0_digit 2 = .ok (.iload_n 1, 1) := by decide +kernel
theorem dX0_digit_3 : decode cX0_digit 3 = .ok (.imul, 1) := by decide +kernel
theorem dX0_digit_4 : decode cX0_digit 4 = .ok (.ishr, 1) := by decide +kernel
theorem dX0_digit_5 : decode cX0_digit 5 = .ok (.iconst 3, 1) := by decide +kernel
theorem dX0_digit_6 : decode cX0_digit 6 = .ok (.iand, 1) := by decide +kernel
theorem dX0_digit_7 : decode cX0_digit 7 = .ok (.ireturn, 1) := by decide +kernel
set_option maxRecDepth 20000 in
theorem ggX0_startAnew_X0_packed : GoodIn wsX0_startAnew wsX0_packed := goodIn_r _ [8] (by decide +kernel) (by decide +kernel)
set_option maxRecDepth 20000 in
theorem gX0_startAnew_X0_packed : GoodIn wsX0_startAnew (va_wsS RX0 15 yX0_packed wsX0_packed) := goodIn_app (goodIn_of _ (by decide +kernel)) ggX0_startAnew_X0_packed
theorem dX0_startAnew_0 : decode cX0_startAnew 0 = .ok (.aload_n 0, 1) := by decide +kernel
theorem dX0_startAnew_1 : decode cX0_startAnew 1 = .ok (.iload_n 1, 1) := by decide +kernel
theorem dX0_startAnew_2 : decode cX0_startAnew 2 = .ok (.invokestatic 15, 3) := by decide +kernel
theorem dX0_startAnew_5 : decode cX0_startAnew 5 = .ok (.putfield 19, 3) := by decide +kernel
theorem dX0_startAnew_8 : decode cX0_startAnew 8 = .ok (.aload_n 0, 1) := by decide +kernel
theorem dX0_startAnew_9 : decode cX0_startAnew 9 = .ok (.iconst 0, 1) := by decide +kernel
theorem dX0_startAnew_10 : decode cX0_startAnew 10 = .ok (.putfield 23, 3) := by decide +kernel
theorem dX0_startAnew_13 : decode cX0_startAnew 13 = .ok (.aload_n 0, 1) := by decide +kernel
theorem dX0_startAnew_14 : decode cX0_startAnew 14 = .ok (.ldc2_w 7, 3) := by decide +kernel
theorem dX0_startAnew_17 : decode cX0_startAnew 17 = .ok (.putfield 9, 3) := by decide +kernel
theorem dX0_startAnew_20 : decode cX0_startAnew 20 = .ok (.return_, 1) := by decide +kernel
theorem dX0_isLeft_0 : decode cX0_isLeft 0 = .ok (.aload_n 0, 1) := by decide +kernel
theorem dX0_isLeft_1 : decode cX0_isLeft 1 = .ok (.getfield 9, 3) := by decide +kernel
theorem dX0_isLeft_4 : decode cX0_isLeft 4 = .ok (.iload_n 1, 1) := by decide +kernel
theorem dX0_isLeft_5 : decode cX0_isLeft 5 = .ok (.lshr, 1) := by decide +kernel
theorem dX0_isLeft_6 : decode cX0_isLeft 6 = .ok (.lconst 1, 1) := by decide +kernel
theorem dX0_isLeft_7 : decode cX0_isLeft 7 = .ok (.land, 1) := by decide +kernel
theorem dX0_isLeft_8 : decode cX0_isLeft 8 = .ok (.lconst 0, 1) := by decide +kernel
theorem dX0_isLeft_9 : decode cX0_isLeft 9 = .ok (.lcmp, 1) := by decide +kernel
theorem dX0_isLeft_10 : decode cX0_isLeft 10 = .ok (.ifCond .eq 7, 3) := by decide +kernel
theorem dX0_isLeft_13 : decode cX0_isLeft 13 = .ok (.iconst 1, 1) := by decide +kernel
theorem dX0_isLeft_14 : decode cX0_isLeft 14 = .ok (.goto 4, 3) := by decide +kernel
theorem dX0_isLeft_17 : decode cX0_isLeft 17 = .ok (.iconst 0, 1) := by decide +kernel
theorem dX0_isLeft_18 : decode cX0_isLeft 18 = .ok (.ireturn, 1) := by decide +kernel
set_option maxRecDepth 20000 in
theorem ggX0_leastLeft_X0_isLeft : GoodIn wsX0_leastLeft wsX0_isLeft := goodIn_r _ [5, 6, 10, 11, 12] (by decide +kernel) (by decide +kernel)
set_option maxRecDepth 20000 in
theorem gX0_leastLeft_X0_isLeft : GoodIn wsX0_leastLeft (wsV RX0 26 RX0 yX0_isLeft wsX0_isLeft) := goodIn_app (goodIn_of _ (by decide +kernel)) ggX0_leastLeft_X0_isLeft
set_option maxRecDepth 20000 in
theorem ggX0_leastLeft_X0_digit : GoodIn wsX0_leastLeft wsX0_digit := goodIn_r _ [9] (by decide +kernel) (by decide +kernel)
set_option maxRecDepth 20000 in
theorem gX0_leastLeft_X0_digit : GoodIn wsX0_leastLeft (va_wsS RX0 30 yX0_digit wsX0_digit) := goodIn_app (goodIn_of _ (by decide +kernel)) ggX0_leastLeft_X0_digit
theorem dX0_leastLeft_0 : decode cX0_leastLeft 0 = .ok (.iconst 0, 1) := by decide +kernel
theorem dX0_leastLeft_1 : decode cX0_leastLeft 1 = .ok (.istore_n 1, 1) := by decide +kernel
theorem dX0_leastLeft_2 : decode cX0_leastLeft 2 = .ok (.iload_n 1, 1) := by decide +kernel
theorem dX0_leastLeft_3 : decode cX0_leastLeft 3 = .ok (.bipush 64, 2) := by decide +kernel
theorem dX0_leastLeft_5 : decode cX0_leastLeft 5 = .ok (.if_icmp .ge 41, 3) := by decide +kernel
theorem dX0_leastLeft_8 : decode cX0_leastLeft 8 = .ok (.aload_n 0, 1) := by decide +kernel
theorem dX0_leastLeft_9 : decode cX0_leastLeft 9 = .ok (.iload_n 1, 1) := by decide +kernel
theorem dX0_leastLeft_10 : decode cX0_leastLeft 10 = .ok (.invokevirtual 26, 3) := by decide +kernel
theorem dX0_leastLeft_13 : decode cX0_leastLeft 13 = .ok (.ifCond .eq 27, 3) := by decide +kernel
theorem dX0_leastLeft_16 : decode cX0_leastLeft 16 = .ok (.bipush 100, 2) := by decide +kernel
theorem dX0_leastLeft_18 : decode cX0_leastLeft 18 = .ok (.iload_n 1, 1) := by decide +kernel
theorem dX0_leastLeft_19 : decode cX0_leastLeft 19 = .ok (.iconst 2, 1) := by decide +kernel
theorem dX0_leastLeft_20 : decode cX0_leastLeft 20 = .ok (.invokestatic 30, 3) := by decide +kernel
theorem dX0_leastLeft_23 : decode cX0_leastLeft 23 = .ok (.imul, 1) := by decide +kernel
theorem dX0_leastLeft_24 : decode cX0_leastLeft 24 = .ok (.bipush 10, 2) := by decide +kernel
theorem dX0_leastLeft_26 : decode cX0_leastLeft 26 = .ok (.iload_n 1, 1) := by decide +kernel
theorem dX0_leastLeft_27 : decode cX0_leastLeft 27 = .ok (.iconst 1, 1) := by decide +kernel
theorem dX0_leastLeft_28 : decode cX0_leastLeft 28 = .ok (.invokestatic 30, 3) := by decide +kernel
theorem dX0_leastLeft_31 : decode cX0_leastLeft 31 = .ok (.imul, 1) := by decide +kernel
theorem dX0_leastLeft_32 : decode cX0_leastLeft 32 = .ok (.iadd, 1) := by decide +kernel
theorem dX0_leastLeft_33 : decode cX0_leastLeft 33 = .ok (.iload_n 1, 1) := by decide +kernel
theorem dX0_leastLeft_34 : decode cX0_leastLeft 34 = .ok (.iconst 0, 1) := by decide +kernel
theorem dX0_leastLeft_35 : decode cX0_leastLeft 35 = .ok (.invokestatic 30, 3) := by decide +kernel
theorem dX0_leastLeft_38 : decode cX0_leastLeft 38 = .ok (.iadd, 1) := by decide +kernel
theorem dX0_leastLeft_39 : decode cX0_leastLeft 39 = .ok (.ireturn, 1) := by decide +kernel
theorem dX0_leastLeft_40 : decode cX0_leastLeft 40 = .ok (.iinc 1 1, 3) := by decide +kernel
theorem dX0_leastLeft_43 : decode cX0_leastLeft 43 = .ok (.goto (-41), 3) := by decide +kernel
theorem dX0_leastLeft_46 : decode cX0_leastLeft 46 = .ok (.iconst 0, 1) := by decide +kernel
theorem dX0_leastLeft_47 : decode cX0_leastLeft 47 = .ok (.ireturn, 1) := by decide +kernel
set_option maxRecDepth 20000 in
theorem ggX0_giveHint_X0_packed : GoodIn wsX0_giveHint wsX0_packed := goodIn_r _ [8] (by decide +kernel) (by decide +kernel)
set_option maxRecDepth 20000 in
theorem gX0_giveHint_X0_packed : GoodIn wsX0_giveHint (va_wsS RX0 15 yX0_packed wsX0_packed) := goodIn_app (goodIn_of _ (by decide +kernel)) ggX0_giveHint_X0_packed
set_option maxRecDepth 20000 in
theorem ggX0_giveHint_X0_hint : GoodIn wsX0_giveHint wsX0_hint := goodIn_r _ [11, 12, 13, 14, 15, 16, 17, 7, 18, 19, 20, 21] (by decide +kernel) (by decide +kernel)
set_option maxRecDepth 20000 in
theorem gX0_giveHint_X0_hint : GoodIn wsX0_giveHint (va_wsS RX0 34 yX0_hint wsX0_hint) := goodIn_app (goodIn_of _ (by decide +kernel)) ggX0_giveHint_X0_hint
theorem dX0_giveHint_0 : decode cX0_giveHint 0 = .ok (.iload_n 1, 1) := by decide +kernel
theorem dX0_giveHint_1 : decode cX0_giveHint 1 = .ok (.invokestatic 15, 3) := by decide +kernel
theorem dX0_giveHint_4 : decode cX0_giveHint 4 = .ok (.istore_n 2, 1) := by decide +kernel
theorem dX0_giveHint_5 : decode cX0_giveHint 5 = .ok (.aload_n 0, 1) := by decide +kernel
theorem dX0_giveHint_6 : decode cX0_giveHint 6 = .ok (.getfield 19, 3) := by decide +kernel
theorem dX0_giveHint_9 : decode cX0_giveHint 9 = .ok (.iload_n 2, 1) := by decide +kernel
theorem dX0_giveHint_10 : decode cX0_giveHint 10 = .ok (.invokestatic 34, 3) := by decide +kernel
theorem dX0_giveHint_13 : decode cX0_giveHint 13 = .ok (.istore_n 3, 1) := by decide +kernel
theorem dX0_giveHint_14 : decode cX0_giveHint 14 = .ok (.iconst 0, 1) := by decide +kernel
theorem dX0_giveHint_15 : decode cX0_giveHint 15 = .ok (.istore 4, 2) := by decide +kernel
theorem dX0_giveHint_17 : decode cX0_giveHint 17 = .ok (.iload 4, 2) := by decide +kernel
theorem dX0_giveHint_19 : decode cX0_giveHint 19 = .ok (.bipush 64, 2) := by decide +kernel
theorem dX0_giveHint_21 : decode cX0_giveHint 21 = .ok (.if_icmp .ge 36, 3) := by decide +kernel
theorem dX0_giveHint_24 : decode cX0_giveHint 24 = .ok (.iload 4, 2) := by decide +kernel
theorem dX0_giveHint_26 : decode cX0_giveHint 26 = .ok (.iload_n 2, 1) := by decide +kernel
theorem dX0_giveHint_27 : decode cX0_giveHint 27 = .ok (.invokestatic 34, 3) := by decide +kernel
theorem dX0_giveHint_30 : decode cX0_giveHint 30 = .ok (.iload_n 3, 1) := by decide +kernel
theorem dX0_giveHint_31 : decode cX0_giveHint 31 = .ok (.if_icmp .eq 20, 3) := by decide +kernel
theorem dX0_giveHint_34 : decode cX0_giveHint 34 = .ok (.aload_n 0, 1) := by decide +kernel
theorem dX0_giveHint_35 : decode cX0_giveHint 35 = .ok (.dup, 1) := by decide +kernel
theorem dX0_giveHint_36 : decode cX0_giveHint 36 = .ok (.getfield 9, 3) := by decide +kernel
theorem dX0_giveHint_39 : decode cX0_giveHint 39 = .ok (.lconst 1, 1) := by decide +kernel
theorem dX0_giveHint_40 : decode cX0_giveHint 40 = .ok (.iload 4, 2) := by decide +kernel
theorem dX0_giveHint_42 : decode cX0_giveHint 42 = .ok (.lshl, 1) := by decide +kernel
theorem dX0_giveHint_43 : decode cX0_giveHint 43 = .ok (.ldc2_w 7, 3) := by decide +kernel
theorem dX0_giveHint_46 : decode cX0_giveHint 46 = .ok (.lxor, 1) := by decide +kernel
theorem dX0_giveHint_47 : decode cX0_giveHint 47 = .ok (.land, 1) := by decide +kernel
theorem dX0_giveHint_48 : decode cX0_giveHint 48 = .ok (.putfield 9, 3) := by decide +kernel
theorem dX0_giveHint_51 : decode cX0_giveHint 51 = .ok (.iinc 4 1, 3) := by decide +kernel
theorem dX0_giveHint_54 : decode cX0_giveHint 54 = .ok (.goto (-37), 3) := by decide +kernel
theorem dX0_giveHint_57 : decode cX0_giveHint 57 = .ok (.aload_n 0, 1) := by decide +kernel
theorem dX0_giveHint_58 : decode cX0_giveHint 58 = .ok (.dup, 1) := by decide +kernel
theorem dX0_giveHint_59 : decode cX0_giveHint 59 = .ok (.getfield 23, 3) := by decide +kernel
theorem dX0_giveHint_62 : decode cX0_giveHint 62 = .ok (.iconst 1, 1) := by decide +kernel
theorem dX0_giveHint_63 : decode cX0_giveHint 63 = .ok (.iadd, 1) := by decide +kernel
theorem dX0_giveHint_64 : decode cX0_giveHint 64 = .ok (.putfield 23, 3) := by decide +kernel
theorem dX0_giveHint_67 : decode cX0_giveHint 67 = .ok (.iload_n 3, 1) := by decide +kernel
theorem dX0_giveHint_68 : decode cX0_giveHint 68 = .ok (.ireturn, 1) := by decide +kernel
set_option maxRecDepth 20000 in
theorem ggX0_hint_X0_digit : GoodIn wsX0_hint wsX0_digit := goodIn_r _ [8] (by decide +kernel) (by decide +kernel)
set_option maxRecDepth 20000 in
theorem gX0_hint_X0_digit : GoodIn wsX0_hint (va_wsS RX0 30 yX0_digit wsX0_digit) := goodIn_app (goodIn_of _ (by decide +kernel)) ggX0_hint_X0_digit
set_option maxRecDepth 20000 in
theorem ggX0_hint_X0_times : GoodIn wsX0_hint wsX0_times := goodIn_r _ [11, 5, 6, 7, 8] (by decide +kernel) (by decide +kernel)
set_option maxRecDepth 20000 in
theorem gX0_hint_X0_times : GoodIn wsX0_hint (va_wsS RX0 37 yX0_times wsX0_times) := goodIn_app (goodIn_of _ (by decide +kernel)) ggX0_hint_X0_times
theorem dX0_hint_0 : decode cX0_hint 0 = .ok (.iconst 0, 1) := by decide +kernel
theorem dX0_hint_1 : decode cX0_hint 1 = .ok (.istore_n 2, 1) := by decide +kernel
theorem dX0_hint_2 : decode cX0_hint 2 = .ok (.iconst 0, 1) := by decide +kernel
theorem dX0_hint_3 : decode cX0_hint 3 = .ok (.istore_n 3, 1) := by decide +kernel
theorem dX0_hint_4 : decode cX0_hint 4 = .ok (.iload_n 3, 1) := by decide +kernel
theorem dX0_hint_5 : decode cX0_hint 5 = .ok (.iconst 3, 1) := by decide +kernel
theorem dX0_hint_6 : decode cX0_hint 6 = .ok (.if_icmp .ge 25, 3) := by decide +kernel
theorem dX0_hint_9 : decode cX0_hint 9 = .ok (.iload_n 0, 1) := by decide +kernel
theorem dX0_hint_10 : decode cX0_hint 10 = .ok (.iload_n 3, 1) := by decide +kernel
theorem dX0_hint_11 : decode cX0_hint 11 = .ok (.invokestatic 30, 3) := by decide +kernel
theorem dX0_hint_14 : decode cX0_hint 14 = .ok (.iload_n 1, 1) := by decide +kernel
theorem dX0_hint_15 : decode cX0_hint 15 = .ok (.iload_n 3, 1) := by decide +kernel
theorem dX0_hint_16 : decode cX0_hint 16 = .ok (.invokestatic 30, 3) := by decide +kernel
theorem dX0_hint_19 : decode cX0_hint 19 = .ok (.if_icmp .ne 6, 3) := by decide +kernel
theorem dX0_hint_22 : decode cX0_hint 22 = .ok (.iinc 2 9, 3) := by decide +kernel
theorem dX0_hint_25 : decode cX0_hint 25 = .ok (.iinc 3 1, 3) := by decide +kernel
theorem dX0_hint_28 : decode cX0_hint 28 = .ok (.goto (-24), 3) := by decide +kernel
theorem dX0_hint_31 : decode cX0_hint 31 = .ok (.iconst 0, 1) := by decide +kernel
theorem dX0_hint_32 : decode cX0_hint 32 = .ok (.istore_n 3, 1) := by decide +kernel
theorem dX0_hint_33 : decode cX0_hint 33 = .ok (.iload_n 3, 1) := by decide +kernel
theorem dX0_hint_34 : decode cX0_hint 34 = .ok (.iconst 4, 1) := by decide +kernel
theorem dX0_hint_35 : decode cX0_hint 35 = .ok (.if_icmp .ge 25, 3) := by decide +kernel
theorem dX0_hint_38 : decode cX0_hint 38 = .ok (.iload_n 2, 1) := by decide +kernel
theorem dX0_hint_39 : decode cX0_hint 39 = .ok (.iload_n 0, 1) := by decide +kernel
theorem dX0_hint_40 : decode cX0_hint 40 = .ok (.iload_n 3, 1) := by decide +kernel
theorem dX0_hint_41 : decode cX0_hint 41 = .ok (.invokestatic 37, 3) := by decide +kernel
theorem dX0_hint_44 : decode cX0_hint 44 = .ok (.iload_n 1, 1) := by decide +kernel
theorem dX0_hint_45 : decode cX0_hint 45 = .ok (.iload_n 3, 1) := by decide +kernel
theorem dX0_hint_46 : decode cX0_hint 46 = .ok (.invokestatic 37, 3) := by decide +kernel
theorem dX0_hint_49 : decode cX0_hint 49 = .ok (.invokestatic 40, 3) := by decide +kernel
theorem dX0_hint_52 : decode cX0_hint 52 = .ok (.iadd, 1) := by decide +kernel
theorem dX0_hint_53 : decode cX0_hint 53 = .ok (.istore_n 2, 1) := by decide +kernel
theorem dX0_hint_54 : decode cX0_hint 54 = .ok (.iinc 3 1, 3) := by decide +kernel
theorem dX0_hint_57 : decode cX0_hint 57 = .ok (.goto (-24), 3) := by decide +kernel
theorem dX0_hint_60 : decode cX0_hint 60 = .ok (.iload_n 2, 1) := by decide +kernel
theorem dX0_hint_61 : decode cX0_hint 61 = .ok (.ireturn, 1) := by decide +kernel
set_option maxRecDepth 20000 in
theorem ggX0_times_X0_digit : GoodIn wsX0_times wsX0_digit := goodIn_r _ [4] (by decide +kernel) (by decide +kernel)
set_option maxRecDepth 20000 in
theorem gX0_times_X0_digit : GoodIn wsX0_times (va_wsS RX0 30 yX0_digit wsX0_digit) := goodIn_app (goodIn_of _ (by decide +kernel)) ggX0_times_X0_digit
theorem dX0_times_0 : decode cX0_times 0 = .ok (.iconst 0, 1) := by decide +kernel
theorem dX0_times_1 : decode cX0_times 1 = .ok (.istore_n 2, 1) := by decide +kernel
theorem dX0_times_2 : decode cX0_times 2 = .ok (.iconst 0, 1) := by decide +kernel
theorem dX0_times_3 : decode cX0_times 3 = .ok (.istore_n 3, 1) := by decide +kernel
theorem dX0_times_4 : decode cX0_times 4 = .ok (.iload_n 3, 1) := by decide +kernel
theorem dX0_times_5 : decode cX0_times 5 = .ok (.iconst 3, 1) := by decide +kernel
theorem dX0_times_6 : decode cX0_times 6 = .ok (.if_icmp .ge 21, 3) := by decide +kernel
theorem dX0_times_9 : decode cX0_times 9 = .ok (.iload_n 0, 1) := by decide +kernel
theorem dX0_times_10 : decode cX0_times 10 = .ok (.iload_n 3, 1) := by decide +kernel
theorem dX0_times_11 : decode cX0_times 11 = .ok (.invokestatic 30, 3) := by decide +kernel
theorem dX0_times_14 : decode cX0_times 14 = .ok (.iload_n 1, 1) := by decide +kernel
theorem dX0_times_15 : decode cX0_times 15 = .ok (.if_icmp .ne 6, 3) := by decide +kernel
theorem dX0_times_18 : decode cX0_times 18 = .ok (.iinc 2 1, 3) := by decide +kernel
theorem dX0_times_21 : decode cX0_times 21 = .ok (.iinc 3 1, 3) := by decide +kernel
theorem dX0_times_24 : decode cX0_times 24 = .ok (.goto (-20), 3) := by decide +kernel
theorem dX0_times_27 : decode cX0_times 27 = .ok (.iload_n 2, 1) := by decide +kernel
theorem dX0_times_28 : decode cX0_times 28 = .ok (.ireturn, 1) := by decide +kernel
theorem dX1_init_0 : decode cX1_init 0 = .ok (.aload_n 0, 1) := by decide +kernel
theorem dX1_init_1 : decode cX1_init 1 = .ok (.invokespecial 3, 3) := by decide +kernel
theorem dX1_init_4 : decode cX1_init 4 = .ok (.aload_n 0, 1) := by decide +kernel
theorem dX1_init_5 : decode cX1_init 5 = .ok (.bipush 24, 2) := by decide +kernel
theorem dX1_init_7 : decode cX1_init 7 = .ok (.newarray .int, 2) := by decide +kernel
theorem dX1_init_9 : decode cX1_init 9 = .ok (.putfield 9, 3) := by decide +kernel
theorem dX1_init_12 : decode cX1_init 12 = .ok (.aload_n 0, 1) := by decide +kernel
theorem dX1_init_13 : decode cX1_init 13 = .ok (.bipush 6, 2) := by decide +kernel
theorem dX1_init_15 : decode cX1_init 15 = .ok (.newarray .int, 2) := by decide +kernel
theorem dX1_init_17 : decode cX1_init 17 = .ok (.putfield 15, 3) := by decide +kernel
theorem dX1_init_20 : decode cX1_init 20 = .ok (.aload_n 0, 1) := by decide +kernel
theorem dX1_init_21 : decode cX1_init 21 = .ok (.iconst 4, 1) := by decide +kernel
theorem dX1_init_22 : decode cX1_init 22 = .ok (.putfield 18, 3) := by decide +kernel
theorem dX1_init_25 : decode cX1_init 25 = .ok (.return_, 1) := by decide +kernel
set_option maxRecDepth 20000 in
theorem ggX1_startAnew_X8_put : GoodIn wsX1_startAnew wsX8_put := goodIn_r _ [6] (by decide +kernel) (by decide +kernel)
set_option maxRecDepth 20000 in
theorem gX1_startAnew_X8_put_n25 : GoodIn wsX1_startAnew (wsX8_put) := ggX1_startAnew_X8_put
theorem dX1_startAnew_0 : decode cX1_startAnew 0 = .ok (.aload_n 0, 1) := by decide +kernel
theorem dX1_startAnew_1 : decode cX1_startAnew 1 = .ok (.iload_n 1, 1) := by decide +kernel
theorem dX1_startAnew_2 : decode cX1_startAnew 2 = .ok (.putfield 18, 3) := by decide +kernel
theorem dX1_startAnew_5 : decode cX1_startAnew 5 = .ok (.aload_n 0, 1) := by decide +kernel
theorem dX1_startAnew_6 : decode cX1_startAnew 6 = .ok (.iconst 0, 1) := by decide +kernel
theorem dX1_startAnew_7 : decode cX1_startAnew 7 = .ok (.putfield 22, 3) := by decide +kernel
theorem dX1_startAnew_10 : decode cX1_startAnew 10 = .ok (.iconst 0, 1) := by decide +kernel
theorem dX1_startAnew_11 : decode cX1_startAnew 11 = .ok (.istore_n 2, 1) := by decide +kernel
theorem dX1_startAnew_12 : decode cX1_startAnew 12 = .ok (.iload_n 2, 1) := by decide +kernel
theorem dX1_startAnew_13 : decode cX1_startAnew 13 = .ok (.bipush 6, 2) := by decide +kernel
theorem dX1_startAnew_15 : decode cX1_startAnew 15 = .ok (.if_icmp .ge 18, 3) := by decide +kernel
theorem dX1_startAnew_18 : decode cX1_startAnew 18 = .ok (.aload_n 0, 1) := by decide +kernel
theorem dX1_startAnew_19 : decode cX1_startAnew 19 = .ok (.getfield 15, 3) := by decide +kernel
theorem dX1_startAnew_22 : decode cX1_startAnew 22 = .ok (.iload_n 2, 1) := by decide +kernel
theorem dX1_startAnew_23 : decode cX1_startAnew 23 = .ok (.iconst 0, 1) := by decide +kernel
theorem dX1_startAnew_24 : decode cX1_startAnew 24 = .ok (.invokestatic 25, 3) := by decide +kernel
theorem dX1_startAnew_27 : decode cX1_startAnew 27 = .ok (.iinc 2 1, 3) := by decide +kernel
theorem dX1_startAnew_30 : decode cX1_startAnew 30 = .ok (.goto (-18), 3) := by decide +kernel
theorem dX1_startAnew_33 : decode cX1_startAnew 33 = .ok (.return_, 1) := by decide +kernel
theorem dX1_isPoint_0 : decode cX1_isPoint 0 = .ok (.iload_n 1, 1) := by decide +kernel
theorem dX1_isPoint_1 : decode cX1_isPoint 1 = .ok (.ifCond .lt 15, 3) := by decide +kernel
theorem dX1_isPoint_4 : decode cX1_isPoint 4 = .ok (.iload_n 1, 1) := by decide +kernel
theorem dX1_isPoint_5 : decode cX1_isPoint 5 = .ok (.aload_n 0, 1) := by decide +kernel
theorem dX1_isPoint_6 : decode cX1_isPoint 6 = .ok (.getfield 18, 3) := by decide +kernel
theorem dX1_isPoint_9 : decode cX1_isPoint 9 = .ok (.if_icmp .ge 7, 3) := by decide +kernel
theorem dX1_isPoint_12 : decode cX1_isPoint 12 = .ok (.iconst 1, 1) := by decide +kernel
theorem dX1_isPoint_13 : decode cX1_isPoint 13 = .ok (.goto 4, 3) := by decide +kernel
theorem dX1_isPoint_16 : decode cX1_isPoint 16 = .ok (.iconst 0, 1) := by decide +kernel
theorem dX1_isPoint_17 : decode cX1_isPoint 17 = .ok (.ireturn, 1) := by decide +kernel
theorem dX1_isSet_0 : decode cX1_isSet 0 = .ok (.iload_n 1, 1) := by decide +kernel
theorem dX1_isSet_1 : decode cX1_isSet 1 = .ok (.aload_n 0, 1) := by decide +kernel
theorem dX1_isSet_2 : decode cX1_isSet 2 = .ok (.getfield 18, 3) := by decide +kernel
theorem dX1_isSet_5 : decode cX1_isSet 5 = .ok (.ishr, 1) := by decide +kernel
theorem dX1_isSet_6 : decode cX1_isSet 6 = .ok (.ifCond .ne 7, 3) := by decide +kernel
theorem dX1_isSet_9 : decode cX1_isSet 9 = .ok (.iconst 1, 1) := by decide +kernel
theorem dX1_isSet_10 : decode cX1_isSet 10 = .ok (.goto 4, 3) := by decide +kernel
theorem dX1_isSet_13 : decode cX1_isSet 13 = .ok (.iconst 0, 1) := by decide +kernel
theorem dX1_isSet_14 : decode cX1_isSet 14 = .ok (.ireturn, 1) := by decide +kernel
theorem dX1_isNumber_0 : decode cX1_isNumber 0 = .ok (.iload_n 1, 1) := by decide +kernel
theorem dX1_isNumber_1 : decode cX1_isNumber 1 = .ok (.ifCond .lt 15, 3) := by decide +kernel
theorem dX1_isNumber_4 : decode cX1_isNumber 4 = .ok (.iload_n 1, 1) := by decide +kernel
theorem dX1_isNumber_5 : decode cX1_isNumber 5 = .ok (.aload_n 0, 1) := by decide +kernel
theorem dX1_isNumber_6 : decode cX1_isNumber 6 = .ok (.getfield 22, 3) := by decide +kernel
theorem dX1_isNumber_9 : decode cX1_isNumber 9 = .ok (.if_icmp .ge 7, 3) := by decide +kernel
theorem dX1_isNumber_12 : decode cX1_isNumber 12 = .ok (.iconst 1, 1) := by decide +kernel
theorem dX1_isNumber_13 : decode cX1_isNumber 13 = .ok (.goto 4, 3) := by decide +kernel
theorem dX1_isNumber_16 : decode cX1_isNumber 16 = .ok (.iconst 0, 1) := by decide +kernel
theorem dX1_isNumber_17 : decode cX1_isNumber 17 = .ok (.ireturn, 1) := by decide +kernel
set_option maxRecDepth 20000 in
theorem ggX1_setAt_X8_at : GoodIn wsX1_setAt wsX8_at := goodIn_r _ [4] (by decide +kernel) (by decide +kernel)
set_option maxRecDepth 20000 in
theorem gX1_setAt_X8_at_n29 : GoodIn wsX1_setAt (wsX8_at) := ggX1_setAt_X8_at
theorem dX1_setAt_0 : decode cX1_setAt 0 = .ok (.aload_n 0, 1) := by decide +kernel
theorem dX1_setAt_1 : decode cX1_setAt 1 = .ok (.getfield 9, 3) := by decide +kernel
theorem dX1_setAt_4 : decode cX1_setAt 4 = .ok (.iload_n 1, 1) := by decide +kernel
theorem dX1_setAt_5 : decode cX1_setAt 5 = .ok (.invokestatic 29, 3) := by decide +kernel
theorem dX1_setAt_8 : decode cX1_setAt 8 = .ok (.ireturn, 1) := by decide +kernel
set_option maxRecDepth 20000 in
theorem ggX1_numberOf_X1_setAt : GoodIn wsX1_numberOf wsX1_setAt := goodIn_r _ [6, 7, 8, 9, 10, 11, 12, 13, 14] (by decide +kernel) (by decide +kernel)
set_option maxRecDepth 20000 in
theorem gX1_numberOf_X1_setAt : GoodIn wsX1_numberOf (wsV RX1 33 RX1 yX1_setAt wsX1_setAt) := goodIn_app (goodIn_of _ (by decide +kernel)) ggX1_numberOf_X1_setAt
theorem dX1_numberOf_0 : decode cX1_numberOf 0 = .ok (.iconst 0, 1) := by decide +kernel
theorem dX1_numberOf_1 : decode cX1_numberOf 1 = .ok (.istore_n 2, 1) := by decide +kernel
theorem dX1_numberOf_2 : decode cX1_numberOf 2 = .ok (.iload_n 2, 1) := by decide +kernel
theorem dX1_numberOf_3 : decode cX1_numberOf 3 = .ok (.aload_n 0, 1) := by decide +kernel
theorem dX1_numberOf_4 : decode cX1_numberOf 4 = .ok (.getfield 22, 3) := by decide +kernel
theorem dX1_numberOf_7 : decode cX1_numberOf 7 = .ok (.if_icmp .ge 20, 3) := by decide +kernel
theorem dX1_numberOf_10 : decode cX1_numberOf 10 = .ok (.aload_n 0, 1) := by decide +kernel
theorem dX1_numberOf_11 : decode cX1_numberOf 11 = .ok (.iload_n 2, 1) := by decide +kernel
theorem dX1_numberOf_12 : decode cX1_numberOf 12 = .ok (.invokevirtual 33, 3) := by decide +kernel
theorem dX1_numberOf_15 : decode cX1_numberOf 15 = .ok (.iload_n 1, 1) := by decide +kernel
theorem dX1_numberOf_16 : decode cX1_numberOf 16 = .ok (.if_icmp .ne 5, 3) := by decide +kernel
theorem dX1_numberOf_19 : decode cX1_numberOf 19 = .ok (.iload_n 2, 1) := by decide +kernel
theorem dX1_numberOf_20 : decode cX1_numberOf 20 = .ok (.ireturn, 1) := by decide +kernel
theorem dX1_numberOf_21 : decode cX1_numberOf 21 = .ok (.iinc 2 1, 3) := by decide +kernel
theorem dX1_numberOf_24 : decode cX1_numberOf 24 = .ok (.goto (-22), 3) := by decide +kernel
theorem dX1_numberOf_27 : decode cX1_numberOf 27 = .ok (.iconst (-1), 1) := by decide +kernel
theorem dX1_numberOf_28 : decode cX1_numberOf 28 = .ok (.ireturn, 1) := by decide +kernel
set_option maxRecDepth 20000 in
theorem ggX1_add_X8_put : GoodIn wsX1_add wsX8_put := goodIn_r _ [7] (by decide +kernel) (by decide +kernel)
set_option maxRecDepth 20000 in
theorem gX1_add_X8_put_n25 : GoodIn wsX1_add (wsX8_put) := ggX1_add_X8_put
set_option maxRecDepth 20000 in
theorem ggX1_add_X8_hasBit : GoodIn wsX1_add wsX8_hasBit := goodIn_r _ [9] (by decide +kernel) (by decide +kernel)
set_option maxRecDepth 20000 in
theorem gX1_add_X8_hasBit_n37 : GoodIn wsX1_add (wsX8_hasBit) := ggX1_add_X8_hasBit
set_option maxRecDepth 20000 in
theorem ggX1_add_X8_at : GoodIn wsX1_add wsX8_at := goodIn_r _ [11] (by decide +kernel) (by decide +kernel)
set_option maxRecDepth 20000 in
theorem gX1_add_X8_at_n29 : GoodIn wsX1_add (wsX8_at) := ggX1_add_X8_at
theorem dX1_add_0 : decode cX1_add 0 = .ok (.aload_n 0, 1) := by decide +kernel
theorem dX1_add_1 : decode cX1_add 1 = .ok (.getfield 22, 3) := by decide +kernel
theorem dX1_add_4 : decode cX1_add 4 = .ok (.istore_n 2, 1) := by decide +kernel
theorem dX1_add_5 : decode cX1_add 5 = .ok (.aload_n 0, 1) := by decide +kernel
theorem dX1_add_6 : decode cX1_add 6 = .ok (.getfield 9, 3) := by decide +kernel
theorem dX1_add_9 : decode cX1_add 9 = .ok (.iload_n 2, 1) := by decide +kernel
theorem dX1_add_10 : decode cX1_add 10 = .ok (.iload_n 1, 1) := by decide +kernel
theorem dX1_add_11 : decode cX1_add 11 = .ok (.invokestatic 25, 3) := by decide +kernel
theorem dX1_add_14 : decode cX1_add 14 = .ok (.iconst 0, 1) := by decide +kernel
theorem dX1_add_15 : decode cX1_add 15 = .ok (.istore_n 3, 1) := by decide +kernel
theorem dX1_add_16 : decode cX1_add 16 = .ok (.iload_n 3, 1) := by decide +kernel
theorem dX1_add_17 : decode cX1_add 17 = .ok (.aload_n 0, 1) := by decide +kernel
theorem dX1_add_18 : decode cX1_add 18 = .ok (.getfield 18, 3) := by decide +kernel
theorem dX1_add_21 : decode cX1_add 21 = .ok (.if_icmp .ge 37, 3) := by decide +kernel
theorem dX1_add_24 : decode cX1_add 24 = .ok (.iload_n 1, 1) := by decide +kernel
theorem dX1_add_25 : decode cX1_add 25 = .ok (.iload_n 3, 1) := by decide +kernel
theorem dX1_add_26 : decode cX1_add 26 = .ok (.invokestatic 37, 3) := by decide +kernel
theorem dX1_add_29 : decode cX1_add 29 = .ok (.ifCond .eq 23, 3) := by decide +kernel
theorem dX1_add_32 : decode cX1_add 32 = .ok (.aload_n 0, 1) := by decide +kernel
theorem dX1_add_33 : decode cX1_add 33 = .ok (.getfield 15, 3) := by decide +kernel
theorem dX1_add_36 : decode cX1_add 36 = .ok (.iload_n 3, 1) := by decide +kernel
theorem dX1_add_37 : decode cX1_add 37 = .ok (.aload_n 0, 1) := by decide +kernel
theorem dX1_add_38 : decode cX1_add 38 = .ok (.getfield 15, 3) := by decide +kernel
theorem dX1_add_41 : decode cX1_add 41 = .ok (.iload_n 3, 1) := by decide +kernel
theorem dX1_add_42 : decode cX1_add 42 = .ok (.invokestatic 29, 3) := by decide +kernel
theorem dX1_add_45 : decode cX1_add 45 = .ok (.iconst 1, 1) := by decide +kernel
theorem dX1_add_46 : decode cX1_add 46 = .ok (.iload_n 2, 1) := by decide +kernel
theorem dX1_add_47 : decode cX1_add 47 = .ok (.ishl, 1) := by decide +kernel
theorem dX1_add_48 : decode cX1_add 48 = .ok (.ior, 1) := by decide +kernel
theorem dX1_add_49 : decode cX1_add 49 = .ok (.invokestatic 25, 3) := by decide +kernel
theorem dX1_add_52 : decode cX1_add 52 = .ok (.iinc 3 1, 3) := by decide +kernel
theorem dX1_add_55 : decode cX1_add 55 = .ok (.goto (-39), 3) := by decide +kernel
theorem dX1_add_58 : decode cX1_add 58 = .ok (.aload_n 0, 1) := by decide +kernel
theorem dX1_add_59 : decode cX1_add 59 = .ok (.dup, 1) := by decide +kernel
theorem dX1_add_60 : decode cX1_add 60 = .ok (.getfield 22, 3) := by decide +kernel
theorem dX1_add_63 : decode cX1_add 63 = .ok (.iconst 1, 1) := by decide +kernel
theorem dX1_add_64 : decode cX1_add 64 = .ok (.iadd, 1) := by decide +kernel
theorem dX1_add_65 : decode cX1_add 65 = .ok (.putfield 22, 3) := by decide +kernel
theorem dX1_add_68 : decode cX1_add 68 = .ok (.iload_n 2, 1) := by decide +kernel
theorem dX1_add_69 : decode cX1_add 69 = .ok (.ireturn, 1) := by decide +kernel
theorem dX1_everyone_0 : decode cX1_everyone 0 = .ok (.iconst 1, 1) := by decide +kernel
theorem dX1_everyone_1 : decode cX1_everyone 1 = .ok (.aload_n 0, 1) := by decide +kernel
theorem dX1_everyone_2 : decode cX1_everyone 2 = .ok (.getfield 22, 3) := by decide +kernel
theorem dX1_everyone_5 : decode cX1_everyone 5 = .ok (.ishl, 1) := by decide +kernel
theorem dX1_everyone_6 : decode cX1_everyone 6 = .ok (.iconst 1, 1) := by decide +kernel
theorem dX1_everyone_7 : decode cX1_everyone 7 = .ok (.isub, 1) := by decide +kernel
theorem dX1_everyone_8 : decode cX1_everyone 8 = .ok (.ireturn, 1) := by decide +kernel
set_option maxRecDepth 20000 in
theorem ggX1_holding_X8_at : GoodIn wsX1_holding wsX8_at := goodIn_r _ [4] (by decide +kernel) (by decide +kernel)
set_option maxRecDepth 20000 in
theorem gX1_holding_X8_at_n29 : GoodIn wsX1_holding (wsX8_at) := ggX1_holding_X8_at
theorem dX1_holding_0 : decode cX1_holding 0 = .ok (.aload_n 0, 1) := by decide +kernel
theorem dX1_holding_1 : decode cX1_holding 1 = .ok (.getfield 15, 3) := by decide +kernel
theorem dX1_holding_4 : decode cX1_holding 4 = .ok (.iload_n 1, 1) := by decide +kernel
theorem dX1_holding_5 : decode cX1_holding 5 = .ok (.invokestatic 29, 3) := by decide +kernel
theorem dX1_holding_8 : decode cX1_holding 8 = .ok (.ireturn, 1) := by decide +kernel
set_option maxRecDepth 20000 in
theorem ggX1_lacking_X1_everyone : GoodIn wsX1_lacking wsX1_everyone := goodIn_r _ [6, 7, 11, 12, 13, 14] (by decide +kernel) (by decide +kernel)
set_option maxRecDepth 20000 in
theorem gX1_lacking_X1_everyone : GoodIn wsX1_lacking (wsV RX1 41 RX1 yX1_everyone wsX1_everyone) := goodIn_app (goodIn_of _ (by decide +kernel)) ggX1_lacking_X1_everyone
set_option maxRecDepth 20000 in
theorem ggX1_lacking_X8_at : GoodIn wsX1_lacking wsX8_at := goodIn_r _ [10] (by decide +kernel) (by decide +kernel)
set_option maxRecDepth 20000 in
theorem gX1_lacking_X8_at_n29 : GoodIn wsX1_lacking (wsX8_at) := ggX1_lacking_X8_at
theorem dX1_lacking_0 : decode cX1_lacking 0 = .ok (.aload_n 0, 1) := by decide +kernel
theorem dX1_lacking_1 : decode cX1_lacking 1 = .ok (.invokevirtual 41, 3) := by decide +kernel
theorem dX1_lacking_4 : decode cX1_lacking 4 = .ok (.aload_n 0, 1) := by decide +kernel
theorem dX1_lacking_5 : decode cX1_lacking 5 = .ok (.getfield 15, 3) := by decide +kernel
theorem dX1_lacking_8 : decode cX1_lacking 8 = .ok (.iload_n 1, 1) := by decide +kernel
theorem dX1_lacking_9 : decode cX1_lacking 9 = .ok (.invokestatic 29, 3) := by decide +kernel
theorem dX1_lacking_12 : decode cX1_lacking 12 = .ok (.iconst (-1), 1) := by decide +kernel
theorem dX1_lacking_13 : decode cX1_lacking 13 = .ok (.ixor, 1) := by decide +kernel
theorem dX1_lacking_14 : decode cX1_lacking 14 = .ok (.iand, 1) := by decide +kernel
theorem dX1_lacking_15 : decode cX1_lacking 15 = .ok (.ireturn, 1) := by decide +kernel
set_option maxRecDepth 20000 in
theorem ggX1_agreeing_X8_hasBit : GoodIn wsX1_agreeing wsX8_hasBit := goodIn_r _ [3] (by decide +kernel) (by decide +kernel)
set_option maxRecDepth 20000 in
theorem gX1_agreeing_X8_hasBit_n37 : GoodIn wsX1_agreeing (wsX8_hasBit) := ggX1_agreeing_X8_hasBit
set_option maxRecDepth 20000 in
theorem ggX1_agreeing_X1_holding : GoodIn wsX1_agreeing wsX1_holding := goodIn_r _ [8, 9, 10, 2, 11, 21, 22, 23, 24] (by decide +kernel) (by decide +kernel)
set_option maxRecDepth 20000 in
theorem gX1_agreeing_X1_holding : GoodIn wsX1_agreeing (wsV RX1 45 RX1 yX1_holding wsX1_holding) := goodIn_app (goodIn_of _ (by decide +kernel)) ggX1_agreeing_X1_holding
set_option maxRecDepth 20000 in
theorem ggX1_agreeing_X1_lacking : GoodIn wsX1_agreeing wsX1_lacking := goodIn_r _ [15, 9, 16, 17, 18, 7, 19, 20, 10, 2, 11, 21, 22, 23, 24] (by decide +kernel) (by decide +kernel)
set_option maxRecDepth 20000 in
theorem gX1_agreeing_X1_lacking : GoodIn wsX1_agreeing (wsV RX1 48 RX1 yX1_lacking wsX1_lacking) := goodIn_app (goodIn_of _ (by decide +kernel)) ggX1_agreeing_X1_lacking
theorem dX1_agreeing_0 : decode cX1_agreeing 0 = .ok (.iload_n 1, 1) := by decide +kernel
theorem dX1_agreeing_1 : decode cX1_agreeing 1 = .ok (.iload_n 2, 1) := by decide +kernel
theorem dX1_agreeing_2 : decode cX1_agreeing 2 = .ok (.invokestatic 37, 3) := by decide +kernel
theorem dX1_agreeing_5 : decode cX1_agreeing 5 = .ok (.ifCond .eq 11, 3) := by decide +kernel
theorem dX1_agreeing_8 : decode cX1_agreeing 8 = .ok (.aload_n 0, 1) := by decide +kernel
theorem dX1_agreeing_9 : decode cX1_agreeing 9 = .ok (.iload_n 2, 1) := by decide +kernel
theorem dX1_agreeing_10 : decode cX1_agreeing 10 = .ok (.invokevirtual 45, 3) := by decide +kernel
theorem dX1_agreeing_13 : decode cX1_agreeing 13 = .ok (.goto 8, 3) := by decide +kernel
theorem dX1_agreeing_16 : decode cX1_agreeing 16 = .ok (.aload_n 0, 1) := by decide +kernel
theorem dX1_agreeing_17 : decode cX1_agreeing 17 = .ok (.iload_n 2, 1) := by decide +kernel
theorem dX1_agreeing_18 : decode cX1_agreeing 18 = .ok (.invokevirtual 48, 3) := by decide +kernel
theorem dX1_agreeing_21 : decode cX1_agreeing 21 = .ok (.ireturn, 1) := by decide +kernel
theorem dX1_isFamily_0 : decode cX1_isFamily 0 = .ok (.iload_n 0, 1) := by decide +kernel
theorem dX1_isFamily_1 : decode cX1_isFamily 1 = .ok (.bipush 116, 2) := by decide +kernel
theorem dX1_isFamily_3 : decode cX1_isFamily 3 = .ok (.if_icmp .eq 21, 3) := by decide +kernel
theorem dX1_isFamily_6 : decode cX1_isFamily 6 = .ok (.iload_n 0, 1) := by decide +kernel
theorem dX1_isFamily_7 : decode cX1_isFamily 7 = .ok (.bipush 115, 2) := by decide +kernel
theorem dX1_isFamily_9 : decode cX1_isFamily 9 = .ok (.if_icmp .eq 15, 3) := by decide +kernel
theorem dX1_isFamily_12 : decode cX1_isFamily 12 = .ok (.iload_n 0, 1) := by decide +kernel
theorem dX1_isFamily_13 : decode cX1_isFamily 13 = .ok (.bipush 105, 2) := by decide +kernel
theorem dX1_isFamily_15 : decode cX1_isFamily 15 = .ok (.if_icmp .eq 9, 3) := by decide +kernel
theorem dX1_isFamily_18 : decode cX1_isFamily 18 = .ok (.iload_n 0, 1) := by decide +kernel
theorem dX1_isFamily_19 : decode cX1_isFamily 19 = .ok (.bipush 112, 2) := by decide +kernel
theorem dX1_isFamily_21 : decode cX1_isFamily 21 = .ok (.if_icmp .ne 7, 3) := by decide +kernel
theorem dX1_isFamily_24 : decode cX1_isFamily 24 = .ok (.iconst 1, 1) := by decide +kernel
theorem dX1_isFamily_25 : decode cX1_isFamily 25 = .ok (.goto 4, 3) := by decide +kernel
theorem dX1_isFamily_28 : decode cX1_isFamily 28 = .ok (.iconst 0, 1) := by decide +kernel
theorem dX1_isFamily_29 : decode cX1_isFamily 29 = .ok (.ireturn, 1) := by decide +kernel
set_option maxRecDepth 20000 in
theorem ggX1_isOf_J6_bitCount_0f7a4 : GoodIn wsX1_isOf wsJ6_bitCount_0f7a4 := goodIn_r _ [4, 5, 6, 7] (by decide +kernel) (by decide +kernel)
set_option maxRecDepth 20000 in
theorem gX1_isOf_J6_bitCount_0f7a4 : GoodIn wsX1_isOf (va_wsS RX1 51 yJ6_bitCount_0f7a4 wsJ6_bitCount_0f7a4) := goodIn_app (goodIn_of _ (by decide +kernel)) ggX1_isOf_J6_bitCount_0f7a4
theorem dX1_isOf_0 : decode cX1_isOf 0 = .ok (.iload_n 0, 1) := by decide +kernel
theorem dX1_isOf_1 : decode cX1_isOf 1 = .ok (.bipush 116, 2) := by decide +kernel
theorem dX1_isOf_3 : decode cX1_isOf 3 = .ok (.if_icmp .ne 17, 3) := by decide +kernel
theorem dX1_isOf_6 : decode cX1_isOf 6 = .ok (.iload_n 1, 1) := by decide +kernel
theorem dX1_isOf_7 : decode cX1_isOf 7 = .ok (.iload_n 1, 1) := by decide +kernel
theorem dX1_isOf_8 : decode cX1_isOf 8 = .ok (.iconst 1, 1) := by decide +kernel
theorem dX1_isOf_9 : decode cX1_isOf 9 = .ok (.iadd, 1) := by decide +kernel
theorem dX1_isOf_10 : decode cX1_isOf 10 = .ok (.iand, 1) := by decide +kernel
theorem dX1_isOf_11 : decode cX1_isOf 11 = .ok (.ifCond .ne 7, 3) := by decide +kernel
theorem dX1_isOf_14 : decode cX1_isOf 14 = .ok (.iconst 1, 1) := by decide +kernel
theorem dX1_isOf_15 : decode cX1_isOf 15 = .ok (.goto 4, 3) := by decide +kernel
theorem dX1_isOf_18 : decode cX1_isOf 18 = .ok (.iconst 0, 1) := by decide +kernel
theorem dX1_isOf_19 : decode cX1_isOf 19 = .ok (.ireturn, 1) := by decide +kernel
theorem dX1_isOf_20 : decode cX1_isOf 20 = .ok (.iload_n 0, 1) := by decide +kernel
theorem dX1_isOf_21 : decode cX1_isOf 21 = .ok (.bipush 115, 2) := by decide +kernel
theorem dX1_isOf_23 : decode cX1_isOf 23 = .ok (.if_icmp .ne 17, 3) := by decide +kernel
theorem dX1_isOf_26 : decode cX1_isOf 26 = .ok (.iload_n 1, 1) := by decide +kernel
theorem dX1_isOf_27 : decode cX1_isOf 27 = .ok (.iload_n 1, 1) := by decide +kernel
theorem dX1_isOf_28 : decode cX1_isOf 28 = .ok (.iconst 1, 1) := by decide +kernel
theorem dX1_isOf_29 : decode cX1_isOf 29 = .ok (.isub, 1) := by decide +kernel
theorem dX1_isOf_30 : decode cX1_isOf 30 = .ok (.iand, 1) := by decide +kernel
theorem dX1_isOf_31 : decode cX1_isOf 31 = .ok (.ifCond .ne 7, 3) := by decide +kernel
theorem dX1_isOf_34 : decode cX1_isOf 34 = .ok (.iconst 1, 1) := by decide +kernel
theorem dX1_isOf_35 : decode cX1_isOf 35 = .ok (.goto 4, 3) := by decide +kernel
theorem dX1_isOf_38 : decode cX1_isOf 38 = .ok (.iconst 0, 1) := by decide +kernel
theorem dX1_isOf_39 : decode cX1_isOf 39 = .ok (.ireturn, 1) := by decide +kernel
theorem dX1_isOf_40 : decode cX1_isOf 40 = .ok (.iload_n 0, 1) := by decide +kernel
theorem dX1_isOf_41 : decode cX1_isOf 41 = .ok (.bipush 105, 2) := by decide +kernel
theorem dX1_isOf_43 : decode cX1_isOf 43 = .ok (.if_icmp .ne 20, 3) := by decide +kernel
theorem dX1_isOf_46 : decode cX1_isOf 46 = .ok (.iload_n 1, 1) := by decide +kernel
theorem dX1_isOf_47 : decode cX1_isOf 47 = .ok (.iload_n 1, 1) := by decide +kernel
theorem dX1_isOf_48 : decode cX1_isOf 48 = .ok (.iload_n 1, 1) := by decide +kernel
theorem dX1_isOf_49 : decode cX1_isOf 49 = .ok (.iload_n 1, 1) := by decide +kernel
theorem dX1_isOf_50 : decode cX1_isOf 50 = .ok (.ineg, 1) := by decide +kernel
theorem dX1_isOf_51 : decode cX1_isOf 51 = .ok (.iand, 1) := by decide +kernel
theorem dX1_isOf_52 : decode cX1_isOf 52 = .ok (.iadd, 1) := by decide +kernel
theorem dX1_isOf_53 : decode cX1_isOf 53 = .ok (.iand, 1) := by decide +kernel
theorem dX1_isOf_54 : decode cX1_isOf 54 = .ok (.ifCond .ne 7, 3) := by decide +kernel
theorem dX1_isOf_57 : decode cX1_isOf 57 = .ok (.iconst 1, 1) := by decide +kernel
theorem dX1_isOf_58 : decode cX1_isOf 58 = .ok (.goto 4, 3) := by decide +kernel
theorem dX1_isOf_61 : decode cX1_isOf 61 = .ok (.iconst 0, 1) := by decide +kernel
theorem dX1_isOf_62 : decode cX1_isOf 62 = .ok (.ireturn, 1) := by decide +kernel
theorem dX1_isOf_63 : decode cX1_isOf 63 = .ok (.iload_n 1, 1) := by decide +kernel
theorem dX1_isOf_64 : decode cX1_isOf 64 = .ok (.invokestatic 51, 3) := by decide +kernel
theorem dX1_isOf_67 : decode cX1_isOf 67 = .ok (.iconst 2, 1) := by decide +kernel
theorem dX1_isOf_68 : decode cX1_isOf 68 = .ok (.irem, 1) := by decide +kernel
theorem dX1_isOf_69 : decode cX1_isOf 69 = .ok (.ifCond .ne 7, 3) := by decide +kernel
theorem dX1_isOf_72 : decode cX1_isOf 72 = .ok (.iconst 1, 1) := by decide +kernel
theorem dX1_isOf_73 : decode cX1_isOf 73 = .ok (.goto 4, 3) := by decide +kernel
theorem dX1_isOf_76 : decode cX1_isOf 76 = .ok (.iconst 0, 1) := by decide +kernel
theorem dX1_isOf_77 : decode cX1_isOf 77 = .ok (.ireturn, 1) := by decide +kernel
set_option maxRecDepth 20000 in
theorem ggX1_missing_X1_isOf : GoodIn wsX1_missing wsX1_isOf := goodIn_r _ [5, 6, 7, 8, 9, 10, 11, 12] (by decide +kernel) (by decide +kernel)
set_option maxRecDepth 20000 in
theorem gX1_missing_X1_isOf : GoodIn wsX1_missing (va_wsS RX1 56 yX1_isOf wsX1_isOf) := goodIn_app (goodIn_of _ (by decide +kernel)) ggX1_missing_X1_isOf
set_option maxRecDepth 20000 in
theorem ggX1_missing_X1_numberOf : GoodIn wsX1_missing wsX1_numberOf := goodIn_r _ [16, 17, 18, 19, 20, 4, 21, 22, 23, 24, 25, 26, 27, 28, 29] (by decide +kernel) (by decide +kernel)
set_option maxRecDepth 20000 in
theorem gX1_missing_X1_numberOf : GoodIn wsX1_missing (wsV RX1 60 RX1 yX1_numberOf wsX1_numberOf) := goodIn_app (goodIn_of _ (by decide +kernel)) ggX1_missing_X1_numberOf
theorem dX1_missing_0 : decode cX1_missing 0 = .ok (.iconst 0, 1) := by decide +kernel
theorem dX1_missing_1 : decode cX1_missing 1 = .ok (.istore_n 2, 1) := by decide +kernel
theorem dX1_missing_2 : decode cX1_missing 2 = .ok (.iconst 0, 1) := by decide +kernel
theorem dX1_missing_3 : decode cX1_missing 3 = .ok (.istore_n 3, 1) := by decide +kernel
theorem dX1_missing_4 : decode cX1_missing 4 = .ok (.iload_n 3, 1) := by decide +kernel
theorem dX1_missing_5 : decode cX1_missing 5 = .ok (.iconst 1, 1) := by decide +kernel
theorem dX1_missing_6 : decode cX1_missing 6 = .ok (.aload_n 0, 1) := by decide +kernel
theorem dX1_missing_7 : decode cX1_missing 7 = .ok (.getfield 18, 3) := by decide +kernel
theorem dX1_missing_10 : decode cX1_missing 10 = .ok (.ishl, 1) := by decide +kernel
theorem dX1_missing_11 : decode cX1_missing 11 = .ok (.if_icmp .ge 28, 3) := by decide +kernel
theorem dX1_missing_14 : decode cX1_missing 14 = .ok (.iload_n 1, 1) := by decide +kernel
theorem dX1_missing_15 : decode cX1_missing 15 = .ok (.iload_n 3, 1) := by decide +kernel
theorem dX1_missing_16 : decode cX1_missing 16 = .ok (.invokestatic 56, 3) := by decide +kernel
theorem dX1_missing_19 : decode cX1_missing 19 = .ok (.ifCond .eq 14, 3) := by decide +kernel
theorem dX1_missing_22 : decode cX1_missing 22 = .ok (.aload_n 0, 1) := by decide +kernel
theorem dX1_missing_23 : decode cX1_missing 23 = .ok (.iload_n 3, 1) := by decide +kernel
theorem dX1_missing_24 : decode cX1_missing 24 = .ok (.invokevirtual 60, 3) := by decide +kernel
theorem dX1_missing_27 : decode cX1_missing 27 = .ok (.ifCond .ge 6, 3) := by decide +kernel
theorem dX1_missing_30 : decode cX1_missing 30 = .ok (.iinc 2 1, 3) := by decide +kernel
theorem dX1_missing_33 : decode cX1_missing 33 = .ok (.iinc 3 1, 3) := by decide +kernel
theorem dX1_missing_36 : decode cX1_missing 36 = .ok (.goto (-32), 3) := by decide +kernel
theorem dX1_missing_39 : decode cX1_missing 39 = .ok (.iload_n 2, 1) := by decide +kernel
theorem dX1_missing_40 : decode cX1_missing 40 = .ok (.ireturn, 1) := by decide +kernel
set_option maxRecDepth 20000 in
theorem ggX1_addAll_X1_isOf : GoodIn wsX1_addAll wsX1_isOf := goodIn_r _ [5, 6, 7, 8, 9, 10, 11, 12] (by decide +kernel) (by decide +kernel)
set_option maxRecDepth 20000 in
theorem gX1_addAll_X1_isOf : GoodIn wsX1_addAll (va_wsS RX1 56 yX1_isOf wsX1_isOf) := goodIn_app (goodIn_of _ (by decide +kernel)) ggX1_addAll_X1_isOf
set_option maxRecDepth 20000 in
theorem ggX1_addAll_X1_numberOf : GoodIn wsX1_addAll wsX1_numberOf := goodIn_r _ [16, 17, 18, 19, 20, 4, 21, 22, 23, 24, 25, 35, 36, 37, 38] (by decide +kernel) (by decide +kernel)
set_option maxRecDepth 20000 in
theorem gX1_addAll_X1_numberOf : GoodIn wsX1_addAll (wsV RX1 60 RX1 yX1_numberOf wsX1_numberOf) := goodIn_app (goodIn_of _ (by decide +kernel)) ggX1_addAll_X1_numberOf
set_option maxRecDepth 20000 in
theorem ggX1_addAll_X1_add : GoodIn wsX1_addAll wsX1_add := goodIn_r _ [29, 17, 22, 1, 30, 31, 24, 32, 33, 34, 23, 25, 35, 36, 37, 38] (by decide +kernel) (by decide +kernel)
set_option maxRecDepth 20000 in
theorem gX1_addAll_X1_add : GoodIn wsX1_addAll (wsV RX1 63 RX1 yX1_add wsX1_add) := goodIn_app (goodIn_of _ (by decide +kernel)) ggX1_addAll_X1_add
theorem dX1_addAll_0 : decode cX1_addAll 0 = .ok (.iconst 0, 1) := by decide +kernel
theorem dX1_addAll_1 : decode cX1_addAll 1 = .ok (.istore_n 2, 1) := by decide +kernel
theorem dX1_addAll_2 : decode cX1_addAll 2 = .ok (.iload_n 2, 1) := by decide +kernel
theorem dX1_addAll_3 : decode cX1_addAll 3 = .ok (.iconst 1, 1) := by decide +kernel
theorem dX1_addAll_4 : decode cX1_addAll 4 = .ok (.aload_n 0, 1) := by decide +kernel
theorem dX1_addAll_5 : decode cX1_addAll 5 = .ok (.getfield 18, 3) := by decide +kernel
theorem dX1_addAll_8 : decode cX1_addAll 8 = .ok (.ishl, 1) := by decide +kernel
theorem dX1_addAll_9 : decode cX1_addAll 9 = .ok (.if_icmp .ge 31, 3) := by decide +kernel
theorem dX1_addAll_12 : decode cX1_addAll 12 = .ok (.iload_n 1, 1) := by decide +kernel
theorem dX1_addAll_13 : decode cX1_addAll 13 = .ok (.iload_n 2, 1) := by decide +kernel
theorem dX1_addAll_14 : decode cX1_addAll 14 = .ok (.invokestatic 56, 3) := by decide +kernel
theorem dX1_addAll_17 : decode cX1_addAll 17 = .ok (.ifCond .eq 17, 3) := by decide +kernel
theorem dX1_addAll_20 : decode cX1_addAll 20 = .ok (.aload_n 0, 1) := by decide +kernel
theorem dX1_addAll_21 : decode cX1_addAll 21 = .ok (.iload_n 2, 1) := by decide +kernel
theorem dX1_addAll_22 : decode cX1_addAll 22 = .ok (.invokevirtual 60, 3) := by decide +kernel
theorem dX1_addAll_25 : decode cX1_addAll 25 = .ok (.ifCond .ge 9, 3) := by decide +kernel
theorem dX1_addAll_28 : decode cX1_addAll 28 = .ok (.aload_n 0, 1) := by decide +kernel
theorem dX1_addAll_29 : decode cX1_addAll 29 = .ok (.iload_n 2, 1) := by decide +kernel
theorem dX1_addAll_30 : decode cX1_addAll 30 = .ok (.invokevirtual 63, 3) := by decide +kernel
theorem dX1_addAll_33 : decode cX1_addAll 33 = .ok (.pop, 1) := by decide +kernel
theorem dX1_addAll_34 : decode cX1_addAll 34 = .ok (.iinc 2 1, 3) := by decide +kernel
theorem dX1_addAll_37 : decode cX1_addAll 37 = .ok (.goto (-35), 3) := by decide +kernel
theorem dX1_addAll_40 : decode cX1_addAll 40 = .ok (.return_, 1) := by decide +kernel
set_option maxRecDepth 20000 in
theorem ggX1_agreementOn_X1_holding : GoodIn wsX1_agreementOn wsX1_holding := goodIn_r _ [5, 6, 7, 8, 9, 10, 11, 12, 13] (by decide +kernel) (by decide +kernel)
set_option maxRecDepth 20000 in
theorem gX1_agreementOn_X1_holding : GoodIn wsX1_agreementOn (wsV RX1 45 RX1 yX1_holding wsX1_holding) := goodIn_app (goodIn_of _ (by decide +kernel)) ggX1_agreementOn_X1_holding
theorem dX1_agreementOn_0 : decode cX1_agreementOn 0 = .ok (.iload_n 2, 1) := by decide +kernel
theorem dX1_agreementOn_1 : decode cX1_agreementOn 1 = .ok (.aload_n 0, 1) := by decide +kernel
theorem dX1_agreementOn_2 : decode cX1_agreementOn 2 = .ok (.iload_n 1, 1) := by decide +kernel
theorem dX1_agreementOn_3 : decode cX1_agreementOn 3 = .ok (.invokevirtual 45, 3) := by decide +kernel
theorem dX1_agreementOn_6 : decode cX1_agreementOn 6 = .ok (.iand, 1) := by decide +kernel
theorem dX1_agreementOn_7 : decode cX1_agreementOn 7 = .ok (.istore_n 3, 1) := by decide +kernel
theorem dX1_agreementOn_8 : decode cX1_agreementOn 8 = .ok (.iload_n 2, 1) := by decide +kernel
theorem dX1_agreementOn_9 : decode cX1_agreementOn 9 = .ok (.ifCond .eq 12, 3) := by decide +kernel
theorem dX1_agreementOn_12 : decode cX1_agreementOn 12 = .ok (.iload_n 3, 1) := by decide +kernel
theorem dX1_agreementOn_13 : decode cX1_agreementOn 13 = .ok (.ifCond .eq 11, 3) := by decide +kernel
theorem dX1_agreementOn_16 : decode cX1_agreementOn 16 = .ok (.iload_n 3, 1) := by decide +kernel
theorem dX1_agreementOn_17 : decode cX1_agreementOn 17 = .ok (.iload_n 2, 1) := by decide +kernel
theorem dX1_agreementOn_18 : decode cX1_agreementOn 18 = .ok (.if_icmp .eq 6, 3) := by decide +kernel
theorem dX1_agreementOn_21 : decode cX1_agreementOn 21 = .ok (.bipush 63, 2) := by decide +kernel
theorem dX1_agreementOn_23 : decode cX1_agreementOn 23 = .ok (.ireturn, 1) := by decide +kernel
theorem dX1_agreementOn_24 : decode cX1_agreementOn 24 = .ok (.iload_n 3, 1) := by decide +kernel
theorem dX1_agreementOn_25 : decode cX1_agreementOn 25 = .ok (.iload_n 2, 1) := by decide +kernel
theorem dX1_agreementOn_26 : decode cX1_agreementOn 26 = .ok (.if_icmp .ne 8, 3) := by decide +kernel
theorem dX1_agreementOn_29 : decode cX1_agreementOn 29 = .ok (.bipush 43, 2) := by decide +kernel
theorem dX1_agreementOn_31 : decode cX1_agreementOn 31 = .ok (.goto 5, 3) := by decide +kernel
theorem dX1_agreementOn_34 : decode cX1_agreementOn 34 = .ok (.bipush 45, 2) := by decide +kernel
theorem dX1_agreementOn_36 : decode cX1_agreementOn 36 = .ok (.ireturn, 1) := by decide +kernel
set_option maxRecDepth 20000 in
theorem ggX1_bestQuestion_X1_holding : GoodIn wsX1_bestQuestion wsX1_holding := goodIn_r _ [10, 11, 12, 13, 14, 31, 32, 33, 34] (by decide +kernel) (by decide +kernel)
set_option maxRecDepth 20000 in
theorem gX1_bestQuestion_X1_holding : GoodIn wsX1_bestQuestion (wsV RX1 45 RX1 yX1_holding wsX1_holding) := goodIn_app (goodIn_of _ (by decide +kernel)) ggX1_bestQuestion_X1_holding
set_option maxRecDepth 20000 in
theorem ggX1_bestQuestion_J6_bitCount_0f7a4 : GoodIn wsX1_bestQuestion wsJ6_bitCount_0f7a4 := goodIn_r _ [18, 19, 20, 21] (by decide +kernel) (by decide +kernel)
set_option maxRecDepth 20000 in
theorem gX1_bestQuestion_J6_bitCount_0f7a4 : GoodIn wsX1_bestQuestion (va_wsS RX1 51 yJ6_bitCount_0f7a4 wsJ6_bitCount_0f7a4) := goodIn_app (goodIn_of _ (by decide +kernel)) ggX1_bestQuestion_J6_bitCount_0f7a4
set_option maxRecDepth 20000 in
theorem ggX1_bestQuestion_X1_lacking : GoodIn wsX1_bestQuestion wsX1_lacking := goodIn_r _ [25, 11, 26, 27, 28, 9, 29, 30, 12, 13, 14, 31, 32, 33, 34] (by decide +kernel) (by decide +kernel)
set_option maxRecDepth 20000 in
theorem gX1_bestQuestion_X1_lacking : GoodIn wsX1_bestQuestion (wsV RX1 48 RX1 yX1_lacking wsX1_lacking) := goodIn_app (goodIn_of _ (by decide +kernel)) ggX1_bestQuestion_X1_lacking
theorem dX1_bestQuestion_0 : decode cX1_bestQuestion 0 = .ok (.iconst (-1), 1) := by decide +kernel
theorem dX1_bestQuestion_1 : decode cX1_bestQuestion 1 = .ok (.istore_n 2, 1) := by decide +kernel
theorem dX1_bestQuestion_2 : decode cX1_bestQuestion 2 = .ok (.iconst 0, 1) := by decide +kernel
theorem dX1_bestQuestion_3 : decode cX1_bestQuestion 3 = .ok (.istore_n 3, 1) := by decide +kernel
theorem dX1_bestQuestion_4 : decode cX1_bestQuestion 4 = .ok (.iconst 0, 1) := by decide +kernel
theorem dX1_bestQuestion_5 : decode cX1_bestQuestion 5 = .ok (.istore 4, 2) := by decide +kernel
theorem dX1_bestQuestion_7 : decode cX1_bestQuestion 7 = .ok (.iload 4, 2) := by decide +kernel
theorem dX1_bestQuestion_9 : decode cX1_bestQuestion 9 = .ok (.aload_n 0, 1) := by decide +kernel
theorem dX1_bestQuestion_10 : decode cX1_bestQuestion 10 = .ok (.getfield 18, 3) := by decide +kernel
theorem dX1_bestQuestion_13 : decode cX1_bestQuestion 13 = .ok (.if_icmp .ge 48, 3) := by decide +kernel
theorem dX1_bestQuestion_16 : decode cX1_bestQuestion 16 = .ok (.iload_n 1, 1) := by decide +kernel
theorem dX1_bestQuestion_17 : decode cX1_bestQuestion 17 = .ok (.aload_n 0, 1) := by decide +kernel
theorem dX1_bestQuestion_18 : decode cX1_bestQuestion 18 = .ok (.iload 4, 2) := by decide +kernel
theorem dX1_bestQuestion_20 : decode cX1_bestQuestion 20 = .ok (.invokevirtual 45, 3) := by decide +kernel
theorem dX1_bestQuestion_23 : decode cX1_bestQuestion 23 = .ok (.iand, 1) := by decide +kernel
theorem dX1_bestQuestion_24 : decode cX1_bestQuestion 24 = .ok (.invokestatic 51, 3) := by decide +kernel
theorem dX1_bestQuestion_27 : decode cX1_bestQuestion 27 = .ok (.iload_n 1, 1) := by decide +kernel
theorem dX1_bestQuestion_28 : decode cX1_bestQuestion 28 = .ok (.aload_n 0, 1) := by decide +kernel
theorem dX1_bestQuestion_29 : decode cX1_bestQuestion 29 = .ok (.iload 4, 2) := by decide +kernel
theorem dX1_bestQuestion_31 : decode cX1_bestQuestion 31 = .ok (.invokevirtual 48, 3) := by decide +kernel
theorem dX1_bestQuestion_34 : decode cX1_bestQuestion 34 = .ok (.iand, 1) := by decide +kernel
theorem dX1_bestQuestion_35 : decode cX1_bestQuestion 35 = .ok (.invokestatic 51, 3) := by decide +kernel
theorem dX1_bestQuestion_38 : decode cX1_bestQuestion 38 = .ok (.invokestatic 66, 3) := by decide +kernel
theorem dX1_bestQuestion_41 : decode cX1_bestQuestion 41 = .ok (.istore 5, 2) := by decide +kernel
theorem dX1_bestQuestion_43 : decode cX1_bestQuestion 43 = .ok (.iload 5, 2) := by decide +kernel
theorem dX1_bestQuestion_45 : decode cX1_bestQuestion 45 = .ok (.iload_n 2, 1) := by decide +kernel
theorem dX1_bestQuestion_46 : decode cX1_bestQuestion 46 = .ok (.if_icmp .le 9, 3) := by decide +kernel
theorem dX1_bestQuestion_49 : decode cX1_bestQuestion 49 = .ok (.iload 5, 2) := by decide +kernel
theorem dX1_bestQuestion_51 : decode cX1_bestQuestion 51 = .ok (.istore_n 2, 1) := by decide +kernel
theorem dX1_bestQuestion_52 : decode cX1_bestQuestion 52 = .ok (.iload 4, 2) := by decide +kernel
theorem dX1_bestQuestion_54 : decode cX1_bestQuestion 54 = .ok (.istore_n 3, 1) := by decide +kernel
theorem dX1_bestQuestion_55 : decode cX1_bestQuestion 55 = .ok (.iinc 4 1, 3) := by decide +kernel
theorem dX1_bestQuestion_58 : decode cX1_bestQuestion 58 = .ok (.goto (-51), 3) := by decide +kernel
theorem dX1_bestQuestion_61 : decode cX1_bestQuestion 61 = .ok (.iload_n 3, 1) := by decide +kernel
theorem dX1_bestQuestion_62 : decode cX1_bestQuestion 62 = .ok (.ireturn, 1) := by decide +kernel
set_option maxRecDepth 20000 in
theorem ggX1_isMostlyIn_X1_holding : GoodIn wsX1_isMostlyIn wsX1_holding := goodIn_r _ [5, 6, 7, 8, 9, 26, 27, 28, 29] (by decide +kernel) (by decide +kernel)
set_option maxRecDepth 20000 in
theorem gX1_isMostlyIn_X1_holding : GoodIn wsX1_isMostlyIn (wsV RX1 45 RX1 yX1_holding wsX1_holding) := goodIn_app (goodIn_of _ (by decide +kernel)) ggX1_isMostlyIn_X1_holding
set_option maxRecDepth 20000 in
theorem ggX1_isMostlyIn_J6_bitCount_0f7a4 : GoodIn wsX1_isMostlyIn wsJ6_bitCount_0f7a4 := goodIn_r _ [13, 14, 15, 16] (by decide +kernel) (by decide +kernel)
set_option maxRecDepth 20000 in
theorem gX1_isMostlyIn_J6_bitCount_0f7a4 : GoodIn wsX1_isMostlyIn (va_wsS RX1 51 yJ6_bitCount_0f7a4 wsJ6_bitCount_0f7a4) := goodIn_app (goodIn_of _ (by decide +kernel)) ggX1_isMostlyIn_J6_bitCount_0f7a4
set_option maxRecDepth 20000 in
theorem ggX1_isMostlyIn_X1_lacking : GoodIn wsX1_isMostlyIn wsX1_lacking := goodIn_r _ [20, 6, 21, 22, 23, 4, 24, 25, 7, 8, 9, 26, 27, 28, 29] (by decide +kernel) (by decide +kernel)
set_option maxRecDepth 20000 in
theorem gX1_isMostlyIn_X1_lacking : GoodIn wsX1_isMostlyIn (wsV RX1 48 RX1 yX1_lacking wsX1_lacking) := goodIn_app (goodIn_of _ (by decide +kernel)) ggX1_isMostlyIn_X1_lacking
theorem dX1_isMostlyIn_0 : decode cX1_isMostlyIn 0 = .ok (.iload_n 2, 1) := by decide +kernel
theorem dX1_isMostlyIn_1 : decode cX1_isMostlyIn 1 = .ok (.aload_n 0, 1) := by decide +kernel
theorem dX1_isMostlyIn_2 : decode cX1_isMostlyIn 2 = .ok (.iload_n 1, 1) := by decide +kernel
theorem dX1_isMostlyIn_3 : decode cX1_isMostlyIn 3 = .ok (.invokevirtual 45, 3) := by decide +kernel
theorem dX1_isMostlyIn_6 : decode cX1_isMostlyIn 6 = .ok (.iand, 1) := by decide +kernel
theorem dX1_isMostlyIn_7 : decode cX1_isMostlyIn 7 = .ok (.invokestatic 51, 3) := by decide +kernel
theorem dX1_isMostlyIn_10 : decode cX1_isMostlyIn 10 = .ok (.iload_n 2, 1) := by decide +kernel
theorem dX1_isMostlyIn_11 : decode cX1_isMostlyIn 11 = .ok (.aload_n 0, 1) := by decide +kernel
theorem dX1_isMostlyIn_12 : decode cX1_isMostlyIn 12 = .ok (.iload_n 1, 1) := by decide +kernel
theorem dX1_isMostlyIn_13 : decode cX1_isMostlyIn 13 = .ok (.invokevirtual 48, 3) := by decide +kernel
theorem dX1_isMostlyIn_16 : decode cX1_isMostlyIn 16 = .ok (.iand, 1) := by decide +kernel
theorem dX1_isMostlyIn_17 : decode cX1_isMostlyIn 17 = .ok (.invokestatic 51, 3) := by decide +kernel
theorem dX1_isMostlyIn_20 : decode cX1_isMostlyIn 20 = .ok (.if_icmp .lt 7, 3) := by decide +kernel
theorem dX1_isMostlyIn_23 : decode cX1_isMostlyIn 23 = .ok (.iconst 1, 1) := by decide +kernel
theorem dX1_isMostlyIn_24 : decode cX1_isMostlyIn 24 = .ok (.goto 4, 3) := by decide +kernel
theorem dX1_isMostlyIn_27 : decode cX1_isMostlyIn 27 = .ok (.iconst 0, 1) := by decide +kernel
theorem dX1_isMostlyIn_28 : decode cX1_isMostlyIn 28 = .ok (.ireturn, 1) := by decide +kernel
set_option maxRecDepth 20000 in
theorem ggX1_shatters_X1_setAt : GoodIn wsX1_shatters wsX1_setAt := goodIn_r _ [6, 7, 8, 9, 10, 25, 26, 27, 28] (by decide +kernel) (by decide +kernel)
set_option maxRecDepth 20000 in
theorem gX1_shatters_X1_setAt : GoodIn wsX1_shatters (wsV RX1 33 RX1 yX1_setAt wsX1_setAt) := goodIn_app (goodIn_of _ (by decide +kernel)) ggX1_shatters_X1_setAt
set_option maxRecDepth 20000 in
theorem ggX1_shatters_J13_bitCount_95d88 : GoodIn wsX1_shatters wsJ13_bitCount_95d88 := goodIn_r _ [14, 15, 16, 17] (by decide +kernel) (by decide +kernel)
set_option maxRecDepth 20000 in
theorem gX1_shatters_J13_bitCount_95d88 : GoodIn wsX1_shatters (va_wsS RX1 72 yJ13_bitCount_95d88 wsJ13_bitCount_95d88) := goodIn_app (goodIn_of _ (by decide +kernel)) ggX1_shatters_J13_bitCount_95d88
set_option maxRecDepth 20000 in
theorem ggX1_shatters_J6_bitCount_0f7a4 : GoodIn wsX1_shatters wsJ6_bitCount_0f7a4 := goodIn_r _ [21, 22, 23, 24] (by decide +kernel) (by decide +kernel)
set_option maxRecDepth 20000 in
theorem gX1_shatters_J6_bitCount_0f7a4 : GoodIn wsX1_shatters (va_wsS RX1 51 yJ6_bitCount_0f7a4 wsJ6_bitCount_0f7a4) := goodIn_app (goodIn_of _ (by decide +kernel)) ggX1_shatters_J6_bitCount_0f7a4
theorem dX1_shatters_0 : decode cX1_shatters 0 = .ok (.lconst 0, 1) := by decide +kernel
theorem dX1_shatters_1 : decode cX1_shatters 1 = .ok (.lstore_n 2, 1) := by decide +kernel
theorem dX1_shatters_2 : decode cX1_shatters 2 = .ok (.iconst 0, 1) := by decide +kernel
theorem dX1_shatters_3 : decode cX1_shatters 3 = .ok (.istore 4, 2) := by decide +kernel
theorem dX1_shatters_5 : decode cX1_shatters 5 = .ok (.iload 4, 2) := by decide +kernel
theorem dX1_shatters_7 : decode cX1_shatters 7 = .ok (.aload_n 0, 1) := by decide +kernel
theorem dX1_shatters_8 : decode cX1_shatters 8 = .ok (.getfield 22, 3) := by decide +kernel
theorem dX1_shatters_11 : decode cX1_shatters 11 = .ok (.if_icmp .ge 22, 3) := by decide +kernel
theorem dX1_shatters_14 : decode cX1_shatters 14 = .ok (.lload_n 2, 1) := by decide +kernel
theorem dX1_shatters_15 : decode cX1_shatters 15 = .ok (.lconst 1, 1) := by decide +kernel
theorem dX1_shatters_16 : decode cX1_shatters 16 = .ok (.aload_n 0, 1) := by decide +kernel
theorem dX1_shatters_17 : decode cX1_shatters 17 = .ok (.iload 4, 2) := by decide +kernel
theorem dX1_shatters_19 : decode cX1_shatters 19 = .ok (.invokevirtual 33, 3) := by decide +kernel
theorem dX1_shatters_22 : decode cX1_shatters 22 = .ok (.iload_n 1, 1) := by decide +kernel
theorem dX1_shatters_23 : decode cX1_shatters 23 = .ok (.iand, 1) := by decide +kernel
theorem dX1_shatters_24 : decode cX1_shatters 24 = .ok (.lshl, 1) := by decide +kernel
theorem dX1_shatters_25 : decode cX1_shatters 25 = .ok (.lor, 1) := by decide +kernel
theorem dX1_shatters_26 : decode cX1_shatters 26 = .ok (.lstore_n 2, 1) := by decide +kernel
theorem dX1_shatters_27 : decode cX1_shatters 27 = .ok (.iinc 4 1, 3) := by decide +kernel
theorem dX1_shatters_30 : decode cX1_shatters 30 = .ok (.goto (-25), 3) := by decide +kernel
theorem dX1_shatters_33 : decode cX1_shatters 33 = .ok (.lload_n 2, 1) := by decide +kernel
theorem dX1_shatters_34 : decode cX1_shatters 34 = .ok (.invokestatic 72, 3) := by decide +kernel
theorem dX1_shatters_37 : decode cX1_shatters 37 = .ok (.iconst 1, 1) := by decide +kernel
theorem dX1_shatters_38 : decode cX1_shatters 38 = .ok (.iload_n 1, 1) := by decide +kernel
theorem dX1_shatters_39 : decode cX1_shatters 39 = .ok (.invokestatic 51, 3) := by decide +kernel
theorem dX1_shatters_42 : decode cX1_shatters 42 = .ok (.ishl, 1) := by decide +kernel
theorem dX1_shatters_43 : decode cX1_shatters 43 = .ok (.if_icmp .ne 7, 3) := by decide +kernel
theorem dX1_shatters_46 : decode cX1_shatters 46 = .ok (.iconst 1, 1) := by decide +kernel
theorem dX1_shatters_47 : decode cX1_shatters 47 = .ok (.goto 4, 3) := by decide +kernel
theorem dX1_shatters_50 : decode cX1_shatters 50 = .ok (.iconst 0, 1) := by decide +kernel
theorem dX1_shatters_51 : decode cX1_shatters 51 = .ok (.ireturn, 1) := by decide +kernel
set_option maxRecDepth 20000 in
theorem ggX1_greatestShattered_J6_bitCount_0f7a4 : GoodIn wsX1_greatestShattered wsJ6_bitCount_0f7a4 := goodIn_r _ [5, 6, 7, 8] (by decide +kernel) (by decide +kernel)
set_option maxRecDepth 20000 in
theorem gX1_greatestShattered_J6_bitCount_0f7a4 : GoodIn wsX1_greatestShattered (va_wsS RX1 51 yJ6_bitCount_0f7a4 wsJ6_bitCount_0f7a4) := goodIn_app (goodIn_of _ (by decide +kernel)) ggX1_greatestShattered_J6_bitCount_0f7a4
set_option maxRecDepth 20000 in
theorem ggX1_greatestShattered_X1_shatters : GoodIn wsX1_greatestShattered wsX1_shatters := goodIn_r _ [13, 14, 15, 16, 17, 12, 18, 19, 20, 21, 22, 23, 24, 25, 26, 27, 28, 29, 2, 3, 4, 5, 6, 7, 8, 30, 31, 32, 33] (by decide +kernel) (by decide +kernel)
set_option maxRecDepth 20000 in
theorem gX1_greatestShattered_X1_shatters : GoodIn wsX1_greatestShattered (wsV RX1 77 RX1 yX1_shatters wsX1_shatters) := goodIn_app (goodIn_of _ (by decide +kernel)) ggX1_greatestShattered_X1_shatters
theorem dX1_greatestShattered_0 : decode cX1_greatestShattered 0 = .ok (.iconst (-1), 1) := by decide +kernel
theorem dX1_greatestShattered_1 : decode cX1_greatestShattered 1 = .ok (.istore_n 1, 1) := by decide +kernel
theorem dX1_greatestShattered_2 : decode cX1_greatestShattered 2 = .ok (.iconst 0, 1) := by decide +kernel
theorem dX1_greatestShattered_3 : decode cX1_greatestShattered 3 = .ok (.istore_n 2, 1) := by decide +kernel
theorem dX1_greatestShattered_4 : decode cX1_greatestShattered 4 = .ok (.iload_n 2, 1) := by decide +kernel
theorem dX1_greatestShattered_5 : decode cX1_greatestShattered 5 = .ok (.iconst 1, 1) := by decide +kernel
theorem dX1_greatestShattered_6 : decode cX1_greatestShattered 6 = .ok (.aload_n 0, 1) := by decide +kernel
theorem dX1_greatestShattered_7 : decode cX1_greatestShattered 7 = .ok (.getfield 18, 3) := by decide +kernel
theorem dX1_greatestShattered_10 : decode cX1_greatestShattered 10 = .ok (.ishl, 1) := by decide +kernel
theorem dX1_greatestShattered_11 : decode cX1_greatestShattered 11 = .ok (.if_icmp .ge 30, 3) := by decide +kernel
theorem dX1_greatestShattered_14 : decode cX1_greatestShattered 14 = .ok (.iload_n 2, 1) := by decide +kernel
theorem dX1_greatestShattered_15 : decode cX1_greatestShattered 15 = .ok (.invokestatic 51, 3) := by decide +kernel
theorem dX1_greatestShattered_18 : decode cX1_greatestShattered 18 = .ok (.iload_n 1, 1) := by decide +kernel
theorem dX1_greatestShattered_19 : decode cX1_greatestShattered 19 = .ok (.if_icmp .le 16, 3) := by decide +kernel
theorem dX1_greatestShattered_22 : decode cX1_greatestShattered 22 = .ok (.aload_n 0, 1) := by decide +kernel
theorem dX1_greatestShattered_23 : decode cX1_greatestShattered 23 = .ok (.iload_n 2, 1) := by decide +kernel
theorem dX1_greatestShattered_24 : decode cX1_greatestShattered 24 = .ok (.invokevirtual 77, 3) := by decide +kernel
theorem dX1_greatestShattered_27 : decode cX1_greatestShattered 27 = .ok (.ifCond .eq 8, 3) := by decide +kernel
theorem dX1_greatestShattered_30 : decode cX1_greatestShattered 30 = .ok (.iload_n 2, 1) := by decide +kernel
theorem dX1_greatestShattered_31 : decode cX1_greatestShattered 31 = .ok (.invokestatic 51, 3) := by decide +kernel
theorem dX1_greatestShattered_34 : decode cX1_greatestShattered 34 = .ok (.istore_n 1, 1) := by decide +kernel
theorem dX1_greatestShattered_35 : decode cX1_greatestShattered 35 = .ok (.iinc 2 1, 3) := by decide +kernel
theorem dX1_greatestShattered_38 : decode cX1_greatestShattered 38 = .ok (.goto (-34), 3) := by decide +kernel
theorem dX1_greatestShattered_41 : decode cX1_greatestShattered 41 = .ok (.iload_n 1, 1) := by decide +kernel
theorem dX1_greatestShattered_42 : decode cX1_greatestShattered 42 = .ok (.ireturn, 1) := by decide +kernel
set_option maxRecDepth 20000 in
theorem ggX1_leastLesson_J6_bitCount_0f7a4 : GoodIn wsX1_leastLesson wsJ6_bitCount_0f7a4 := goodIn_r _ [5, 6, 7, 8] (by decide +kernel) (by decide +kernel)
set_option maxRecDepth 20000 in
theorem gX1_leastLesson_J6_bitCount_0f7a4 : GoodIn wsX1_leastLesson (va_wsS RX1 51 yJ6_bitCount_0f7a4 wsJ6_bitCount_0f7a4) := goodIn_app (goodIn_of _ (by decide +kernel)) ggX1_leastLesson_J6_bitCount_0f7a4
set_option maxRecDepth 20000 in
theorem ggX1_leastLesson_X1_isLesson : GoodIn wsX1_leastLesson wsX1_isLesson := goodIn_r _ [13, 14, 15, 16, 17, 12, 18, 19, 20, 21, 22, 23, 24, 25, 26] (by decide +kernel) (by decide +kernel)
set_option maxRecDepth 20000 in
theorem gX1_leastLesson_X1_isLesson : GoodIn wsX1_leastLesson (wsV RX1 81 RX1 yX1_isLesson wsX1_isLesson) := goodIn_app (goodIn_of _ (by decide +kernel)) ggX1_leastLesson_X1_isLesson
theorem dX1_leastLesson_0 : decode cX1_leastLesson 0 = .ok (.aload_n 0, 1) := by decide +kernel
theorem dX1_leastLesson_1 : decode cX1_leastLesson 1 = .ok (.getfield 18, 3) := by decide +kernel
theorem dX1_leastLesson_4 : decode cX1_leastLesson 4 = .ok (.istore_n 2, 1) := by decide +kernel
theorem dX1_leastLesson_5 : decode cX1_leastLesson 5 = .ok (.iconst 0, 1) := by decide +kernel
theorem dX1_leastLesson_6 : decode cX1_leastLesson 6 = .ok (.istore_n 3, 1) := by decide +kernel
theorem dX1_leastLesson_7 : decode cX1_leastLesson 7 = .ok (.iload_n 3, 1) := by decide +kernel
theorem dX1_leastLesson_8 : decode cX1_leastLesson 8 = .ok (.iconst 1, 1) := by decide +kernel
theorem dX1_leastLesson_9 : decode cX1_leastLesson 9 = .ok (.aload_n 0, 1) := by decide +kernel
theorem dX1_leastLesson_10 : decode cX1_leastLesson 10 = .ok (.getfield 18, 3) := by decide +kernel
theorem dX1_leastLesson_13 : decode cX1_leastLesson 13 = .ok (.ishl, 1) := by decide +kernel
theorem dX1_leastLesson_14 : decode cX1_leastLesson 14 = .ok (.if_icmp .ge 31, 3) := by decide +kernel
theorem dX1_leastLesson_17 : decode cX1_leastLesson 17 = .ok (.iload_n 3, 1) := by decide +kernel
theorem dX1_leastLesson_18 : decode cX1_leastLesson 18 = .ok (.invokestatic 51, 3) := by decide +kernel
theorem dX1_leastLesson_21 : decode cX1_leastLesson 21 = .ok (.iload_n 2, 1) := by decide +kernel
theorem dX1_leastLesson_22 : decode cX1_leastLesson 22 = .ok (.if_icmp .ge 17, 3) := by decide +kernel
theorem dX1_leastLesson_25 : decode cX1_leastLesson 25 = .ok (.aload_n 0, 1) := by decide +kernel
theorem dX1_leastLesson_26 : decode cX1_leastLesson 26 = .ok (.iload_n 3, 1) := by decide +kernel
theorem dX1_leastLesson_27 : decode cX1_leastLesson 27 = .ok (.iload_n 1, 1) := by decide +kernel
theorem dX1_leastLesson_28 : decode cX1_leastLesson 28 = .ok (.invokevirtual 81, 3) := by decide +kernel
theorem dX1_leastLesson_31 : decode cX1_leastLesson 31 = .ok (.ifCond .eq 8, 3) := by decide +kernel
theorem dX1_leastLesson_34 : decode cX1_leastLesson 34 = .ok (.iload_n 3, 1) := by decide +kernel
theorem dX1_leastLesson_35 : decode cX1_leastLesson 35 = .ok (.invokestatic 51, 3) := by decide +kernel
theorem dX1_leastLesson_38 : decode cX1_leastLesson 38 = .ok (.istore_n 2, 1) := by decide +kernel
theorem dX1_leastLesson_39 : decode cX1_leastLesson 39 = .ok (.iinc 3 1, 3) := by decide +kernel
theorem dX1_leastLesson_42 : decode cX1_leastLesson 42 = .ok (.goto (-35), 3) := by decide +kernel
theorem dX1_leastLesson_45 : decode cX1_leastLesson 45 = .ok (.iload_n 2, 1) := by decide +kernel
theorem dX1_leastLesson_46 : decode cX1_leastLesson 46 = .ok (.ireturn, 1) := by decide +kernel
set_option maxRecDepth 20000 in
theorem ggX1_isLesson_X1_setAt : GoodIn wsX1_isLesson wsX1_setAt := goodIn_r _ [6, 7, 8, 9, 10, 11, 12, 13, 14] (by decide +kernel) (by decide +kernel)
set_option maxRecDepth 20000 in
theorem gX1_isLesson_X1_setAt : GoodIn wsX1_isLesson (wsV RX1 33 RX1 yX1_setAt wsX1_setAt) := goodIn_app (goodIn_of _ (by decide +kernel)) ggX1_isLesson_X1_setAt
theorem dX1_isLesson_0 : decode cX1_isLesson 0 = .ok (.aload_n 0, 1) := by decide +kernel
theorem dX1_isLesson_1 : decode cX1_isLesson 1 = .ok (.iload_n 2, 1) := by decide +kernel
theorem dX1_isLesson_2 : decode cX1_isLesson 2 = .ok (.invokevirtual 33, 3) := by decide +kernel
theorem dX1_isLesson_5 : decode cX1_isLesson 5 = .ok (.istore_n 3, 1) := by decide +kernel
theorem dX1_isLesson_6 : decode cX1_isLesson 6 = .ok (.iconst 0, 1) := by decide +kernel
theorem dX1_isLesson_7 : decode cX1_isLesson 7 = .ok (.istore 4, 2) := by decide +kernel
theorem dX1_isLesson_9 : decode cX1_isLesson 9 = .ok (.iload 4, 2) := by decide +kernel
theorem dX1_isLesson_11 : decode cX1_isLesson 11 = .ok (.aload_n 0, 1) := by decide +kernel
theorem dX1_isLesson_12 : decode cX1_isLesson 12 = .ok (.getfield 22, 3) := by decide +kernel
theorem dX1_isLesson_15 : decode cX1_isLesson 15 = .ok (.if_icmp .ge 30, 3) := by decide +kernel
theorem dX1_isLesson_18 : decode cX1_isLesson 18 = .ok (.iload 4, 2) := by decide +kernel
theorem dX1_isLesson_20 : decode cX1_isLesson 20 = .ok (.iload_n 2, 1) := by decide +kernel
theorem dX1_isLesson_21 : decode cX1_isLesson 21 = .ok (.if_icmp .eq 18, 3) := by decide +kernel
theorem dX1_isLesson_24 : decode cX1_isLesson 24 = .ok (.iload_n 3, 1) := by decide +kernel
theorem dX1_isLesson_25 : decode cX1_isLesson 25 = .ok (.aload_n 0, 1) := by decide +kernel
theorem dX1_isLesson_26 : decode cX1_isLesson 26 = .ok (.iload 4, 2) := by decide +kernel
theorem dX1_isLesson_28 : decode cX1_isLesson 28 = .ok (.invokevirtual 33, 3) := by decide +kernel
theorem dX1_isLesson_31 : decode cX1_isLesson 31 = .ok (.ixor, 1) := by decide +kernel
theorem dX1_isLesson_32 : decode cX1_isLesson 32 = .ok (.iload_n 1, 1) := by decide +kernel
theorem dX1_isLesson_33 : decode cX1_isLesson 33 = .ok (.iand, 1) := by decide +kernel
theorem dX1_isLesson_34 : decode cX1_isLesson 34 = .ok (.ifCond .ne 5, 3) := by decide +kernel
theorem dX1_isLesson_37 : decode cX1_isLesson 37 = .ok (.iconst 0, 1) := by decide +kernel
theorem dX1_isLesson_38 : decode cX1_isLesson 38 = .ok (.ireturn, 1) := by decide +kernel
theorem dX1_isLesson_39 : decode cX1_isLesson 39 = .ok (.iinc 4 1, 3) := by decide +kernel
theorem dX1_isLesson_42 : decode cX1_isLesson 42 = .ok (.goto (-33), 3) := by decide +kernel
theorem dX1_isLesson_45 : decode cX1_isLesson 45 = .ok (.iconst 1, 1) := by decide +kernel
theorem dX1_isLesson_46 : decode cX1_isLesson 46 = .ok (.ireturn, 1) := by decide +kernel
set_option maxRecDepth 20000 in
theorem ggX1_lessonSum_X1_leastLesson : GoodIn wsX1_lessonSum wsX1_leastLesson := goodIn_r _ [6, 7, 8, 9, 10, 11, 12, 13, 14, 15, 16, 17, 5, 18, 1, 19, 20, 21, 22, 23, 24, 25, 26, 27, 28, 29, 30] (by decide +kernel) (by decide +kernel)
set_option maxRecDepth 20000 in
theorem gX1_lessonSum_X1_leastLesson : GoodIn wsX1_lessonSum (wsV RX1 84 RX1 yX1_leastLesson wsX1_leastLesson) := goodIn_app (goodIn_of _ (by decide +kernel)) ggX1_lessonSum_X1_leastLesson
theorem dX1_lessonSum_0 : decode cX1_lessonSum 0 = .ok (.iconst 0, 1) := by decide +kernel
theorem dX1_lessonSum_1 : decode cX1_lessonSum 1 = .ok (.istore_n 1, 1) := by decide +kernel
theorem dX1_lessonSum_2 : decode cX1_lessonSum 2 = .ok (.iconst 0, 1) := by decide +kernel
theorem dX1_lessonSum_3 : decode cX1_lessonSum 3 = .ok (.istore_n 2, 1) := by decide +kernel
theorem dX1_lessonSum_4 : decode cX1_lessonSum 4 = .ok (.iload_n 2, 1) := by decide +kernel
theorem dX1_lessonSum_5 : decode cX1_lessonSum 5 = .ok (.aload_n 0, 1) := by decide +kernel
theorem dX1_lessonSum_6 : decode cX1_lessonSum 6 = .ok (.getfield 22, 3) := by decide +kernel
theorem dX1_lessonSum_9 : decode cX1_lessonSum 9 = .ok (.if_icmp .ge 17, 3) := by decide +kernel
theorem dX1_lessonSum_12 : decode cX1_lessonSum 12 = .ok (.iload_n 1, 1) := by decide +kernel
theorem dX1_lessonSum_13 : decode cX1_lessonSum 13 = .ok (.aload_n 0, 1) := by decide +kernel
theorem dX1_lessonSum_14 : decode cX1_lessonSum 14 = .ok (.iload_n 2, 1) := by decide +kernel
theorem dX1_lessonSum_15 : decode cX1_lessonSum 15 = .ok (.invokevirtual 84, 3) := by decide +kernel
theorem dX1_lessonSum_18 : decode cX1_lessonSum 18 = .ok (.iadd, 1) := by decide +kernel
theorem dX1_lessonSum_19 : decode cX1_lessonSum 19 = .ok (.istore_n 1, 1) := by decide +kernel
theorem dX1_lessonSum_20 : decode cX1_lessonSum 20 = .ok (.iinc 2 1, 3) := by decide +kernel
theorem dX1_lessonSum_23 : decode cX1_lessonSum 23 = .ok (.goto (-19), 3) := by decide +kernel
theorem dX1_lessonSum_26 : decode cX1_lessonSum 26 = .ok (.iload_n 1, 1) := by decide +kernel
theorem dX1_lessonSum_27 : decode cX1_lessonSum 27 = .ok (.ireturn, 1) := by decide +kernel
set_option maxRecDepth 20000 in
theorem ggX1_halvingMistakes_X1_setAt : GoodIn wsX1_halvingMistakes wsX1_setAt := goodIn_r _ [6, 7, 8, 9, 10, 42, 43, 44, 45] (by decide +kernel) (by decide +kernel)
set_option maxRecDepth 20000 in
theorem gX1_halvingMistakes_X1_setAt : GoodIn wsX1_halvingMistakes (wsV RX1 33 RX1 yX1_setAt wsX1_setAt) := goodIn_app (goodIn_of _ (by decide +kernel)) ggX1_halvingMistakes_X1_setAt
set_option maxRecDepth 20000 in
theorem ggX1_halvingMistakes_X1_everyone : GoodIn wsX1_halvingMistakes wsX1_everyone := goodIn_r _ [14, 15, 42, 43, 44, 45] (by decide +kernel) (by decide +kernel)
set_option maxRecDepth 20000 in
theorem gX1_halvingMistakes_X1_everyone : GoodIn wsX1_halvingMistakes (wsV RX1 41 RX1 yX1_everyone wsX1_everyone) := goodIn_app (goodIn_of _ (by decide +kernel)) ggX1_halvingMistakes_X1_everyone
set_option maxRecDepth 20000 in
theorem ggX1_halvingMistakes_X1_isMostlyIn : GoodIn wsX1_halvingMistakes wsX1_isMostlyIn := goodIn_r _ [19, 20, 21, 22, 5, 23, 24, 8, 9, 10, 25, 26, 27, 28, 29, 30, 31, 32, 33, 34, 35, 11, 12, 13, 14, 15, 42, 43, 44, 45] (by decide +kernel) (by decide +kernel)
set_option maxRecDepth 20000 in
theorem gX1_halvingMistakes_X1_isMostlyIn : GoodIn wsX1_halvingMistakes (wsV RX1 87 RX1 yX1_isMostlyIn wsX1_isMostlyIn) := goodIn_app (goodIn_of _ (by decide +kernel)) ggX1_halvingMistakes_X1_isMostlyIn
set_option maxRecDepth 20000 in
theorem ggX1_halvingMistakes_X8_hasBit : GoodIn wsX1_halvingMistakes wsX8_hasBit := goodIn_r _ [37] (by decide +kernel) (by decide +kernel)
set_option maxRecDepth 20000 in
theorem gX1_halvingMistakes_X8_hasBit_n37 : GoodIn wsX1_halvingMistakes (wsX8_hasBit) := ggX1_halvingMistakes_X8_hasBit
set_option maxRecDepth 20000 in
theorem ggX1_halvingMistakes_X1_agreeing : GoodIn wsX1_halvingMistakes wsX1_agreeing := goodIn_r _ [41, 36, 9, 37, 20, 21, 22, 5, 23, 24, 8, 10, 32, 33, 34, 35, 11, 12, 13, 14, 15, 42, 43, 44, 45] (by decide +kernel) (by decide +kernel)
set_option maxRecDepth 20000 in
theorem gX1_halvingMistakes_X1_agreeing : GoodIn wsX1_halvingMistakes (wsV RX1 90 RX1 yX1_agreeing wsX1_agreeing) := goodIn_app (goodIn_of _ (by decide +kernel)) ggX1_halvingMistakes_X1_agreeing
theorem dX1_halvingMistakes_0 : decode cX1_halvingMistakes 0 = .ok (.aload_n 0, 1) := by decide +kernel
theorem dX1_halvingMistakes_1 : decode cX1_halvingMistakes 1 = .ok (.iload_n 1, 1) := by decide +kernel
theorem dX1_halvingMistakes_2 : decode cX1_halvingMistakes 2 = .ok (.invokevirtual 33, 3) := by decide +kernel
theorem dX1_halvingMistakes_5 : decode cX1_halvingMistakes 5 = .ok (.istore_n 2, 1) := by decide +kernel
theorem dX1_halvingMistakes_6 : decode cX1_halvingMistakes 6 = .ok (.aload_n 0, 1) := by decide +kernel
theorem dX1_halvingMistakes_7 : decode cX1_halvingMistakes 7 = .ok (.invokevirtual 41, 3) := by decide +kernel
theorem dX1_halvingMistakes_10 : decode cX1_halvingMistakes 10 = .ok (.istore_n 3, 1) := by decide +kernel
theorem dX1_halvingMistakes_11 : decode cX1_halvingMistakes 11 = .ok (.iconst 0, 1) := by decide +kernel
theorem dX1_halvingMistakes_12 : decode cX1_halvingMistakes 12 = .ok (.istore 4, 2) := by decide +kernel
theorem dX1_halvingMistakes_14 : decode cX1_halvingMistakes 14 = .ok (.iconst 0, 1) := by decide +kernel
theorem dX1_halvingMistakes_15 : decode cX1_halvingMistakes 15 = .ok (.istore 5, 2) := by decide +kernel
theorem dX1_halvingMistakes_17 : decode cX1_halvingMistakes 17 = .ok (.iload 5, 2) := by decide +kernel
theorem dX1_halvingMistakes_19 : decode cX1_halvingMistakes 19 = .ok (.aload_n 0, 1) := by decide +kernel
theorem dX1_halvingMistakes_20 : decode cX1_halvingMistakes 20 = .ok (.getfield 18, 3) := by decide +kernel
theorem dX1_halvingMistakes_23 : decode cX1_halvingMistakes 23 = .ok (.if_icmp .ge 38, 3) := by decide +kernel
theorem dX1_halvingMistakes_26 : decode cX1_halvingMistakes 26 = .ok (.aload_n 0, 1) := by decide +kernel
theorem dX1_halvingMistakes_27 : decode cX1_halvingMistakes 27 = .ok (.iload 5, 2) := by decide +kernel
theorem dX1_halvingMistakes_29 : decode cX1_halvingMistakes 29 = .ok (.iload_n 3, 1) := by decide +kernel
theorem dX1_halvingMistakes_30 : decode cX1_halvingMistakes 30 = .ok (.invokevirtual 87, 3) := by decide +kernel
theorem dX1_halvingMistakes_33 : decode cX1_halvingMistakes 33 = .ok (.iload_n 2, 1) := by decide +kernel
theorem dX1_halvingMistakes_34 : decode cX1_halvingMistakes 34 = .ok (.iload 5, 2) := by decide +kernel
theorem dX1_halvingMistakes_36 : decode cX1_halvingMistakes 36 = .ok (.invokestatic 37, 3) := by decide +kernel
theorem dX1_halvingMistakes_39 : decode cX1_halvingMistakes 39 = .ok (.if_icmp .eq 6, 3) := by decide +kernel
theorem dX1_halvingMistakes_42 : decode cX1_halvingMistakes 42 = .ok (.iinc 4 1, 3) := by decide +kernel
theorem dX1_halvingMistakes_45 : decode cX1_halvingMistakes 45 = .ok (.iload_n 3, 1) := by decide +kernel
theorem dX1_halvingMistakes_46 : decode cX1_halvingMistakes 46 = .ok (.aload_n 0, 1) := by decide +kernel
theorem dX1_halvingMistakes_47 : decode cX1_halvingMistakes 47 = .ok (.iload_n 2, 1) := by decide +kernel
theorem dX1_halvingMistakes_48 : decode cX1_halvingMistakes 48 = .ok (.iload 5, 2) := by decide +kernel
theorem dX1_halvingMistakes_50 : decode cX1_halvingMistakes 50 = .ok (.invokevirtual 90, 3) := by decide +kernel
theorem dX1_halvingMistakes_53 : decode cX1_halvingMistakes 53 = .ok (.iand, 1) := by decide +kernel
theorem dX1_halvingMistakes_54 : decode cX1_halvingMistakes 54 = .ok (.istore_n 3, 1) := by decide +kernel
theorem dX1_halvingMistakes_55 : decode cX1_halvingMistakes 55 = .ok (.iinc 5 1, 3) := by decide +kernel
theorem dX1_halvingMistakes_58 : decode cX1_halvingMistakes 58 = .ok (.goto (-41), 3) := by decide +kernel
theorem dX1_halvingMistakes_61 : decode cX1_halvingMistakes 61 = .ok (.iload 4, 2) := by decide +kernel
theorem dX1_halvingMistakes_63 : decode cX1_halvingMistakes 63 = .ok (.ireturn, 1) := by decide +kernel
theorem dX2_init_0 : decode cX2_init 0 = .ok (.aload_n 0, 1) := by decide +kernel
theorem dX2_init_1 : decode cX2_init 1 = .ok (.invokespecial 3, 3) := by decide +kernel
theorem dX2_init_4 : decode cX2_init 4 = .ok (.aload_n 0, 1) := by decide +kernel
theorem dX2_init_5 : decode cX2_init 5 = .ok (.bipush 6, 2) := by decide +kernel
theorem dX2_init_7 : decode cX2_init 7 = .ok (.newarray .int, 2) := by decide +kernel
theorem dX2_init_9 : decode cX2_init 9 = .ok (.putfield 9, 3) := by decide +kernel
theorem dX2_init_12 : decode cX2_init 12 = .ok (.aload_n 0, 1) := by decide +kernel
theorem dX2_init_13 : decode cX2_init 13 = .ok (.bipush 6, 2) := by decide +kernel
theorem dX2_init_15 : decode cX2_init 15 = .ok (.newarray .int, 2) := by decide +kernel
theorem dX2_init_17 : decode cX2_init 17 = .ok (.putfield 15, 3) := by decide +kernel
theorem dX2_init_20 : decode cX2_init 20 = .ok (.return_, 1) := by decide +kernel
set_option maxRecDepth 20000 in
theorem ggX2_startAnew_X8_put : GoodIn wsX2_startAnew wsX8_put := goodIn_r _ [7] (by decide +kernel) (by decide +kernel)
set_option maxRecDepth 20000 in
theorem gX2_startAnew_X8_put_n25 : GoodIn wsX2_startAnew (wsX8_put) := ggX2_startAnew_X8_put
theorem dX2_startAnew_0 : decode cX2_startAnew 0 = .ok (.aload_n 0, 1) := by decide +kernel
theorem dX2_startAnew_1 : decode cX2_startAnew 1 = .ok (.iload_n 1, 1) := by decide +kernel
theorem dX2_startAnew_2 : decode cX2_startAnew 2 = .ok (.putfield 18, 3) := by decide +kernel
theorem dX2_startAnew_5 : decode cX2_startAnew 5 = .ok (.aload_n 0, 1) := by decide +kernel
theorem dX2_startAnew_6 : decode cX2_startAnew 6 = .ok (.iconst 0, 1) := by decide +kernel
theorem dX2_startAnew_7 : decode cX2_startAnew 7 = .ok (.putfield 22, 3) := by decide +kernel
theorem dX2_startAnew_10 : decode cX2_startAnew 10 = .ok (.iconst 0, 1) := by decide +kernel
theorem dX2_startAnew_11 : decode cX2_startAnew 11 = .ok (.istore_n 2, 1) := by decide +kernel
theorem dX2_startAnew_12 : decode cX2_startAnew 12 = .ok (.iload_n 2, 1) := by decide +kernel
theorem dX2_startAnew_13 : decode cX2_startAnew 13 = .ok (.iload_n 1, 1) := by decide +kernel
theorem dX2_startAnew_14 : decode cX2_startAnew 14 = .ok (.if_icmp .ge 29, 3) := by decide +kernel
theorem dX2_startAnew_17 : decode cX2_startAnew 17 = .ok (.aload_n 0, 1) := by decide +kernel
theorem dX2_startAnew_18 : decode cX2_startAnew 18 = .ok (.getfield 9, 3) := by decide +kernel
theorem dX2_startAnew_21 : decode cX2_startAnew 21 = .ok (.iload_n 2, 1) := by decide +kernel
theorem dX2_startAnew_22 : decode cX2_startAnew 22 = .ok (.sipush 1024, 3) := by decide +kernel
theorem dX2_startAnew_25 : decode cX2_startAnew 25 = .ok (.invokestatic 25, 3) := by decide +kernel
theorem dX2_startAnew_28 : decode cX2_startAnew 28 = .ok (.aload_n 0, 1) := by decide +kernel
theorem dX2_startAnew_29 : decode cX2_startAnew 29 = .ok (.getfield 15, 3) := by decide +kernel
theorem dX2_startAnew_32 : decode cX2_startAnew 32 = .ok (.iload_n 2, 1) := by decide +kernel
theorem dX2_startAnew_33 : decode cX2_startAnew 33 = .ok (.iconst 0, 1) := by decide +kernel
theorem dX2_startAnew_34 : decode cX2_startAnew 34 = .ok (.invokestatic 25, 3) := by decide +kernel
theorem dX2_startAnew_37 : decode cX2_startAnew 37 = .ok (.iinc 2 1, 3) := by decide +kernel
theorem dX2_startAnew_40 : decode cX2_startAnew 40 = .ok (.goto (-28), 3) := by decide +kernel
theorem dX2_startAnew_43 : decode cX2_startAnew 43 = .ok (.return_, 1) := by decide +kernel
set_option maxRecDepth 20000 in
theorem ggX2_weightOf_X8_at : GoodIn wsX2_weightOf wsX8_at := goodIn_r _ [4] (by decide +kernel) (by decide +kernel)
set_option maxRecDepth 20000 in
theorem gX2_weightOf_X8_at_n29 : GoodIn wsX2_weightOf (wsX8_at) := ggX2_weightOf_X8_at
theorem dX2_weightOf_0 : decode cX2_weightOf 0 = .ok (.aload_n 0, 1) := by decide +kernel
theorem dX2_weightOf_1 : decode cX2_weightOf 1 = .ok (.getfield 9, 3) := by decide +kernel
theorem dX2_weightOf_4 : decode cX2_weightOf 4 = .ok (.iload_n 1, 1) := by decide +kernel
theorem dX2_weightOf_5 : decode cX2_weightOf 5 = .ok (.invokestatic 29, 3) := by decide +kernel
theorem dX2_weightOf_8 : decode cX2_weightOf 8 = .ok (.ireturn, 1) := by decide +kernel
set_option maxRecDepth 20000 in
theorem ggX2_leastWrong_X8_at : GoodIn wsX2_leastWrong wsX8_at := goodIn_r _ [9] (by decide +kernel) (by decide +kernel)
set_option maxRecDepth 20000 in
theorem gX2_leastWrong_X8_at_n29 : GoodIn wsX2_leastWrong (wsX8_at) := ggX2_leastWrong_X8_at
theorem dX2_leastWrong_0 : decode cX2_leastWrong 0 = .ok (.aload_n 0, 1) := by decide +kernel
theorem dX2_leastWrong_1 : decode cX2_leastWrong 1 = .ok (.getfield 15, 3) := by decide +kernel
theorem dX2_leastWrong_4 : decode cX2_leastWrong 4 = .ok (.iconst 0, 1) := by decide +kernel
theorem dX2_leastWrong_5 : decode cX2_leastWrong 5 = .ok (.invokestatic 29, 3) := by decide +kernel
theorem dX2_leastWrong_8 : decode cX2_leastWrong 8 = .ok (.istore_n 1, 1) := by decide +kernel
theorem dX2_leastWrong_9 : decode cX2_leastWrong 9 = .ok (.iconst 1, 1) := by decide +kernel
theorem dX2_leastWrong_10 : decode cX2_leastWrong 10 = .ok (.istore_n 2, 1) := by decide +kernel
theorem dX2_leastWrong_11 : decode cX2_leastWrong 11 = .ok (.iload_n 2, 1) := by decide +kernel
theorem dX2_leastWrong_12 : decode cX2_leastWrong 12 = .ok (.aload_n 0, 1) := by decide +kernel
theorem dX2_leastWrong_13 : decode cX2_leastWrong 13 = .ok (.getfield 18, 3) := by decide +kernel
theorem dX2_leastWrong_16 : decode cX2_leastWrong 16 = .ok (.if_icmp .ge 22, 3) := by decide +kernel
theorem dX2_leastWrong_19 : decode cX2_leastWrong 19 = .ok (.iload_n 1, 1) := by decide +kernel
theorem dX2_leastWrong_20 : decode cX2_leastWrong 20 = .ok (.aload_n 0, 1) := by decide +kernel
theorem dX2_leastWrong_21 : decode cX2_leastWrong 21 = .ok (.getfield 15, 3) := by decide +kernel
theorem dX2_leastWrong_24 : decode cX2_leastWrong 24 = .ok (.iload_n 2, 1) := by decide +kernel
theorem dX2_leastWrong_25 : decode cX2_leastWrong 25 = .ok (.invokestatic 29, 3) := by decide +kernel
theorem dX2_leastWrong_28 : decode cX2_leastWrong 28 = .ok (.invokestatic 33, 3) := by decide +kernel
theorem dX2_leastWrong_31 : decode cX2_leastWrong 31 = .ok (.istore_n 1, 1) := by decide +kernel
theorem dX2_leastWrong_32 : decode cX2_leastWrong 32 = .ok (.iinc 2 1, 3) := by decide +kernel
theorem dX2_leastWrong_35 : decode cX2_leastWrong 35 = .ok (.goto (-24), 3) := by decide +kernel
theorem dX2_leastWrong_38 : decode cX2_leastWrong 38 = .ok (.iload_n 1, 1) := by decide +kernel
theorem dX2_leastWrong_39 : decode cX2_leastWrong 39 = .ok (.ireturn, 1) := by decide +kernel
set_option maxRecDepth 20000 in
theorem ggX2_hear_X2_lead : GoodIn wsX2_hear wsX2_lead := goodIn_r _ [13, 2, 14, 15, 16, 17, 18, 19, 12, 20, 3, 21, 22, 25, 26, 27, 28] (by decide +kernel) (by decide +kernel)
set_option maxRecDepth 20000 in
theorem gX2_hear_X2_lead : GoodIn wsX2_hear (wsV RX2 39 RX2 yX2_lead wsX2_lead) := goodIn_app (goodIn_of _ (by decide +kernel)) ggX2_hear_X2_lead
set_option maxRecDepth 20000 in
theorem ggX2_hear_X8_hasBit : GoodIn wsX2_hear wsX8_hasBit := goodIn_r _ [16] (by decide +kernel) (by decide +kernel)
set_option maxRecDepth 20000 in
theorem gX2_hear_X8_hasBit_n43 : GoodIn wsX2_hear (wsX8_hasBit) := ggX2_hear_X8_hasBit
set_option maxRecDepth 20000 in
theorem ggX2_hear_X2_weightOf : GoodIn wsX2_hear wsX2_weightOf := goodIn_r _ [20, 3, 21, 15, 22, 25, 26, 27, 28] (by decide +kernel) (by decide +kernel)
set_option maxRecDepth 20000 in
theorem gX2_hear_X2_weightOf : GoodIn wsX2_hear (wsV RX2 47 RX2 yX2_weightOf wsX2_weightOf) := goodIn_app (goodIn_of _ (by decide +kernel)) ggX2_hear_X2_weightOf
set_option maxRecDepth 20000 in
theorem ggX2_hear_X8_put : GoodIn wsX2_hear wsX8_put := goodIn_r _ [24] (by decide +kernel) (by decide +kernel)
set_option maxRecDepth 20000 in
theorem gX2_hear_X8_put_n25 : GoodIn wsX2_hear (wsX8_put) := ggX2_hear_X8_put
set_option maxRecDepth 20000 in
theorem ggX2_hear_X8_at : GoodIn wsX2_hear wsX8_at := goodIn_r _ [22] (by decide +kernel) (by decide +kernel)
set_option maxRecDepth 20000 in
theorem gX2_hear_X8_at_n29 : GoodIn wsX2_hear (wsX8_at) := ggX2_hear_X8_at
theorem dX2_hear_0 : decode cX2_hear 0 = .ok (.aload_n 0, 1) := by decide +kernel
theorem dX2_hear_1 : decode cX2_hear 1 = .ok (.iload_n 1, 1) := by decide +kernel
theorem dX2_hear_2 : decode cX2_hear 2 = .ok (.invokevirtual 39, 3) := by decide +kernel
theorem dX2_hear_5 : decode cX2_hear 5 = .ok (.ifCond .lt 7, 3) := by decide +kernel
theorem dX2_hear_8 : decode cX2_hear 8 = .ok (.iconst 1, 1) := by decide +kernel
theorem dX2_hear_9 : decode cX2_hear 9 = .ok (.goto 4, 3) := by decide +kernel
theorem dX2_hear_12 : decode cX2_hear 12 = .ok (.iconst 0, 1) := by decide +kernel
theorem dX2_hear_13 : decode cX2_hear 13 = .ok (.istore_n 3, 1) := by decide +kernel
theorem dX2_hear_14 : decode cX2_hear 14 = .ok (.iload_n 3, 1) := by decide +kernel
theorem dX2_hear_15 : decode cX2_hear 15 = .ok (.iload_n 2, 1) := by decide +kernel
theorem dX2_hear_16 : decode cX2_hear 16 = .ok (.if_icmp .eq 13, 3) := by decide +kernel
theorem dX2_hear_19 : decode cX2_hear 19 = .ok (.aload_n 0, 1) := by decide +kernel
theorem dX2_hear_20 : decode cX2_hear 20 = .ok (.dup, 1) := by decide +kernel
theorem dX2_hear_21 : decode cX2_hear 21 = .ok (.getfield 22, 3) := by decide +kernel
theorem dX2_hear_24 : decode cX2_hear 24 = .ok (.iconst 1, 1) := by decide +kernel
theorem dX2_hear_25 : decode cX2_hear 25 = .ok (.iadd, 1) := by decide +kernel
theorem dX2_hear_26 : decode cX2_hear 26 = .ok (.putfield 22, 3) := by decide +kernel
theorem dX2_hear_29 : decode cX2_hear 29 = .ok (.iconst 0, 1) := by decide +kernel
theorem dX2_hear_30 : decode cX2_hear 30 = .ok (.istore 4, 2) := by decide +kernel
theorem dX2_hear_32 : decode cX2_hear 32 = .ok (.iload 4, 2) := by decide +kernel
theorem dX2_hear_34 : decode cX2_hear 34 = .ok (.aload_n 0, 1) := by decide +kernel
theorem dX2_hear_35 : decode cX2_hear 35 = .ok (.getfield 18, 3) := by decide +kernel
theorem dX2_hear_38 : decode cX2_hear 38 = .ok (.if_icmp .ge 60, 3) := by decide +kernel
theorem dX2_hear_41 : decode cX2_hear 41 = .ok (.iload_n 1, 1) := by decide +kernel
theorem dX2_hear_42 : decode cX2_hear 42 = .ok (.iload 4, 2) := by decide +kernel
theorem dX2_hear_44 : decode cX2_hear 44 = .ok (.invokestatic 43, 3) := by decide +kernel
theorem dX2_hear_47 : decode cX2_hear 47 = .ok (.iload_n 2, 1) := by decide +kernel
theorem dX2_hear_48 : decode cX2_hear 48 = .ok (.if_icmp .eq 44, 3) := by decide +kernel
theorem dX2_hear_51 : decode cX2_hear 51 = .ok (.aload_n 0, 1) := by decide +kernel
theorem dX2_hear_52 : decode cX2_hear 52 = .ok (.getfield 9, 3) := by decide +kernel
theorem dX2_hear_55 : decode cX2_hear 55 = .ok (.iload 4, 2) := by decide +kernel
theorem dX2_hear_57 : decode cX2_hear 57 = .ok (.iconst 1, 1) := by decide +kernel
theorem dX2_hear_58 : decode cX2_hear 58 = .ok (.aload_n 0, 1) := by decide +kernel
theorem dX2_hear_59 : decode cX2_hear 59 = .ok (.iload 4, 2) := by decide +kernel
theorem dX2_hear_61 : decode cX2_hear 61 = .ok (.invokevirtual 47, 3) := by decide +kernel
theorem dX2_hear_64 : decode cX2_hear 64 = .ok (.iconst 2, 1) := by decide +kernel
theorem dX2_hear_65 : decode cX2_hear 65 = .ok (.idiv, 1) := by decide +kernel
theorem dX2_hear_66 : decode cX2_hear 66 = .ok (.invokestatic 50, 3) := by decide +kernel
theorem dX2_hear_69 : decode cX2_hear 69 = .ok (.invokestatic 25, 3) := by decide +kernel
theorem dX2_hear_72 : decode cX2_hear 72 = .ok (.aload_n 0, 1) := by decide +kernel
theorem dX2_hear_73 : decode cX2_hear 73 = .ok (.getfield 15, 3) := by decide +kernel
theorem dX2_hear_76 : decode cX2_hear 76 = .ok (.iload 4, 2) := by decide +kernel
theorem dX2_hear_78 : decode cX2_hear 78 = .ok (.aload_n 0, 1) := by decide +kernel
theorem dX2_hear_79 : decode cX2_hear 79 = .ok (.getfield 15, 3) := by decide +kernel
theorem dX2_hear_82 : decode cX2_hear 82 = .ok (.iload 4, 2) := by decide +kernel
theorem dX2_hear_84 : decode cX2_hear 84 = .ok (.invokestatic 29, 3) := by decide +kernel
theorem dX2_hear_87 : decode cX2_hear 87 = .ok (.iconst 1, 1) := by decide +kernel
theorem dX2_hear_88 : decode cX2_hear 88 = .ok (.iadd, 1) := by decide +kernel
theorem dX2_hear_89 : decode cX2_hear 89 = .ok (.invokestatic 25, 3) := by decide +kernel
theorem dX2_hear_92 : decode cX2_hear 92 = .ok (.iinc 4 1, 3) := by decide +kernel
theorem dX2_hear_95 : decode cX2_hear 95 = .ok (.goto (-63), 3) := by decide +kernel
theorem dX2_hear_98 : decode cX2_hear 98 = .ok (.iload_n 3, 1) := by decide +kernel
theorem dX2_hear_99 : decode cX2_hear 99 = .ok (.ireturn, 1) := by decide +kernel
set_option maxRecDepth 20000 in
theorem ggX2_lead_X8_hasBit : GoodIn wsX2_lead wsX8_hasBit := goodIn_r _ [4] (by decide +kernel) (by decide +kernel)
set_option maxRecDepth 20000 in
theorem gX2_lead_X8_hasBit_n43 : GoodIn wsX2_lead (wsX8_hasBit) := ggX2_lead_X8_hasBit
set_option maxRecDepth 20000 in
theorem ggX2_lead_X2_weightOf : GoodIn wsX2_lead wsX2_weightOf := goodIn_r _ [9, 10, 11, 3, 12, 13, 14, 15, 16] (by decide +kernel) (by decide +kernel)
set_option maxRecDepth 20000 in
theorem gX2_lead_X2_weightOf : GoodIn wsX2_lead (wsV RX2 47 RX2 yX2_weightOf wsX2_weightOf) := goodIn_app (goodIn_of _ (by decide +kernel)) ggX2_lead_X2_weightOf
theorem dX2_lead_0 : decode cX2_lead 0 = .ok (.iconst 0, 1) := by decide +kernel
theorem dX2_lead_1 : decode cX2_lead 1 = .ok (.istore_n 2, 1) := by decide +kernel
theorem dX2_lead_2 : decode cX2_lead 2 = .ok (.iconst 0, 1) := by decide +kernel
theorem dX2_lead_3 : decode cX2_lead 3 = .ok (.istore_n 3, 1) := by decide +kernel
theorem dX2_lead_4 : decode cX2_lead 4 = .ok (.iload_n 3, 1) := by decide +kernel
theorem dX2_lead_5 : decode cX2_lead 5 = .ok (.aload_n 0, 1) := by decide +kernel
theorem dX2_lead_6 : decode cX2_lead 6 = .ok (.getfield 18, 3) := by decide +kernel
theorem dX2_lead_9 : decode cX2_lead 9 = .ok (.if_icmp .ge 34, 3) := by decide +kernel
theorem dX2_lead_12 : decode cX2_lead 12 = .ok (.iload_n 2, 1) := by decide +kernel
theorem dX2_lead_13 : decode cX2_lead 13 = .ok (.iload_n 1, 1) := by decide +kernel
theorem dX2_lead_14 : decode cX2_lead 14 = .ok (.iload_n 3, 1) := by decide +kernel
theorem dX2_lead_15 : decode cX2_lead 15 = .ok (.invokestatic 43, 3) := by decide +kernel
theorem dX2_lead_18 : decode cX2_lead 18 = .ok (.ifCond .eq 11, 3) := by decide +kernel
theorem dX2_lead_21 : decode cX2_lead 21 = .ok (.aload_n 0, 1) := by decide +kernel
theorem dX2_lead_22 : decode cX2_lead 22 = .ok (.iload_n 3, 1) := by decide +kernel
theorem dX2_lead_23 : decode cX2_lead 23 = .ok (.invokevirtual 47, 3) := by decide +kernel
theorem dX2_lead_26 : decode cX2_lead 26 = .ok (.goto 9, 3) := by decide +kernel
theorem dX2_lead_29 : decode cX2_lead 29 = .ok (.aload_n 0, 1) := by decide +kernel
theorem dX2_lead_30 : decode cX2_lead 30 = .ok (.iload_n 3, 1) := by decide +kernel
theorem dX2_lead_31 : decode cX2_lead 31 = .ok (.invokevirtual 47, 3) := by decide +kernel
theorem dX2_lead_34 : decode cX2_lead 34 = .ok (.ineg, 1) := by decide +kernel
theorem dX2_lead_35 : decode cX2_lead 35 = .ok (.iadd, 1) := by decide +kernel
theorem dX2_lead_36 : decode cX2_lead 36 = .ok (.istore_n 2, 1) := by decide +kernel
theorem dX2_lead_37 : decode cX2_lead 37 = .ok (.iinc 3 1, 3) := by decide +kernel
theorem dX2_lead_40 : decode cX2_lead 40 = .ok (.goto (-36), 3) := by decide +kernel
theorem dX2_lead_43 : decode cX2_lead 43 = .ok (.iload_n 2, 1) := by decide +kernel
theorem dX2_lead_44 : decode cX2_lead 44 = .ok (.ireturn, 1) := by decide +kernel
theorem dX3_init_0 : decode cX3_init 0 = .ok (.aload_n 0, 1) := by decide +kernel
theorem dX3_init_1 : decode cX3_init 1 = .ok (.invokespecial 3, 3) := by decide +kernel
theorem dX3_init_4 : decode cX3_init 4 = .ok (.aload_n 0, 1) := by decide +kernel
theorem dX3_init_5 : decode cX3_init 5 = .ok (.bipush 10, 2) := by decide +kernel
theorem dX3_init_7 : decode cX3_init 7 = .ok (.newarray .int, 2) := by decide +kernel
theorem dX3_init_9 : decode cX3_init 9 = .ok (.putfield 9, 3) := by decide +kernel
theorem dX3_init_12 : decode cX3_init 12 = .ok (.return_, 1) := by decide +kernel
theorem dX3_isState_0 : decode cX3_isState 0 = .ok (.iload_n 1, 1) := by decide +kernel
theorem dX3_isState_1 : decode cX3_isState 1 = .ok (.ifCond .lt 15, 3) := by decide +kernel
theorem dX3_isState_4 : decode cX3_isState 4 = .ok (.iload_n 1, 1) := by decide +kernel
theorem dX3_isState_5 : decode cX3_isState 5 = .ok (.aload_n 0, 1) := by decide +kernel
theorem dX3_isState_6 : decode cX3_isState 6 = .ok (.getfield 15, 3) := by decide +kernel
theorem dX3_isState_9 : decode cX3_isState 9 = .ok (.if_icmp .ge 7, 3) := by decide +kernel
theorem dX3_isState_12 : decode cX3_isState 12 = .ok (.iconst 1, 1) := by decide +kernel
theorem dX3_isState_13 : decode cX3_isState 13 = .ok (.goto 4, 3) := by decide +kernel
theorem dX3_isState_16 : decode cX3_isState 16 = .ok (.iconst 0, 1) := by decide +kernel
theorem dX3_isState_17 : decode cX3_isState 17 = .ok (.ireturn, 1) := by decide +kernel
set_option maxRecDepth 20000 in
theorem ggX3_add_X8_put : GoodIn wsX3_add wsX8_put := goodIn_r _ [6] (by decide +kernel) (by decide +kernel)
set_option maxRecDepth 20000 in
theorem gX3_add_X8_put_n19 : GoodIn wsX3_add (wsX8_put) := ggX3_add_X8_put
theorem dX3_add_0 : decode cX3_add 0 = .ok (.aload_n 0, 1) := by decide +kernel
theorem dX3_add_1 : decode cX3_add 1 = .ok (.getfield 15, 3) := by decide +kernel
theorem dX3_add_4 : decode cX3_add 4 = .ok (.istore_n 2, 1) := by decide +kernel
theorem dX3_add_5 : decode cX3_add 5 = .ok (.aload_n 0, 1) := by decide +kernel
theorem dX3_add_6 : decode cX3_add 6 = .ok (.getfield 9, 3) := by decide +kernel
theorem dX3_add_9 : decode cX3_add 9 = .ok (.iconst 2, 1) := by decide +kernel
theorem dX3_add_10 : decode cX3_add 10 = .ok (.iload_n 2, 1) := by decide +kernel
theorem dX3_add_11 : decode cX3_add 11 = .ok (.imul, 1) := by decide +kernel
theorem dX3_add_12 : decode cX3_add 12 = .ok (.iload_n 2, 1) := by decide +kernel
theorem dX3_add_13 : decode cX3_add 13 = .ok (.invokestatic 19, 3) := by decide +kernel
theorem dX3_add_16 : decode cX3_add 16 = .ok (.aload_n 0, 1) := by decide +kernel
theorem dX3_add_17 : decode cX3_add 17 = .ok (.getfield 9, 3) := by decide +kernel
theorem dX3_add_20 : decode cX3_add 20 = .ok (.iconst 2, 1) := by decide +kernel
theorem dX3_add_21 : decode cX3_add 21 = .ok (.iload_n 2, 1) := by decide +kernel
theorem dX3_add_22 : decode cX3_add 22 = .ok (.imul, 1) := by decide +kernel
theorem dX3_add_23 : decode cX3_add 23 = .ok (.iconst 1, 1) := by decide +kernel
theorem dX3_add_24 : decode cX3_add 24 = .ok (.iadd, 1) := by decide +kernel
theorem dX3_add_25 : decode cX3_add 25 = .ok (.iload_n 2, 1) := by decide +kernel
theorem dX3_add_26 : decode cX3_add 26 = .ok (.invokestatic 19, 3) := by decide +kernel
theorem dX3_add_29 : decode cX3_add 29 = .ok (.iload_n 1, 1) := by decide +kernel
theorem dX3_add_30 : decode cX3_add 30 = .ok (.ifCond .eq 15, 3) := by decide +kernel
theorem dX3_add_33 : decode cX3_add 33 = .ok (.aload_n 0, 1) := by decide +kernel
theorem dX3_add_34 : decode cX3_add 34 = .ok (.dup, 1) := by decide +kernel
theorem dX3_add_35 : decode cX3_add 35 = .ok (.getfield 23, 3) := by decide +kernel
theorem dX3_add_38 : decode cX3_add 38 = .ok (.iconst 1, 1) := by decide +kernel
theorem dX3_add_39 : decode cX3_add 39 = .ok (.iload_n 2, 1) := by decide +kernel
theorem dX3_add_40 : decode cX3_add 40 = .ok (.ishl, 1) := by decide +kernel
theorem dX3_add_41 : decode cX3_add 41 = .ok (.ior, 1) := by decide +kernel
theorem dX3_add_42 : decode cX3_add 42 = .ok (.putfield 23, 3) := by decide +kernel
theorem dX3_add_45 : decode cX3_add 45 = .ok (.aload_n 0, 1) := by decide +kernel
theorem dX3_add_46 : decode cX3_add 46 = .ok (.dup, 1) := by decide +kernel
theorem dX3_add_47 : decode cX3_add 47 = .ok (.getfield 15, 3) := by decide +kernel
theorem dX3_add_50 : decode cX3_add 50 = .ok (.iconst 1, 1) := by decide +kernel
theorem dX3_add_51 : decode cX3_add 51 = .ok (.iadd, 1) := by decide +kernel
theorem dX3_add_52 : decode cX3_add 52 = .ok (.putfield 15, 3) := by decide +kernel
theorem dX3_add_55 : decode cX3_add 55 = .ok (.iload_n 2, 1) := by decide +kernel
theorem dX3_add_56 : decode cX3_add 56 = .ok (.ireturn, 1) := by decide +kernel
set_option maxRecDepth 20000 in
theorem ggX3_lead_X8_at : GoodIn wsX3_lead wsX8_at := goodIn_r _ [4] (by decide +kernel) (by decide +kernel)
set_option maxRecDepth 20000 in
theorem gX3_lead_X8_at_n26 : GoodIn wsX3_lead (wsX8_at) := ggX3_lead_X8_at
set_option maxRecDepth 20000 in
theorem ggX3_lead_X8_put : GoodIn wsX3_lead wsX8_put := goodIn_r _ [6] (by decide +kernel) (by decide +kernel)
set_option maxRecDepth 20000 in
theorem gX3_lead_X8_put_n19 : GoodIn wsX3_lead (wsX8_put) := ggX3_lead_X8_put
theorem dX3_lead_0 : decode cX3_lead 0 = .ok (.aload_n 0, 1) := by decide +kernel
theorem dX3_lead_1 : decode cX3_lead 1 = .ok (.getfield 9, 3) := by decide +kernel
theorem dX3_lead_4 : decode cX3_lead 4 = .ok (.iconst 2, 1) := by decide +kernel
theorem dX3_lead_5 : decode cX3_lead 5 = .ok (.iload_n 1, 1) := by decide +kernel
theorem dX3_lead_6 : decode cX3_lead 6 = .ok (.imul, 1) := by decide +kernel
theorem dX3_lead_7 : decode cX3_lead 7 = .ok (.iload_n 2, 1) := by decide +kernel
theorem dX3_lead_8 : decode cX3_lead 8 = .ok (.iadd, 1) := by decide +kernel
theorem dX3_lead_9 : decode cX3_lead 9 = .ok (.invokestatic 26, 3) := by decide +kernel
theorem dX3_lead_12 : decode cX3_lead 12 = .ok (.istore 4, 2) := by decide +kernel
theorem dX3_lead_14 : decode cX3_lead 14 = .ok (.aload_n 0, 1) := by decide +kernel
theorem dX3_lead_15 : decode cX3_lead 15 = .ok (.getfield 9, 3) := by decide +kernel
theorem dX3_lead_18 : decode cX3_lead 18 = .ok (.iconst 2, 1) := by decide +kernel
theorem dX3_lead_19 : decode cX3_lead 19 = .ok (.iload_n 1, 1) := by decide +kernel
theorem dX3_lead_20 : decode cX3_lead 20 = .ok (.imul, 1) := by decide +kernel
theorem dX3_lead_21 : decode cX3_lead 21 = .ok (.iload_n 2, 1) := by decide +kernel
theorem dX3_lead_22 : decode cX3_lead 22 = .ok (.iadd, 1) := by decide +kernel
theorem dX3_lead_23 : decode cX3_lead 23 = .ok (.iload_n 3, 1) := by decide +kernel
theorem dX3_lead_24 : decode cX3_lead 24 = .ok (.invokestatic 19, 3) := by decide +kernel
theorem dX3_lead_27 : decode cX3_lead 27 = .ok (.iload 4, 2) := by decide +kernel
theorem dX3_lead_29 : decode cX3_lead 29 = .ok (.ireturn, 1) := by decide +kernel
set_option maxRecDepth 20000 in
theorem ggX3_end_X8_at : GoodIn wsX3_end wsX8_at := goodIn_r _ [3] (by decide +kernel) (by decide +kernel)
set_option maxRecDepth 20000 in
theorem gX3_end_X8_at_n26 : GoodIn wsX3_end (wsX8_at) := ggX3_end_X8_at
theorem dX3_end_0 : decode cX3_end 0 = .ok (.iload_n 1, 1) := by decide +kernel
theorem dX3_end_1 : decode cX3_end 1 = .ok (.istore 4, 2) := by decide +kernel
theorem dX3_end_3 : decode cX3_end 3 = .ok (.iconst 0, 1) := by decide +kernel
theorem dX3_end_4 : decode cX3_end 4 = .ok (.istore 5, 2) := by decide +kernel
theorem dX3_end_6 : decode cX3_end 6 = .ok (.iload 5, 2) := by decide +kernel
theorem dX3_end_8 : decode cX3_end 8 = .ok (.iload_n 2, 1) := by decide +kernel
theorem dX3_end_9 : decode cX3_end 9 = .ok (.if_icmp .ge 26, 3) := by decide +kernel
theorem dX3_end_12 : decode cX3_end 12 = .ok (.aload_n 0, 1) := by decide +kernel
theorem dX3_end_13 : decode cX3_end 13 = .ok (.iconst 2, 1) := by decide +kernel
theorem dX3_end_14 : decode cX3_end 14 = .ok (.iload 4, 2) := by decide +kernel
theorem dX3_end_16 : decode cX3_end 16 = .ok (.imul, 1) := by decide +kernel
theorem dX3_end_17 : decode cX3_end 17 = .ok (.iload_n 3, 1) := by decide +kernel
theorem dX3_end_18 : decode cX3_end 18 = .ok (.iload 5, 2) := by decide +kernel
theorem dX3_end_20 : decode cX3_end 20 = .ok (.ishr, 1) := by decide +kernel
theorem dX3_end_21 : decode cX3_end 21 = .ok (.iconst 1, 1) := by decide +kernel
theorem dX3_end_22 : decode cX3_end 22 = .ok (.iand, 1) := by decide +kernel
theorem dX3_end_23 : decode cX3_end 23 = .ok (.iadd, 1) := by decide +kernel
theorem dX3_end_24 : decode cX3_end 24 = .ok (.invokestatic 26, 3) := by decide +kernel
theorem dX3_end_27 : decode cX3_end 27 = .ok (.istore 4, 2) := by decide +kernel
theorem dX3_end_29 : decode cX3_end 29 = .ok (.iinc 5 1, 3) := by decide +kernel
theorem dX3_end_32 : decode cX3_end 32 = .ok (.goto (-26), 3) := by decide +kernel
theorem dX3_end_35 : decode cX3_end 35 = .ok (.iload 4, 2) := by decide +kernel
theorem dX3_end_37 : decode cX3_end 37 = .ok (.ireturn, 1) := by decide +kernel
set_option maxRecDepth 20000 in
theorem ggX3_endsWell_X3_end : GoodIn wsX3_endsWell wsX3_end := goodIn_r _ [6, 7, 8, 9] (by decide +kernel) (by decide +kernel)
set_option maxRecDepth 20000 in
theorem gX3_endsWell_X3_end : GoodIn wsX3_endsWell (va_wsS RX3 30 yX3_end wsX3_end) := goodIn_app (goodIn_of _ (by decide +kernel)) ggX3_endsWell_X3_end
set_option maxRecDepth 20000 in
theorem ggX3_endsWell_X8_hasBit : GoodIn wsX3_endsWell wsX8_hasBit := goodIn_r _ [11] (by decide +kernel) (by decide +kernel)
set_option maxRecDepth 20000 in
theorem gX3_endsWell_X8_hasBit_n34 : GoodIn wsX3_endsWell (wsX8_hasBit) := ggX3_endsWell_X8_hasBit
theorem dX3_endsWell_0 : decode cX3_endsWell 0 = .ok (.aload_n 0, 1) := by decide +kernel
theorem dX3_endsWell_1 : decode cX3_endsWell 1 = .ok (.getfield 23, 3) := by decide +kernel
theorem dX3_endsWell_4 : decode cX3_endsWell 4 = .ok (.aload_n 0, 1) := by decide +kernel
theorem dX3_endsWell_5 : decode cX3_endsWell 5 = .ok (.getfield 9, 3) := by decide +kernel
theorem dX3_endsWell_8 : decode cX3_endsWell 8 = .ok (.iload_n 1, 1) := by decide +kernel
theorem dX3_endsWell_9 : decode cX3_endsWell 9 = .ok (.iload_n 2, 1) := by decide +kernel
theorem dX3_endsWell_10 : decode cX3_endsWell 10 = .ok (.iload_n 3, 1) := by decide +kernel
theorem dX3_endsWell_11 : decode cX3_endsWell 11 = .ok (.invokestatic 30, 3) := by decide +kernel
theorem dX3_endsWell_14 : decode cX3_endsWell 14 = .ok (.invokestatic 34, 3) := by decide +kernel
theorem dX3_endsWell_17 : decode cX3_endsWell 17 = .ok (.ireturn, 1) := by decide +kernel
set_option maxRecDepth 20000 in
theorem ggX3_lengthApart_X3_endsWell : GoodIn wsX3_lengthApart wsX3_endsWell := goodIn_r _ [6, 7, 8, 9, 10, 5, 11, 12, 13, 14, 15, 16, 17, 18, 19] (by decide +kernel) (by decide +kernel)
set_option maxRecDepth 20000 in
theorem gX3_lengthApart_X3_endsWell : GoodIn wsX3_lengthApart (wsV RX3 38 RX3 yX3_endsWell wsX3_endsWell) := goodIn_app (goodIn_of _ (by decide +kernel)) ggX3_lengthApart_X3_endsWell
theorem dX3_lengthApart_0 : decode cX3_lengthApart 0 = .ok (.iconst 0, 1) := by decide +kernel
theorem dX3_lengthApart_1 : decode cX3_lengthApart 1 = .ok (.istore_n 3, 1) := by decide +kernel
theorem dX3_lengthApart_2 : decode cX3_lengthApart 2 = .ok (.iload_n 3, 1) := by decide +kernel
theorem dX3_lengthApart_3 : decode cX3_lengthApart 3 = .ok (.aload_n 0, 1) := by decide +kernel
theorem dX3_lengthApart_4 : decode cX3_lengthApart 4 = .ok (.getfield 15, 3) := by decide +kernel
theorem dX3_lengthApart_7 : decode cX3_lengthApart 7 = .ok (.if_icmp .ge 47, 3) := by decide +kernel
theorem dX3_lengthApart_10 : decode cX3_lengthApart 10 = .ok (.iconst 0, 1) := by decide +kernel
theorem dX3_lengthApart_11 : decode cX3_lengthApart 11 = .ok (.istore 4, 2) := by decide +kernel
theorem dX3_lengthApart_13 : decode cX3_lengthApart 13 = .ok (.iload 4, 2) := by decide +kernel
theorem dX3_lengthApart_15 : decode cX3_lengthApart 15 = .ok (.iconst 1, 1) := by decide +kernel
theorem dX3_lengthApart_16 : decode cX3_lengthApart 16 = .ok (.iload_n 3, 1) := by decide +kernel
theorem dX3_lengthApart_17 : decode cX3_lengthApart 17 = .ok (.ishl, 1) := by decide +kernel
theorem dX3_lengthApart_18 : decode cX3_lengthApart 18 = .ok (.if_icmp .ge 30, 3) := by decide +kernel
theorem dX3_lengthApart_21 : decode cX3_lengthApart 21 = .ok (.aload_n 0, 1) := by decide +kernel
theorem dX3_lengthApart_22 : decode cX3_lengthApart 22 = .ok (.iload_n 1, 1) := by decide +kernel
theorem dX3_lengthApart_23 : decode cX3_lengthApart 23 = .ok (.iload_n 3, 1) := by decide +kernel
theorem dX3_lengthApart_24 : decode cX3_lengthApart 24 = .ok (.iload 4, 2) := by decide +kernel
theorem dX3_lengthApart_26 : decode cX3_lengthApart 26 = .ok (.invokevirtual 38, 3) := by decide +kernel
theorem dX3_lengthApart_29 : decode cX3_lengthApart 29 = .ok (.aload_n 0, 1) := by decide +kernel
theorem dX3_lengthApart_30 : decode cX3_lengthApart 30 = .ok (.iload_n 2, 1) := by decide +kernel
theorem dX3_lengthApart_31 : decode cX3_lengthApart 31 = .ok (.iload_n 3, 1) := by decide +kernel
theorem dX3_lengthApart_32 : decode cX3_lengthApart 32 = .ok (.iload 4, 2) := by decide +kernel
theorem dX3_lengthApart_34 : decode cX3_lengthApart 34 = .ok (.invokevirtual 38, 3) := by decide +kernel
theorem dX3_lengthApart_37 : decode cX3_lengthApart 37 = .ok (.if_icmp .eq 5, 3) := by decide +kernel
theorem dX3_lengthApart_40 : decode cX3_lengthApart 40 = .ok (.iload_n 3, 1) := by decide +kernel
theorem dX3_lengthApart_41 : decode cX3_lengthApart 41 = .ok (.ireturn, 1) := by decide +kernel
theorem dX3_lengthApart_42 : decode cX3_lengthApart 42 = .ok (.iinc 4 1, 3) := by decide +kernel
theorem dX3_lengthApart_45 : decode cX3_lengthApart 45 = .ok (.goto (-32), 3) := by decide +kernel
theorem dX3_lengthApart_48 : decode cX3_lengthApart 48 = .ok (.iinc 3 1, 3) := by decide +kernel
theorem dX3_lengthApart_51 : decode cX3_lengthApart 51 = .ok (.goto (-49), 3) := by decide +kernel
theorem dX3_lengthApart_54 : decode cX3_lengthApart 54 = .ok (.iconst (-1), 1) := by decide +kernel
theorem dX3_lengthApart_55 : decode cX3_lengthApart 55 = .ok (.ireturn, 1) := by decide +kernel
set_option maxRecDepth 20000 in
theorem ggX3_reachedKinds_X3_reached : GoodIn wsX3_reachedKinds wsX3_reached := goodIn_r _ [6, 1, 7, 8, 9, 10, 11, 12, 29, 30, 31] (by decide +kernel) (by decide +kernel)
set_option maxRecDepth 20000 in
theorem gX3_reachedKinds_X3_reached : GoodIn wsX3_reachedKinds (wsV RX3 42 RX3 yX3_reached wsX3_reached) := goodIn_app (goodIn_of _ (by decide +kernel)) ggX3_reachedKinds_X3_reached
set_option maxRecDepth 20000 in
theorem ggX3_reachedKinds_X8_hasBit : GoodIn wsX3_reachedKinds wsX8_hasBit := goodIn_r _ [10] (by decide +kernel) (by decide +kernel)
set_option maxRecDepth 20000 in
theorem gX3_reachedKinds_X8_hasBit_n34 : GoodIn wsX3_reachedKinds (wsX8_hasBit) := ggX3_reachedKinds_X8_hasBit
set_option maxRecDepth 20000 in
theorem ggX3_reachedKinds_X3_isFirstOfKind : GoodIn wsX3_reachedKinds wsX3_isFirstOfKind := goodIn_r _ [16, 8, 9, 10, 17, 18, 19, 5, 20, 1, 21, 22, 23, 24, 25, 7, 26, 27, 28, 11, 12, 29, 30, 31] (by decide +kernel) (by decide +kernel)
set_option maxRecDepth 20000 in
theorem gX3_reachedKinds_X3_isFirstOfKind : GoodIn wsX3_reachedKinds (wsV RX3 46 RX3 yX3_isFirstOfKind wsX3_isFirstOfKind) := goodIn_app (goodIn_of _ (by decide +kernel)) ggX3_reachedKinds_X3_isFirstOfKind
theorem dX3_reachedKinds_0 : decode cX3_reachedKinds 0 = .ok (.aload_n 0, 1) := by decide +kernel
theorem dX3_reachedKinds_1 : decode cX3_reachedKinds 1 = .ok (.invokevirtual 42, 3) := by decide +kernel
theorem dX3_reachedKinds_4 : decode cX3_reachedKinds 4 = .ok (.istore_n 1, 1) := by decide +kernel
theorem dX3_reachedKinds_5 : decode cX3_reachedKinds 5 = .ok (.iconst 0, 1) := by decide +kernel
theorem dX3_reachedKinds_6 : decode cX3_reachedKinds 6 = .ok (.istore_n 2, 1) := by decide +kernel
theorem dX3_reachedKinds_7 : decode cX3_reachedKinds 7 = .ok (.iconst 0, 1) := by decide +kernel
theorem dX3_reachedKinds_8 : decode cX3_reachedKinds 8 = .ok (.istore_n 3, 1) := by decide +kernel
theorem dX3_reachedKinds_9 : decode cX3_reachedKinds 9 = .ok (.iload_n 3, 1) := by decide +kernel
theorem dX3_reachedKinds_10 : decode cX3_reachedKinds 10 = .ok (.aload_n 0, 1) := by decide +kernel
theorem dX3_reachedKinds_11 : decode cX3_reachedKinds 11 = .ok (.getfield 15, 3) := by decide +kernel
theorem dX3_reachedKinds_14 : decode cX3_reachedKinds 14 = .ok (.if_icmp .ge 29, 3) := by decide +kernel
theorem dX3_reachedKinds_17 : decode cX3_reachedKinds 17 = .ok (.iload_n 1, 1) := by decide +kernel
theorem dX3_reachedKinds_18 : decode cX3_reachedKinds 18 = .ok (.iload_n 3, 1) := by decide +kernel
theorem dX3_reachedKinds_19 : decode cX3_reachedKinds 19 = .ok (.invokestatic 34, 3) := by decide +kernel
theorem dX3_reachedKinds_22 : decode cX3_reachedKinds 22 = .ok (.ifCond .eq 15, 3) := by decide +kernel
theorem dX3_reachedKinds_25 : decode cX3_reachedKinds 25 = .ok (.aload_n 0, 1) := by decide +kernel
theorem dX3_reachedKinds_26 : decode cX3_reachedKinds 26 = .ok (.iload_n 3, 1) := by decide +kernel
theorem dX3_reachedKinds_27 : decode cX3_reachedKinds 27 = .ok (.iload_n 1, 1) := by decide +kernel
theorem dX3_reachedKinds_28 : decode cX3_reachedKinds 28 = .ok (.invokevirtual 46, 3) := by decide +kernel
theorem dX3_reachedKinds_31 : decode cX3_reachedKinds 31 = .ok (.ifCond .eq 6, 3) := by decide +kernel
theorem dX3_reachedKinds_34 : decode cX3_reachedKinds 34 = .ok (.iinc 2 1, 3) := by decide +kernel
theorem dX3_reachedKinds_37 : decode cX3_reachedKinds 37 = .ok (.iinc 3 1, 3) := by decide +kernel
theorem dX3_reachedKinds_40 : decode cX3_reachedKinds 40 = .ok (.goto (-31), 3) := by decide +kernel
theorem dX3_reachedKinds_43 : decode cX3_reachedKinds 43 = .ok (.iload_n 2, 1) := by decide +kernel
theorem dX3_reachedKinds_44 : decode cX3_reachedKinds 44 = .ok (.ireturn, 1) := by decide +kernel
set_option maxRecDepth 20000 in
theorem ggX3_reached_X8_hasBit : GoodIn wsX3_reached wsX8_hasBit := goodIn_r _ [5] (by decide +kernel) (by decide +kernel)
set_option maxRecDepth 20000 in
theorem gX3_reached_X8_hasBit_n34 : GoodIn wsX3_reached (wsX8_hasBit) := ggX3_reached_X8_hasBit
set_option maxRecDepth 20000 in
theorem ggX3_reached_X8_at : GoodIn wsX3_reached wsX8_at := goodIn_r _ [7] (by decide +kernel) (by decide +kernel)
set_option maxRecDepth 20000 in
theorem gX3_reached_X8_at_n26 : GoodIn wsX3_reached (wsX8_at) := ggX3_reached_X8_at
theorem dX3_reached_0 : decode cX3_reached 0 = .ok (.iconst 1, 1) := by decide +kernel
theorem dX3_reached_1 : decode cX3_reached 1 = .ok (.istore_n 1, 1) := by decide +kernel
theorem dX3_reached_2 : decode cX3_reached 2 = .ok (.iconst 1, 1) := by decide +kernel
theorem dX3_reached_3 : decode cX3_reached 3 = .ok (.istore_n 2, 1) := by decide +kernel
theorem dX3_reached_4 : decode cX3_reached 4 = .ok (.iload_n 2, 1) := by decide +kernel
theorem dX3_reached_5 : decode cX3_reached 5 = .ok (.aload_n 0, 1) := by decide +kernel
theorem dX3_reached_6 : decode cX3_reached 6 = .ok (.getfield 15, 3) := by decide +kernel
theorem dX3_reached_9 : decode cX3_reached 9 = .ok (.if_icmp .ge 63, 3) := by decide +kernel
theorem dX3_reached_12 : decode cX3_reached 12 = .ok (.iconst 0, 1) := by decide +kernel
theorem dX3_reached_13 : decode cX3_reached 13 = .ok (.istore_n 3, 1) := by decide +kernel
theorem dX3_reached_14 : decode cX3_reached 14 = .ok (.iload_n 3, 1) := by decide +kernel
theorem dX3_reached_15 : decode cX3_reached 15 = .ok (.aload_n 0, 1) := by decide +kernel
theorem dX3_reached_16 : decode cX3_reached 16 = .ok (.getfield 15, 3) := by decide +kernel
theorem dX3_reached_19 : decode cX3_reached 19 = .ok (.if_icmp .ge 47, 3) := by decide +kernel
theorem dX3_reached_22 : decode cX3_reached 22 = .ok (.iload_n 1, 1) := by decide +kernel
theorem dX3_reached_23 : decode cX3_reached 23 = .ok (.iload_n 3, 1) := by decide +kernel
theorem dX3_reached_24 : decode cX3_reached 24 = .ok (.invokestatic 34, 3) := by decide +kernel
theorem dX3_reached_27 : decode cX3_reached 27 = .ok (.ifCond .eq 33, 3) := by decide +kernel
theorem dX3_reached_30 : decode cX3_reached 30 = .ok (.iload_n 1, 1) := by decide +kernel
theorem dX3_reached_31 : decode cX3_reached 31 = .ok (.iconst 1, 1) := by decide +kernel
theorem dX3_reached_32 : decode cX3_reached 32 = .ok (.aload_n 0, 1) := by decide +kernel
theorem dX3_reached_33 : decode cX3_reached 33 = .ok (.getfield 9, 3) := by decide +kernel
theorem dX3_reached_36 : decode cX3_reached 36 = .ok (.iconst 2, 1) := by decide +kernel
theorem dX3_reached_37 : decode cX3_reached 37 = .ok (.iload_n 3, 1) := by decide +kernel
theorem dX3_reached_38 : decode cX3_reached 38 = .ok (.imul, 1) := by decide +kernel
theorem dX3_reached_39 : decode cX3_reached 39 = .ok (.invokestatic 26, 3) := by decide +kernel
theorem dX3_reached_42 : decode cX3_reached 42 = .ok (.ishl, 1) := by decide +kernel
theorem dX3_reached_43 : decode cX3_reached 43 = .ok (.iconst 1, 1) := by decide +kernel
theorem dX3_reached_44 : decode cX3_reached 44 = .ok (.aload_n 0, 1) := by decide +kernel
theorem dX3_reached_45 : decode cX3_reached 45 = .ok (.getfield 9, 3) := by decide +kernel
theorem dX3_reached_48 : decode cX3_reached 48 = .ok (.iconst 2, 1) := by decide +kernel
theorem dX3_reached_49 : decode cX3_reached 49 = .ok (.iload_n 3, 1) := by decide +kernel
theorem dX3_reached_50 : decode cX3_reached 50 = .ok (.imul, 1) := by decide +kernel
theorem dX3_reached_51 : decode cX3_reached 51 = .ok (.iconst 1, 1) := by decide +kernel
theorem dX3_reached_52 : decode cX3_reached 52 = .ok (.iadd, 1) := by decide +kernel
theorem dX3_reached_53 : decode cX3_reached 53 = .ok (.invokestatic 26, 3) := by decide +kernel
theorem dX3_reached_56 : decode cX3_reached 56 = .ok (.ishl, 1) := by decide +kernel
theorem dX3_reached_57 : decode cX3_reached 57 = .ok (.ior, 1) := by decide +kernel
theorem dX3_reached_58 : decode cX3_reached 58 = .ok (.ior, 1) := by decide +kernel
theorem dX3_reached_59 : decode cX3_reached 59 = .ok (.istore_n 1, 1) := by decide +kernel
theorem dX3_reached_60 : decode cX3_reached 60 = .ok (.iinc 3 1, 3) := by decide +kernel
theorem dX3_reached_63 : decode cX3_reached 63 = .ok (.goto (-49), 3) := by decide +kernel
theorem dX3_reached_66 : decode cX3_reached 66 = .ok (.iinc 2 1, 3) := by decide +kernel
theorem dX3_reached_69 : decode cX3_reached 69 = .ok (.goto (-65), 3) := by decide +kernel
theorem dX3_reached_72 : decode cX3_reached 72 = .ok (.iload_n 1, 1) := by decide +kernel
theorem dX3_reached_73 : decode cX3_reached 73 = .ok (.ireturn, 1) := by decide +kernel
set_option maxRecDepth 20000 in
theorem ggX3_isFirstOfKind_X8_hasBit : GoodIn wsX3_isFirstOfKind wsX8_hasBit := goodIn_r _ [3] (by decide +kernel) (by decide +kernel)
set_option maxRecDepth 20000 in
theorem gX3_isFirstOfKind_X8_hasBit_n34 : GoodIn wsX3_isFirstOfKind (wsX8_hasBit) := ggX3_isFirstOfKind_X8_hasBit
set_option maxRecDepth 20000 in
theorem ggX3_isFirstOfKind_X3_lengthApart : GoodIn wsX3_isFirstOfKind wsX3_lengthApart := goodIn_r _ [8, 9, 10, 11, 12, 7, 13, 14, 15, 16, 17, 18, 19, 2, 20, 1, 3, 21, 22, 23] (by decide +kernel) (by decide +kernel)
set_option maxRecDepth 20000 in
theorem gX3_isFirstOfKind_X3_lengthApart : GoodIn wsX3_isFirstOfKind (wsV RX3 49 RX3 yX3_lengthApart wsX3_lengthApart) := goodIn_app (goodIn_of _ (by decide +kernel)) ggX3_isFirstOfKind_X3_lengthApart
theorem dX3_isFirstOfKind_0 : decode cX3_isFirstOfKind 0 = .ok (.iconst 0, 1) := by decide +kernel
theorem dX3_isFirstOfKind_1 : decode cX3_isFirstOfKind 1 = .ok (.istore_n 3, 1) := by decide +kernel
theorem dX3_isFirstOfKind_2 : decode cX3_isFirstOfKind 2 = .ok (.iload_n 3, 1) := by decide +kernel
theorem dX3_isFirstOfKind_3 : decode cX3_isFirstOfKind 3 = .ok (.iload_n 1, 1) := by decide +kernel
theorem dX3_isFirstOfKind_4 : decode cX3_isFirstOfKind 4 = .ok (.if_icmp .ge 28, 3) := by decide +kernel
theorem dX3_isFirstOfKind_7 : decode cX3_isFirstOfKind 7 = .ok (.iload_n 2, 1) := by decide +kernel
theorem dX3_isFirstOfKind_8 : decode cX3_isFirstOfKind 8 = .ok (.iload_n 3, 1) := by decide +kernel
theorem dX3_isFirstOfKind_9 : decode cX3_isFirstOfKind 9 = .ok (.invokestatic 34, 3) := by decide +kernel
theorem dX3_isFirstOfKind_12 : decode cX3_isFirstOfKind 12 = .ok (.ifCond .eq 14, 3) := by decide +kernel
theorem dX3_isFirstOfKind_15 : decode cX3_isFirstOfKind 15 = .ok (.aload_n 0, 1) := by decide +kernel
theorem dX3_isFirstOfKind_16 : decode cX3_isFirstOfKind 16 = .ok (.iload_n 3, 1) := by decide +kernel
theorem dX3_isFirstOfKind_17 : decode cX3_isFirstOfKind 17 = .ok (.iload_n 1, 1) := by decide +kernel
theorem dX3_isFirstOfKind_18 : decode cX3_isFirstOfKind 18 = .ok (.invokevirtual 49, 3) := by decide +kernel
theorem dX3_isFirstOfKind_21 : decode cX3_isFirstOfKind 21 = .ok (.ifCond .ge 5, 3) := by decide +kernel
theorem dX3_isFirstOfKind_24 : decode cX3_isFirstOfKind 24 = .ok (.iconst 0, 1) := by decide +kernel
theorem dX3_isFirstOfKind_25 : decode cX3_isFirstOfKind 25 = .ok (.ireturn, 1) := by decide +kernel
theorem dX3_isFirstOfKind_26 : decode cX3_isFirstOfKind 26 = .ok (.iinc 3 1, 3) := by decide +kernel
theorem dX3_isFirstOfKind_29 : decode cX3_isFirstOfKind 29 = .ok (.goto (-27), 3) := by decide +kernel
theorem dX3_isFirstOfKind_32 : decode cX3_isFirstOfKind 32 = .ok (.iconst 1, 1) := by decide +kernel
theorem dX3_isFirstOfKind_33 : decode cX3_isFirstOfKind 33 = .ok (.ireturn, 1) := by decide +kernel
theorem dX4_init_0 : decode cX4_init 0 = .ok (.aload_n 0, 1) := by decide +kernel
theorem dX4_init_1 : decode cX4_init 1 = .ok (.invokespecial 3, 3) := by decide +kernel
theorem dX4_init_4 : decode cX4_init 4 = .ok (.aload_n 0, 1) := by decide +kernel
theorem dX4_init_5 : decode cX4_init 5 = .ok (.iconst 5, 1) := by decide +kernel
theorem dX4_init_6 : decode cX4_init 6 = .ok (.newarray .int, 2) := by decide +kernel
theorem dX4_init_8 : decode cX4_init 8 = .ok (.putfield 9, 3) := by decide +kernel
theorem dX4_init_11 : decode cX4_init 11 = .ok (.aload_n 0, 1) := by decide +kernel
theorem dX4_init_12 : decode cX4_init 12 = .ok (.bipush 32, 2) := by decide +kernel
theorem dX4_init_14 : decode cX4_init 14 = .ok (.newarray .int, 2) := by decide +kernel
theorem dX4_init_16 : decode cX4_init 16 = .ok (.putfield 15, 3) := by decide +kernel
theorem dX4_init_19 : decode cX4_init 19 = .ok (.aload_n 0, 1) := by decide +kernel
theorem dX4_init_20 : decode cX4_init 20 = .ok (.iconst 3, 1) := by decide +kernel
theorem dX4_init_21 : decode cX4_init 21 = .ok (.putfield 18, 3) := by decide +kernel
theorem dX4_init_24 : decode cX4_init 24 = .ok (.return_, 1) := by decide +kernel
set_option maxRecDepth 20000 in
theorem ggX4_startAnew_X8_put : GoodIn wsX4_startAnew wsX8_put := goodIn_r _ [5] (by decide +kernel) (by decide +kernel)
set_option maxRecDepth 20000 in
theorem gX4_startAnew_X8_put_n22 : GoodIn wsX4_startAnew (wsX8_put) := ggX4_startAnew_X8_put
theorem dX4_startAnew_0 : decode cX4_startAnew 0 = .ok (.aload_n 0, 1) := by decide +kernel
theorem dX4_startAnew_1 : decode cX4_startAnew 1 = .ok (.iload_n 1, 1) := by decide +kernel
theorem dX4_startAnew_2 : decode cX4_startAnew 2 = .ok (.putfield 18, 3) := by decide +kernel
theorem dX4_startAnew_5 : decode cX4_startAnew 5 = .ok (.iconst 0, 1) := by decide +kernel
theorem dX4_startAnew_6 : decode cX4_startAnew 6 = .ok (.istore_n 2, 1) := by decide +kernel
theorem dX4_startAnew_7 : decode cX4_startAnew 7 = .ok (.iload_n 2, 1) := by decide +kernel
theorem dX4_startAnew_8 : decode cX4_startAnew 8 = .ok (.iconst 5, 1) := by decide +kernel
theorem dX4_startAnew_9 : decode cX4_startAnew 9 = .ok (.if_icmp .ge 18, 3) := by decide +kernel
theorem dX4_startAnew_12 : decode cX4_startAnew 12 = .ok (.aload_n 0, 1) := by decide +kernel
theorem dX4_startAnew_13 : decode cX4_startAnew 13 = .ok (.getfield 9, 3) := by decide +kernel
theorem dX4_startAnew_16 : decode cX4_startAnew 16 = .ok (.iload_n 2, 1) := by decide +kernel
theorem dX4_startAnew_17 : decode cX4_startAnew 17 = .ok (.iconst 0, 1) := by decide +kernel
theorem dX4_startAnew_18 : decode cX4_startAnew 18 = .ok (.invokestatic 22, 3) := by decide +kernel
theorem dX4_startAnew_21 : decode cX4_startAnew 21 = .ok (.iinc 2 1, 3) := by decide +kernel
theorem dX4_startAnew_24 : decode cX4_startAnew 24 = .ok (.goto (-17), 3) := by decide +kernel
theorem dX4_startAnew_27 : decode cX4_startAnew 27 = .ok (.return_, 1) := by decide +kernel
theorem dX4_isThing_0 : decode cX4_isThing 0 = .ok (.iload_n 1, 1) := by decide +kernel
theorem dX4_isThing_1 : decode cX4_isThing 1 = .ok (.ifCond .lt 15, 3) := by decide +kernel
theorem dX4_isThing_4 : decode cX4_isThing 4 = .ok (.iload_n 1, 1) := by decide +kernel
theorem dX4_isThing_5 : decode cX4_isThing 5 = .ok (.aload_n 0, 1) := by decide +kernel
theorem dX4_isThing_6 : decode cX4_isThing 6 = .ok (.getfield 18, 3) := by decide +kernel
theorem dX4_isThing_9 : decode cX4_isThing 9 = .ok (.if_icmp .ge 7, 3) := by decide +kernel
theorem dX4_isThing_12 : decode cX4_isThing 12 = .ok (.iconst 1, 1) := by decide +kernel
theorem dX4_isThing_13 : decode cX4_isThing 13 = .ok (.goto 4, 3) := by decide +kernel
theorem dX4_isThing_16 : decode cX4_isThing 16 = .ok (.iconst 0, 1) := by decide +kernel
theorem dX4_isThing_17 : decode cX4_isThing 17 = .ok (.ireturn, 1) := by decide +kernel
set_option maxRecDepth 20000 in
theorem ggX4_line_X8_at : GoodIn wsX4_line wsX8_at := goodIn_r _ [4] (by decide +kernel) (by decide +kernel)
set_option maxRecDepth 20000 in
theorem gX4_line_X8_at_n26 : GoodIn wsX4_line (wsX8_at) := ggX4_line_X8_at
set_option maxRecDepth 20000 in
theorem ggX4_line_X8_put : GoodIn wsX4_line wsX8_put := goodIn_r _ [6] (by decide +kernel) (by decide +kernel)
set_option maxRecDepth 20000 in
theorem gX4_line_X8_put_n22 : GoodIn wsX4_line (wsX8_put) := ggX4_line_X8_put
theorem dX4_line_0 : decode cX4_line 0 = .ok (.aload_n 0, 1) := by decide +kernel
theorem dX4_line_1 : decode cX4_line 1 = .ok (.getfield 9, 3) := by decide +kernel
theorem dX4_line_4 : decode cX4_line 4 = .ok (.iload_n 2, 1) := by decide +kernel
theorem dX4_line_5 : decode cX4_line 5 = .ok (.aload_n 0, 1) := by decide +kernel
theorem dX4_line_6 : decode cX4_line 6 = .ok (.getfield 9, 3) := by decide +kernel
theorem dX4_line_9 : decode cX4_line 9 = .ok (.iload_n 2, 1) := by decide +kernel
theorem dX4_line_10 : decode cX4_line 10 = .ok (.invokestatic 26, 3) := by decide +kernel
theorem dX4_line_13 : decode cX4_line 13 = .ok (.iconst 1, 1) := by decide +kernel
theorem dX4_line_14 : decode cX4_line 14 = .ok (.iload_n 1, 1) := by decide +kernel
theorem dX4_line_15 : decode cX4_line 15 = .ok (.ishl, 1) := by decide +kernel
theorem dX4_line_16 : decode cX4_line 16 = .ok (.ior, 1) := by decide +kernel
theorem dX4_line_17 : decode cX4_line 17 = .ok (.invokestatic 22, 3) := by decide +kernel
theorem dX4_line_20 : decode cX4_line 20 = .ok (.return_, 1) := by decide +kernel
set_option maxRecDepth 20000 in
theorem ggX4_ways_X8_at : GoodIn wsX4_ways wsX8_at := goodIn_r _ [4] (by decide +kernel) (by decide +kernel)
set_option maxRecDepth 20000 in
theorem gX4_ways_X8_at_n26 : GoodIn wsX4_ways (wsX8_at) := ggX4_ways_X8_at
set_option maxRecDepth 20000 in
theorem ggX4_ways_X4_line : GoodIn wsX4_ways wsX4_line := goodIn_r _ [9, 1, 2, 3, 4, 10, 11, 22, 23, 24] (by decide +kernel) (by decide +kernel)
set_option maxRecDepth 20000 in
theorem gX4_ways_X4_line : GoodIn wsX4_ways (wsV RX4 30 RX4 yX4_line wsX4_line) := goodIn_app (goodIn_of _ (by decide +kernel)) ggX4_ways_X4_line
set_option maxRecDepth 20000 in
theorem ggX4_ways_X4_allWays : GoodIn wsX4_ways wsX4_allWays := goodIn_r _ [15, 16, 17, 10, 3, 11, 18, 19, 20, 8, 21, 1, 2, 4, 22, 23, 24] (by decide +kernel) (by decide +kernel)
set_option maxRecDepth 20000 in
theorem gX4_ways_X4_allWays : GoodIn wsX4_ways (wsV RX4 34 RX4 yX4_allWays wsX4_allWays) := goodIn_app (goodIn_of _ (by decide +kernel)) ggX4_ways_X4_allWays
set_option maxRecDepth 20000 in
theorem ggX4_ways_X8_put : GoodIn wsX4_ways wsX8_put := goodIn_r _ [11] (by decide +kernel) (by decide +kernel)
set_option maxRecDepth 20000 in
theorem gX4_ways_X8_put_n22 : GoodIn wsX4_ways (wsX8_put) := ggX4_ways_X8_put
theorem dX4_ways_0 : decode cX4_ways 0 = .ok (.aload_n 0, 1) := by decide +kernel
theorem dX4_ways_1 : decode cX4_ways 1 = .ok (.getfield 9, 3) := by decide +kernel
theorem dX4_ways_4 : decode cX4_ways 4 = .ok (.iload_n 2, 1) := by decide +kernel
theorem dX4_ways_5 : decode cX4_ways 5 = .ok (.invokestatic 26, 3) := by decide +kernel
theorem dX4_ways_8 : decode cX4_ways 8 = .ok (.istore_n 3, 1) := by decide +kernel
theorem dX4_ways_9 : decode cX4_ways 9 = .ok (.aload_n 0, 1) := by decide +kernel
theorem dX4_ways_10 : decode cX4_ways 10 = .ok (.iload_n 1, 1) := by decide +kernel
theorem dX4_ways_11 : decode cX4_ways 11 = .ok (.iload_n 2, 1) := by decide +kernel
theorem dX4_ways_12 : decode cX4_ways 12 = .ok (.invokevirtual 30, 3) := by decide +kernel
theorem dX4_ways_15 : decode cX4_ways 15 = .ok (.aload_n 0, 1) := by decide +kernel
theorem dX4_ways_16 : decode cX4_ways 16 = .ok (.invokevirtual 34, 3) := by decide +kernel
theorem dX4_ways_19 : decode cX4_ways 19 = .ok (.istore 4, 2) := by decide +kernel
theorem dX4_ways_21 : decode cX4_ways 21 = .ok (.aload_n 0, 1) := by decide +kernel
theorem dX4_ways_22 : decode cX4_ways 22 = .ok (.getfield 9, 3) := by decide +kernel
theorem dX4_ways_25 : decode cX4_ways 25 = .ok (.iload_n 2, 1) := by decide +kernel
theorem dX4_ways_26 : decode cX4_ways 26 = .ok (.iload_n 3, 1) := by decide +kernel
theorem dX4_ways_27 : decode cX4_ways 27 = .ok (.invokestatic 22, 3) := by decide +kernel
theorem dX4_ways_30 : decode cX4_ways 30 = .ok (.iload 4, 2) := by decide +kernel
theorem dX4_ways_32 : decode cX4_ways 32 = .ok (.ireturn, 1) := by decide +kernel
set_option maxRecDepth 20000 in
theorem ggX4_allWays_X8_put : GoodIn wsX4_allWays wsX8_put := goodIn_r _ [5] (by decide +kernel) (by decide +kernel)
set_option maxRecDepth 20000 in
theorem gX4_allWays_X8_put_n22 : GoodIn wsX4_allWays (wsX8_put) := ggX4_allWays_X8_put
set_option maxRecDepth 20000 in
theorem ggX4_allWays_X4_waysToPlace : GoodIn wsX4_allWays wsX4_waysToPlace := goodIn_r _ [10, 2, 11, 1, 12, 4, 13, 14, 15, 16] (by decide +kernel) (by decide +kernel)
set_option maxRecDepth 20000 in
theorem gX4_allWays_X4_waysToPlace : GoodIn wsX4_allWays (wsV RX4 38 RX4 yX4_waysToPlace wsX4_waysToPlace) := goodIn_app (goodIn_of _ (by decide +kernel)) ggX4_allWays_X4_waysToPlace
set_option maxRecDepth 20000 in
theorem ggX4_allWays_X8_at : GoodIn wsX4_allWays wsX8_at := goodIn_r _ [13] (by decide +kernel) (by decide +kernel)
set_option maxRecDepth 20000 in
theorem gX4_allWays_X8_at_n26 : GoodIn wsX4_allWays (wsX8_at) := ggX4_allWays_X8_at
theorem dX4_allWays_0 : decode cX4_allWays 0 = .ok (.aload_n 0, 1) := by decide +kernel
theorem dX4_allWays_1 : decode cX4_allWays 1 = .ok (.getfield 15, 3) := by decide +kernel
theorem dX4_allWays_4 : decode cX4_allWays 4 = .ok (.iconst 0, 1) := by decide +kernel
theorem dX4_allWays_5 : decode cX4_allWays 5 = .ok (.iconst 1, 1) := by decide +kernel
theorem dX4_allWays_6 : decode cX4_allWays 6 = .ok (.invokestatic 22, 3) := by decide +kernel
theorem dX4_allWays_9 : decode cX4_allWays 9 = .ok (.iconst 1, 1) := by decide +kernel
theorem dX4_allWays_10 : decode cX4_allWays 10 = .ok (.istore_n 1, 1) := by decide +kernel
theorem dX4_allWays_11 : decode cX4_allWays 11 = .ok (.iload_n 1, 1) := by decide +kernel
theorem dX4_allWays_12 : decode cX4_allWays 12 = .ok (.iconst 1, 1) := by decide +kernel
theorem dX4_allWays_13 : decode cX4_allWays 13 = .ok (.aload_n 0, 1) := by decide +kernel
theorem dX4_allWays_14 : decode cX4_allWays 14 = .ok (.getfield 18, 3) := by decide +kernel
theorem dX4_allWays_17 : decode cX4_allWays 17 = .ok (.ishl, 1) := by decide +kernel
theorem dX4_allWays_18 : decode cX4_allWays 18 = .ok (.if_icmp .ge 22, 3) := by decide +kernel
theorem dX4_allWays_21 : decode cX4_allWays 21 = .ok (.aload_n 0, 1) := by decide +kernel
theorem dX4_allWays_22 : decode cX4_allWays 22 = .ok (.getfield 15, 3) := by decide +kernel
theorem dX4_allWays_25 : decode cX4_allWays 25 = .ok (.iload_n 1, 1) := by decide +kernel
theorem dX4_allWays_26 : decode cX4_allWays 26 = .ok (.aload_n 0, 1) := by decide +kernel
theorem dX4_allWays_27 : decode cX4_allWays 27 = .ok (.iload_n 1, 1) := by decide +kernel
theorem dX4_allWays_28 : decode cX4_allWays 28 = .ok (.invokevirtual 38, 3) := by decide +kernel
theorem dX4_allWays_31 : decode cX4_allWays 31 = .ok (.invokestatic 22, 3) := by decide +kernel
theorem dX4_allWays_34 : decode cX4_allWays 34 = .ok (.iinc 1 1, 3) := by decide +kernel
theorem dX4_allWays_37 : decode cX4_allWays 37 = .ok (.goto (-26), 3) := by decide +kernel
theorem dX4_allWays_40 : decode cX4_allWays 40 = .ok (.aload_n 0, 1) := by decide +kernel
theorem dX4_allWays_41 : decode cX4_allWays 41 = .ok (.getfield 15, 3) := by decide +kernel
theorem dX4_allWays_44 : decode cX4_allWays 44 = .ok (.iconst 1, 1) := by decide +kernel
theorem dX4_allWays_45 : decode cX4_allWays 45 = .ok (.aload_n 0, 1) := by decide +kernel
theorem dX4_allWays_46 : decode cX4_allWays 46 = .ok (.getfield 18, 3) := by decide +kernel
theorem dX4_allWays_49 : decode cX4_allWays 49 = .ok (.ishl, 1) := by decide +kernel
theorem dX4_allWays_50 : decode cX4_allWays 50 = .ok (.iconst 1, 1) := by decide +kernel
theorem dX4_allWays_51 : decode cX4_allWays 51 = .ok (.isub, 1) := by decide +kernel
theorem dX4_allWays_52 : decode cX4_allWays 52 = .ok (.invokestatic 26, 3) := by decide +kernel
theorem dX4_allWays_55 : decode cX4_allWays 55 = .ok (.ireturn, 1) := by decide +kernel
set_option maxRecDepth 20000 in
theorem ggX4_waysToPlace_X8_at : GoodIn wsX4_waysToPlace wsX8_at := goodIn_r _ [6] (by decide +kernel) (by decide +kernel)
set_option maxRecDepth 20000 in
theorem gX4_waysToPlace_X8_at_n26 : GoodIn wsX4_waysToPlace (wsX8_at) := ggX4_waysToPlace_X8_at
theorem dX4_waysToPlace_0 : decode cX4_waysToPlace 0 = .ok (.iconst 0, 1) := by decide +kernel
theorem dX4_waysToPlace_1 : decode cX4_waysToPlace 1 = .ok (.istore_n 2, 1) := by decide +kernel
theorem dX4_waysToPlace_2 : decode cX4_waysToPlace 2 = .ok (.iconst 0, 1) := by decide +kernel
theorem dX4_waysToPlace_3 : decode cX4_waysToPlace 3 = .ok (.istore_n 3, 1) := by decide +kernel
theorem dX4_waysToPlace_4 : decode cX4_waysToPlace 4 = .ok (.iload_n 3, 1) := by decide +kernel
theorem dX4_waysToPlace_5 : decode cX4_waysToPlace 5 = .ok (.aload_n 0, 1) := by decide +kernel
theorem dX4_waysToPlace_6 : decode cX4_waysToPlace 6 = .ok (.getfield 18, 3) := by decide +kernel
theorem dX4_waysToPlace_9 : decode cX4_waysToPlace 9 = .ok (.if_icmp .ge 52, 3) := by decide +kernel
theorem dX4_waysToPlace_12 : decode cX4_waysToPlace 12 = .ok (.iload_n 1, 1) := by decide +kernel
theorem dX4_waysToPlace_13 : decode cX4_waysToPlace 13 = .ok (.iconst 1, 1) := by decide +kernel
theorem dX4_waysToPlace_14 : decode cX4_waysToPlace 14 = .ok (.iload_n 3, 1) := by decide +kernel
theorem dX4_waysToPlace_15 : decode cX4_waysToPlace 15 = .ok (.ishl, 1) := by decide +kernel
theorem dX4_waysToPlace_16 : decode cX4_waysToPlace 16 = .ok (.iconst (-1), 1) := by decide +kernel
theorem dX4_waysToPlace_17 : decode cX4_waysToPlace 17 = .ok (.ixor, 1) := by decide +kernel
theorem dX4_waysToPlace_18 : decode cX4_waysToPlace 18 = .ok (.iand, 1) := by decide +kernel
theorem dX4_waysToPlace_19 : decode cX4_waysToPlace 19 = .ok (.istore 4, 2) := by decide +kernel
theorem dX4_waysToPlace_21 : decode cX4_waysToPlace 21 = .ok (.iload 4, 2) := by decide +kernel
theorem dX4_waysToPlace_23 : decode cX4_waysToPlace 23 = .ok (.iload_n 1, 1) := by decide +kernel
theorem dX4_waysToPlace_24 : decode cX4_waysToPlace 24 = .ok (.if_icmp .eq 31, 3) := by decide +kernel
theorem dX4_waysToPlace_27 : decode cX4_waysToPlace 27 = .ok (.aload_n 0, 1) := by decide +kernel
theorem dX4_waysToPlace_28 : decode cX4_waysToPlace 28 = .ok (.getfield 9, 3) := by decide +kernel
theorem dX4_waysToPlace_31 : decode cX4_waysToPlace 31 = .ok (.iload_n 3, 1) := by decide +kernel
theorem dX4_waysToPlace_32 : decode cX4_waysToPlace 32 = .ok (.invokestatic 26, 3) := by decide +kernel
theorem dX4_waysToPlace_35 : decode cX4_waysToPlace 35 = .ok (.iload 4, 2) := by decide +kernel
theorem dX4_waysToPlace_37 : decode cX4_waysToPlace 37 = .ok (.iconst (-1), 1) := by decide +kernel
theorem dX4_waysToPlace_38 : decode cX4_waysToPlace 38 = .ok (.ixor, 1) := by decide +kernel
theorem dX4_waysToPlace_39 : decode cX4_waysToPlace 39 = .ok (.iand, 1) := by decide +kernel
theorem dX4_waysToPlace_40 : decode cX4_waysToPlace 40 = .ok (.ifCond .ne 15, 3) := by decide +kernel
theorem dX4_waysToPlace_43 : decode cX4_waysToPlace 43 = .ok (.iload_n 2, 1) := by decide +kernel
theorem dX4_waysToPlace_44 : decode cX4_waysToPlace 44 = .ok (.aload_n 0, 1) := by decide +kernel
theorem dX4_waysToPlace_45 : decode cX4_waysToPlace 45 = .ok (.getfield 15, 3) := by decide +kernel
theorem dX4_waysToPlace_48 : decode cX4_waysToPlace 48 = .ok (.iload 4, 2) := by decide +kernel
theorem dX4_waysToPlace_50 : decode cX4_waysToPlace 50 = .ok (.invokestatic 26, 3) := by decide +kernel
theorem dX4_waysToPlace_53 : decode cX4_waysToPlace 53 = .ok (.iadd, 1) := by decide +kernel
theorem dX4_waysToPlace_54 : decode cX4_waysToPlace 54 = .ok (.istore_n 2, 1) := by decide +kernel
theorem dX4_waysToPlace_55 : decode cX4_waysToPlace 55 = .ok (.iinc 3 1, 3) := by decide +kernel
theorem dX4_waysToPlace_58 : decode cX4_waysToPlace 58 = .ok (.goto (-54), 3) := by decide +kernel
theorem dX4_waysToPlace_61 : decode cX4_waysToPlace 61 = .ok (.iload_n 2, 1) := by decide +kernel
theorem dX4_waysToPlace_62 : decode cX4_waysToPlace 62 = .ok (.ireturn, 1) := by decide +kernel
set_option maxRecDepth 20000 in
theorem ggX4_bestPair_X4_allWays : GoodIn wsX4_bestPair wsX4_allWays := goodIn_r _ [10, 11, 1, 12, 13, 14, 15, 16, 17, 9, 18, 19, 20, 21, 30, 31, 32] (by decide +kernel) (by decide +kernel)
set_option maxRecDepth 20000 in
theorem gX4_bestPair_X4_allWays : GoodIn wsX4_bestPair (wsV RX4 34 RX4 yX4_allWays wsX4_allWays) := goodIn_app (goodIn_of _ (by decide +kernel)) ggX4_bestPair_X4_allWays
set_option maxRecDepth 20000 in
theorem ggX4_bestPair_X4_ways : GoodIn wsX4_bestPair wsX4_ways := goodIn_r _ [25, 19, 20, 13, 21, 26, 27, 28, 9, 29, 12, 14, 6, 7, 8, 10, 11, 1, 15, 16, 17, 18, 30, 31, 32] (by decide +kernel) (by decide +kernel)
set_option maxRecDepth 20000 in
theorem gX4_bestPair_X4_ways : GoodIn wsX4_bestPair (wsV RX4 42 RX4 yX4_ways wsX4_ways) := goodIn_app (goodIn_of _ (by decide +kernel)) ggX4_bestPair_X4_ways
theorem dX4_bestPair_0 : decode cX4_bestPair 0 = .ok (.aload_n 0, 1) := by decide +kernel
theorem dX4_bestPair_1 : decode cX4_bestPair 1 = .ok (.invokevirtual 34, 3) := by decide +kernel
theorem dX4_bestPair_4 : decode cX4_bestPair 4 = .ok (.istore_n 1, 1) := by decide +kernel
theorem dX4_bestPair_5 : decode cX4_bestPair 5 = .ok (.iconst (-1), 1) := by decide +kernel
theorem dX4_bestPair_6 : decode cX4_bestPair 6 = .ok (.istore_n 2, 1) := by decide +kernel
theorem dX4_bestPair_7 : decode cX4_bestPair 7 = .ok (.iconst 0, 1) := by decide +kernel
theorem dX4_bestPair_8 : decode cX4_bestPair 8 = .ok (.istore_n 3, 1) := by decide +kernel
theorem dX4_bestPair_9 : decode cX4_bestPair 9 = .ok (.iconst 0, 1) := by decide +kernel
theorem dX4_bestPair_10 : decode cX4_bestPair 10 = .ok (.istore 4, 2) := by decide +kernel
theorem dX4_bestPair_12 : decode cX4_bestPair 12 = .ok (.iload 4, 2) := by decide +kernel
theorem dX4_bestPair_14 : decode cX4_bestPair 14 = .ok (.aload_n 0, 1) := by decide +kernel
theorem dX4_bestPair_15 : decode cX4_bestPair 15 = .ok (.getfield 18, 3) := by decide +kernel
theorem dX4_bestPair_18 : decode cX4_bestPair 18 = .ok (.if_icmp .ge 69, 3) := by decide +kernel
theorem dX4_bestPair_21 : decode cX4_bestPair 21 = .ok (.iload 4, 2) := by decide +kernel
theorem dX4_bestPair_23 : decode cX4_bestPair 23 = .ok (.iconst 1, 1) := by decide +kernel
theorem dX4_bestPair_24 : decode cX4_bestPair 24 = .ok (.iadd, 1) := by decide +kernel
theorem dX4_bestPair_25 : decode cX4_bestPair 25 = .ok (.istore 5, 2) := by decide +kernel
theorem dX4_bestPair_27 : decode cX4_bestPair 27 = .ok (.iload 5, 2) := by decide +kernel
theorem dX4_bestPair_29 : decode cX4_bestPair 29 = .ok (.aload_n 0, 1) := by decide +kernel
theorem dX4_bestPair_30 : decode cX4_bestPair 30 = .ok (.getfield 18, 3) := by decide +kernel
theorem dX4_bestPair_33 : decode cX4_bestPair 33 = .ok (.if_icmp .ge 48, 3) := by decide +kernel
theorem dX4_bestPair_36 : decode cX4_bestPair 36 = .ok (.aload_n 0, 1) := by decide +kernel
theorem dX4_bestPair_37 : decode cX4_bestPair 37 = .ok (.iload 4, 2) := by decide +kernel
theorem dX4_bestPair_39 : decode cX4_bestPair 39 = .ok (.iload 5, 2) := by decide +kernel
theorem dX4_bestPair_41 : decode cX4_bestPair 41 = .ok (.invokevirtual 42, 3) := by decide +kernel
theorem dX4_bestPair_44 : decode cX4_bestPair 44 = .ok (.istore 6, 2) := by decide +kernel
theorem dX4_bestPair_46 : decode cX4_bestPair 46 = .ok (.iload 6, 2) := by decide +kernel
theorem dX4_bestPair_48 : decode cX4_bestPair 48 = .ok (.iload_n 1, 1) := by decide +kernel
theorem dX4_bestPair_49 : decode cX4_bestPair 49 = .ok (.iload 6, 2) := by decide +kernel
theorem dX4_bestPair_51 : decode cX4_bestPair 51 = .ok (.isub, 1) := by decide +kernel
theorem dX4_bestPair_52 : decode cX4_bestPair 52 = .ok (.invokestatic 46, 3) := by decide +kernel
theorem dX4_bestPair_55 : decode cX4_bestPair 55 = .ok (.istore 7, 2) := by decide +kernel
theorem dX4_bestPair_57 : decode cX4_bestPair 57 = .ok (.iload 7, 2) := by decide +kernel
theorem dX4_bestPair_59 : decode cX4_bestPair 59 = .ok (.iload_n 2, 1) := by decide +kernel
theorem dX4_bestPair_60 : decode cX4_bestPair 60 = .ok (.if_icmp .le 15, 3) := by decide +kernel
theorem dX4_bestPair_63 : decode cX4_bestPair 63 = .ok (.iload 7, 2) := by decide +kernel
theorem dX4_bestPair_65 : decode cX4_bestPair 65 = .ok (.istore_n 2, 1) := by decide +kernel
theorem dX4_bestPair_66 : decode cX4_bestPair 66 = .ok (.bipush 10, 2) := by decide +kernel
theorem dX4_bestPair_68 : decode cX4_bestPair 68 = .ok (.iload 4, 2) := by decide +kernel
theorem dX4_bestPair_70 : decode cX4_bestPair 70 = .ok (.imul, 1) := by decide +kernel
theorem dX4_bestPair_71 : decode cX4_bestPair 71 = .ok (.iload 5, 2) := by decide +kernel
theorem dX4_bestPair_73 : decode cX4_bestPair 73 = .ok (.iadd, 1) := by decide +kernel
theorem dX4_bestPair_74 : decode cX4_bestPair 74 = .ok (.istore_n 3, 1) := by decide +kernel
theorem dX4_bestPair_75 : decode cX4_bestPair 75 = .ok (.iinc 5 1, 3) := by decide +kernel
theorem dX4_bestPair_78 : decode cX4_bestPair 78 = .ok (.goto (-51), 3) := by decide +kernel
theorem dX4_bestPair_81 : decode cX4_bestPair 81 = .ok (.iinc 4 1, 3) := by decide +kernel
theorem dX4_bestPair_84 : decode cX4_bestPair 84 = .ok (.goto (-72), 3) := by decide +kernel
theorem dX4_bestPair_87 : decode cX4_bestPair 87 = .ok (.iload_n 3, 1) := by decide +kernel
theorem dX4_bestPair_88 : decode cX4_bestPair 88 = .ok (.ireturn, 1) := by decide +kernel
set_option maxRecDepth 20000 in
theorem ggX5_init_X1_init : GoodIn wsX5_init wsX1_init := goodIn_r _ [13, 14, 2, 3, 8, 15, 16, 17, 18, 19, 20, 21] (by decide +kernel) (by decide +kernel)
set_option maxRecDepth 20000 in
theorem gX5_init_X1_init_n11 : GoodIn wsX5_init (wsX1_init) := ggX5_init_X1_init
theorem dX5_init_0 : decode cX5_init 0 = .ok (.aload_n 0, 1) := by decide +kernel
theorem dX5_init_1 : decode cX5_init 1 = .ok (.invokespecial 3, 3) := by decide +kernel
theorem dX5_init_4 : decode cX5_init 4 = .ok (.aload_n 0, 1) := by decide +kernel
theorem dX5_init_5 : decode cX5_init 5 = .ok (.new 9, 3) := by decide +kernel
theorem dX5_init_8 : decode cX5_init 8 = .ok (.dup, 1) := by decide +kernel
theorem dX5_init_9 : decode cX5_init 9 = .ok (.invokespecial 11, 3) := by decide +kernel
theorem dX5_init_12 : decode cX5_init 12 = .ok (.putfield 12, 3) := by decide +kernel
theorem dX5_init_15 : decode cX5_init 15 = .ok (.aload_n 0, 1) := by decide +kernel
theorem dX5_init_16 : decode cX5_init 16 = .ok (.bipush 24, 2) := by decide +kernel
theorem dX5_init_18 : decode cX5_init 18 = .ok (.newarray .int, 2) := by decide +kernel
theorem dX5_init_20 : decode cX5_init 20 = .ok (.putfield 18, 3) := by decide +kernel
theorem dX5_init_23 : decode cX5_init 23 = .ok (.aload_n 0, 1) := by decide +kernel
theorem dX5_init_24 : decode cX5_init 24 = .ok (.bipush 45, 2) := by decide +kernel
theorem dX5_init_26 : decode cX5_init 26 = .ok (.putfield 22, 3) := by decide +kernel
theorem dX5_init_29 : decode cX5_init 29 = .ok (.aload_n 0, 1) := by decide +kernel
theorem dX5_init_30 : decode cX5_init 30 = .ok (.iconst 1, 1) := by decide +kernel
theorem dX5_init_31 : decode cX5_init 31 = .ok (.putfield 26, 3) := by decide +kernel
theorem dX5_init_34 : decode cX5_init 34 = .ok (.return_, 1) := by decide +kernel
theorem dX5_isKind_0 : decode cX5_isKind 0 = .ok (.iload_n 0, 1) := by decide +kernel
theorem dX5_isKind_1 : decode cX5_isKind 1 = .ok (.bipush 104, 2) := by decide +kernel
theorem dX5_isKind_3 : decode cX5_isKind 3 = .ok (.if_icmp .eq 15, 3) := by decide +kernel
theorem dX5_isKind_6 : decode cX5_isKind 6 = .ok (.iload_n 0, 1) := by decide +kernel
theorem dX5_isKind_7 : decode cX5_isKind 7 = .ok (.bipush 108, 2) := by decide +kernel
theorem dX5_isKind_9 : decode cX5_isKind 9 = .ok (.if_icmp .eq 9, 3) := by decide +kernel
theorem dX5_isKind_12 : decode cX5_isKind 12 = .ok (.iload_n 0, 1) := by decide +kernel
theorem dX5_isKind_13 : decode cX5_isKind 13 = .ok (.bipush 97, 2) := by decide +kernel
theorem dX5_isKind_15 : decode cX5_isKind 15 = .ok (.if_icmp .ne 7, 3) := by decide +kernel
theorem dX5_isKind_18 : decode cX5_isKind 18 = .ok (.iconst 1, 1) := by decide +kernel
theorem dX5_isKind_19 : decode cX5_isKind 19 = .ok (.goto 4, 3) := by decide +kernel
theorem dX5_isKind_22 : decode cX5_isKind 22 = .ok (.iconst 0, 1) := by decide +kernel
theorem dX5_isKind_23 : decode cX5_isKind 23 = .ok (.ireturn, 1) := by decide +kernel
theorem dX5_isThere_0 : decode cX5_isThere 0 = .ok (.aload_n 0, 1) := by decide +kernel
theorem dX5_isThere_1 : decode cX5_isThere 1 = .ok (.getfield 22, 3) := by decide +kernel
theorem dX5_isThere_4 : decode cX5_isThere 4 = .ok (.bipush 45, 2) := by decide +kernel
theorem dX5_isThere_6 : decode cX5_isThere 6 = .ok (.if_icmp .eq 7, 3) := by decide +kernel
theorem dX5_isThere_9 : decode cX5_isThere 9 = .ok (.iconst 1, 1) := by decide +kernel
theorem dX5_isThere_10 : decode cX5_isThere 10 = .ok (.goto 4, 3) := by decide +kernel
theorem dX5_isThere_13 : decode cX5_isThere 13 = .ok (.iconst 0, 1) := by decide +kernel
theorem dX5_isThere_14 : decode cX5_isThere 14 = .ok (.ireturn, 1) := by decide +kernel
set_option maxRecDepth 20000 in
theorem ggX5_leave_X5_come : GoodIn wsX5_leave wsX5_come := goodIn_r _ [5, 6, 7, 8, 9, 10, 11, 12, 13, 14, 15, 16, 17, 18, 19, 20, 21, 22] (by decide +kernel) (by decide +kernel)
set_option maxRecDepth 20000 in
theorem gX5_leave_X5_come : GoodIn wsX5_leave (wsV RX5 30 RX5 yX5_come wsX5_come) := goodIn_app (goodIn_of _ (by decide +kernel)) ggX5_leave_X5_come
theorem dX5_leave_0 : decode cX5_leave 0 = .ok (.aload_n 0, 1) := by decide +kernel
theorem dX5_leave_1 : decode cX5_leave 1 = .ok (.bipush 45, 2) := by decide +kernel
theorem dX5_leave_3 : decode cX5_leave 3 = .ok (.iconst 0, 1) := by decide +kernel
theorem dX5_leave_4 : decode cX5_leave 4 = .ok (.iconst 0, 1) := by decide +kernel
theorem dX5_leave_5 : decode cX5_leave 5 = .ok (.invokevirtual 30, 3) := by decide +kernel
theorem dX5_leave_8 : decode cX5_leave 8 = .ok (.return_, 1) := by decide +kernel
set_option maxRecDepth 20000 in
theorem ggX5_come_X8_put : GoodIn wsX5_come wsX8_put := goodIn_r _ [9] (by decide +kernel) (by decide +kernel)
set_option maxRecDepth 20000 in
theorem gX5_come_X8_put_n46 : GoodIn wsX5_come (wsX8_put) := ggX5_come_X8_put
theorem dX5_come_0 : decode cX5_come 0 = .ok (.aload_n 0, 1) := by decide +kernel
theorem dX5_come_1 : decode cX5_come 1 = .ok (.iload_n 1, 1) := by decide +kernel
theorem dX5_come_2 : decode cX5_come 2 = .ok (.putfield 22, 3) := by decide +kernel
theorem dX5_come_5 : decode cX5_come 5 = .ok (.aload_n 0, 1) := by decide +kernel
theorem dX5_come_6 : decode cX5_come 6 = .ok (.iload_n 2, 1) := by decide +kernel
theorem dX5_come_7 : decode cX5_come 7 = .ok (.putfield 34, 3) := by decide +kernel
theorem dX5_come_10 : decode cX5_come 10 = .ok (.aload_n 0, 1) := by decide +kernel
theorem dX5_come_11 : decode cX5_come 11 = .ok (.iload_n 1, 1) := by decide +kernel
theorem dX5_come_12 : decode cX5_come 12 = .ok (.bipush 108, 2) := by decide +kernel
theorem dX5_come_14 : decode cX5_come 14 = .ok (.if_icmp .ne 7, 3) := by decide +kernel
theorem dX5_come_17 : decode cX5_come 17 = .ok (.iload_n 3, 1) := by decide +kernel
theorem dX5_come_18 : decode cX5_come 18 = .ok (.goto 4, 3) := by decide +kernel
theorem dX5_come_21 : decode cX5_come 21 = .ok (.iconst 0, 1) := by decide +kernel
theorem dX5_come_22 : decode cX5_come 22 = .ok (.putfield 37, 3) := by decide +kernel
theorem dX5_come_25 : decode cX5_come 25 = .ok (.aload_n 0, 1) := by decide +kernel
theorem dX5_come_26 : decode cX5_come 26 = .ok (.iconst 0, 1) := by decide +kernel
theorem dX5_come_27 : decode cX5_come 27 = .ok (.putfield 40, 3) := by decide +kernel
theorem dX5_come_30 : decode cX5_come 30 = .ok (.aload_n 0, 1) := by decide +kernel
theorem dX5_come_31 : decode cX5_come 31 = .ok (.iconst 0, 1) := by decide +kernel
theorem dX5_come_32 : decode cX5_come 32 = .ok (.putfield 43, 3) := by decide +kernel
theorem dX5_come_35 : decode cX5_come 35 = .ok (.iconst 0, 1) := by decide +kernel
theorem dX5_come_36 : decode cX5_come 36 = .ok (.istore 4, 2) := by decide +kernel
theorem dX5_come_38 : decode cX5_come 38 = .ok (.iload 4, 2) := by decide +kernel
theorem dX5_come_40 : decode cX5_come 40 = .ok (.bipush 24, 2) := by decide +kernel
theorem dX5_come_42 : decode cX5_come 42 = .ok (.if_icmp .ge 19, 3) := by decide +kernel
theorem dX5_come_45 : decode cX5_come 45 = .ok (.aload_n 0, 1) := by decide +kernel
theorem dX5_come_46 : decode cX5_come 46 = .ok (.getfield 18, 3) := by decide +kernel
theorem dX5_come_49 : decode cX5_come 49 = .ok (.iload 4, 2) := by decide +kernel
theorem dX5_come_51 : decode cX5_come 51 = .ok (.iconst 0, 1) := by decide +kernel
theorem dX5_come_52 : decode cX5_come 52 = .ok (.invokestatic 46, 3) := by decide +kernel
theorem dX5_come_55 : decode cX5_come 55 = .ok (.iinc 4 1, 3) := by decide +kernel
theorem dX5_come_58 : decode cX5_come 58 = .ok (.goto (-20), 3) := by decide +kernel
theorem dX5_come_61 : decode cX5_come 61 = .ok (.return_, 1) := by decide +kernel
set_option maxRecDepth 20000 in
theorem ggX5_conflictsOf_X8_at : GoodIn wsX5_conflictsOf wsX8_at := goodIn_r _ [4] (by decide +kernel) (by decide +kernel)
set_option maxRecDepth 20000 in
theorem gX5_conflictsOf_X8_at_n50 : GoodIn wsX5_conflictsOf (wsX8_at) := ggX5_conflictsOf_X8_at
theorem dX5_conflictsOf_0 : decode cX5_conflictsOf 0 = .ok (.aload_n 0, 1) := by decide +kernel
theorem dX5_conflictsOf_1 : decode cX5_conflictsOf 1 = .ok (.getfield 18, 3) := by decide +kernel
theorem dX5_conflictsOf_4 : decode cX5_conflictsOf 4 = .ok (.iload_n 1, 1) := by decide +kernel
theorem dX5_conflictsOf_5 : decode cX5_conflictsOf 5 = .ok (.invokestatic 50, 3) := by decide +kernel
theorem dX5_conflictsOf_8 : decode cX5_conflictsOf 8 = .ok (.ireturn, 1) := by decide +kernel
set_option maxRecDepth 20000 in
theorem ggX5_isLiving_X5_conflictsOf : GoodIn wsX5_isLiving wsX5_conflictsOf := goodIn_r _ [6, 7, 8, 9, 10, 11, 12, 13, 14, 15, 16, 17, 18] (by decide +kernel) (by decide +kernel)
set_option maxRecDepth 20000 in
theorem gX5_isLiving_X5_conflictsOf : GoodIn wsX5_isLiving (wsV RX5 54 RX5 yX5_conflictsOf wsX5_conflictsOf) := goodIn_app (goodIn_of _ (by decide +kernel)) ggX5_isLiving_X5_conflictsOf
theorem dX5_isLiving_0 : decode cX5_isLiving 0 = .ok (.aload_n 0, 1) := by decide +kernel
theorem dX5_isLiving_1 : decode cX5_isLiving 1 = .ok (.iload_n 1, 1) := by decide +kernel
theorem dX5_isLiving_2 : decode cX5_isLiving 2 = .ok (.invokevirtual 54, 3) := by decide +kernel
theorem dX5_isLiving_5 : decode cX5_isLiving 5 = .ok (.iconst (-1), 1) := by decide +kernel
theorem dX5_isLiving_6 : decode cX5_isLiving 6 = .ok (.if_icmp .eq 19, 3) := by decide +kernel
theorem dX5_isLiving_9 : decode cX5_isLiving 9 = .ok (.aload_n 0, 1) := by decide +kernel
theorem dX5_isLiving_10 : decode cX5_isLiving 10 = .ok (.iload_n 1, 1) := by decide +kernel
theorem dX5_isLiving_11 : decode cX5_isLiving 11 = .ok (.invokevirtual 54, 3) := by decide +kernel
theorem dX5_isLiving_14 : decode cX5_isLiving 14 = .ok (.aload_n 0, 1) := by decide +kernel
theorem dX5_isLiving_15 : decode cX5_isLiving 15 = .ok (.getfield 37, 3) := by decide +kernel
theorem dX5_isLiving_18 : decode cX5_isLiving 18 = .ok (.if_icmp .gt 7, 3) := by decide +kernel
theorem dX5_isLiving_21 : decode cX5_isLiving 21 = .ok (.iconst 1, 1) := by decide +kernel
theorem dX5_isLiving_22 : decode cX5_isLiving 22 = .ok (.goto 4, 3) := by decide +kernel
theorem dX5_isLiving_25 : decode cX5_isLiving 25 = .ok (.iconst 0, 1) := by decide +kernel
theorem dX5_isLiving_26 : decode cX5_isLiving 26 = .ok (.ireturn, 1) := by decide +kernel
set_option maxRecDepth 20000 in
theorem ggX5_living_X5_isLiving : GoodIn wsX5_living wsX5_isLiving := goodIn_r _ [6, 7, 8, 9, 10, 5, 11, 12, 13, 14, 15, 16, 17, 18, 19, 20, 21, 22, 23] (by decide +kernel) (by decide +kernel)
set_option maxRecDepth 20000 in
theorem gX5_living_X5_isLiving : GoodIn wsX5_living (wsV RX5 61 RX5 yX5_isLiving wsX5_isLiving) := goodIn_app (goodIn_of _ (by decide +kernel)) ggX5_living_X5_isLiving
theorem dX5_living_0 : decode cX5_living 0 = .ok (.iconst 0, 1) := by decide +kernel
theorem dX5_living_1 : decode cX5_living 1 = .ok (.istore_n 1, 1) := by decide +kernel
theorem dX5_living_2 : decode cX5_living 2 = .ok (.iconst 0, 1) := by decide +kernel
theorem dX5_living_3 : decode cX5_living 3 = .ok (.istore_n 2, 1) := by decide +kernel
theorem dX5_living_4 : decode cX5_living 4 = .ok (.iload_n 2, 1) := by decide +kernel
theorem dX5_living_5 : decode cX5_living 5 = .ok (.aload_n 0, 1) := by decide +kernel
theorem dX5_living_6 : decode cX5_living 6 = .ok (.getfield 12, 3) := by decide +kernel
theorem dX5_living_9 : decode cX5_living 9 = .ok (.getfield 58, 3) := by decide +kernel
theorem dX5_living_12 : decode cX5_living 12 = .ok (.if_icmp .ge 23, 3) := by decide +kernel
theorem dX5_living_15 : decode cX5_living 15 = .ok (.aload_n 0, 1) := by decide +kernel
theorem dX5_living_16 : decode cX5_living 16 = .ok (.iload_n 2, 1) := by decide +kernel
theorem dX5_living_17 : decode cX5_living 17 = .ok (.invokevirtual 61, 3) := by decide +kernel
theorem dX5_living_20 : decode cX5_living 20 = .ok (.ifCond .eq 9, 3) := by decide +kernel
theorem dX5_living_23 : decode cX5_living 23 = .ok (.iload_n 1, 1) := by decide +kernel
theorem dX5_living_24 : decode cX5_living 24 = .ok (.iconst 1, 1) := by decide +kernel
theorem dX5_living_25 : decode cX5_living 25 = .ok (.iload_n 2, 1) := by decide +kernel
theorem dX5_living_26 : decode cX5_living 26 = .ok (.ishl, 1) := by decide +kernel
theorem dX5_living_27 : decode cX5_living 27 = .ok (.ior, 1) := by decide +kernel
theorem dX5_living_28 : decode cX5_living 28 = .ok (.istore_n 1, 1) := by decide +kernel
theorem dX5_living_29 : decode cX5_living 29 = .ok (.iinc 2 1, 3) := by decide +kernel
theorem dX5_living_32 : decode cX5_living 32 = .ok (.goto (-28), 3) := by decide +kernel
theorem dX5_living_35 : decode cX5_living 35 = .ok (.iload_n 1, 1) := by decide +kernel
theorem dX5_living_36 : decode cX5_living 36 = .ok (.ireturn, 1) := by decide +kernel
set_option maxRecDepth 20000 in
theorem ggX5_isHonoured_X5_isLiving : GoodIn wsX5_isHonoured wsX5_isLiving := goodIn_r _ [7, 8, 9, 10, 11, 6, 12, 13, 14, 15, 16, 17, 18, 19, 20, 21, 22, 23, 24] (by decide +kernel) (by decide +kernel)
set_option maxRecDepth 20000 in
theorem gX5_isHonoured_X5_isLiving : GoodIn wsX5_isHonoured (wsV RX5 61 RX5 yX5_isLiving wsX5_isLiving) := goodIn_app (goodIn_of _ (by decide +kernel)) ggX5_isHonoured_X5_isLiving
theorem dX5_isHonoured_0 : decode cX5_isHonoured 0 = .ok (.aload_n 0, 1) := by decide +kernel
theorem dX5_isHonoured_1 : decode cX5_isHonoured 1 = .ok (.getfield 22, 3) := by decide +kernel
theorem dX5_isHonoured_4 : decode cX5_isHonoured 4 = .ok (.bipush 45, 2) := by decide +kernel
theorem dX5_isHonoured_6 : decode cX5_isHonoured 6 = .ok (.if_icmp .eq 23, 3) := by decide +kernel
theorem dX5_isHonoured_9 : decode cX5_isHonoured 9 = .ok (.aload_n 0, 1) := by decide +kernel
theorem dX5_isHonoured_10 : decode cX5_isHonoured 10 = .ok (.getfield 22, 3) := by decide +kernel
theorem dX5_isHonoured_13 : decode cX5_isHonoured 13 = .ok (.bipush 97, 2) := by decide +kernel
theorem dX5_isHonoured_15 : decode cX5_isHonoured 15 = .ok (.if_icmp .eq 14, 3) := by decide +kernel
theorem dX5_isHonoured_18 : decode cX5_isHonoured 18 = .ok (.aload_n 0, 1) := by decide +kernel
theorem dX5_isHonoured_19 : decode cX5_isHonoured 19 = .ok (.aload_n 0, 1) := by decide +kernel
theorem dX5_isHonoured_20 : decode cX5_isHonoured 20 = .ok (.getfield 34, 3) := by decide +kernel
theorem dX5_isHonoured_23 : decode cX5_isHonoured 23 = .ok (.invokevirtual 61, 3) := by decide +kernel
theorem dX5_isHonoured_26 : decode cX5_isHonoured 26 = .ok (.ifCond .eq 7, 3) := by decide +kernel
theorem dX5_isHonoured_29 : decode cX5_isHonoured 29 = .ok (.iconst 1, 1) := by decide +kernel
theorem dX5_isHonoured_30 : decode cX5_isHonoured 30 = .ok (.goto 4, 3) := by decide +kernel
theorem dX5_isHonoured_33 : decode cX5_isHonoured 33 = .ok (.iconst 0, 1) := by decide +kernel
theorem dX5_isHonoured_34 : decode cX5_isHonoured 34 = .ok (.ireturn, 1) := by decide +kernel
set_option maxRecDepth 20000 in
theorem ggX5_askOn_X5_living : GoodIn wsX5_askOn wsX5_living := goodIn_r _ [7, 2, 8, 9, 10, 6, 11, 12, 13, 14, 15, 16, 17, 18, 19, 20, 90, 91, 92, 93, 94, 95, 96, 97, 98, 99, 100, 101] (by decide +kernel) (by decide +kernel)
set_option maxRecDepth 20000 in
theorem gX5_askOn_X5_living : GoodIn wsX5_askOn (wsV RX5 65 RX5 yX5_living wsX5_living) := goodIn_app (goodIn_of _ (by decide +kernel)) ggX5_askOn_X5_living
set_option maxRecDepth 20000 in
theorem ggX5_askOn_J6_bitCount_0f7a4 : GoodIn wsX5_askOn wsJ6_bitCount_0f7a4 := goodIn_r _ [24, 25, 26, 27] (by decide +kernel) (by decide +kernel)
set_option maxRecDepth 20000 in
theorem gX5_askOn_J6_bitCount_0f7a4 : GoodIn wsX5_askOn (va_wsS RX5 69 yJ6_bitCount_0f7a4 wsJ6_bitCount_0f7a4) := goodIn_app (goodIn_of _ (by decide +kernel)) ggX5_askOn_J6_bitCount_0f7a4
set_option maxRecDepth 20000 in
theorem ggX5_askOn_X1_bestQuestion : GoodIn wsX5_askOn wsX1_bestQuestion := goodIn_r _ [32, 33, 34, 35, 36, 37, 38, 39, 40, 31, 41, 42, 18, 19, 20, 43, 22, 23, 24, 25, 26, 27, 44, 45, 46, 47, 48, 49, 50, 51, 52, 98, 99, 100, 101] (by decide +kernel) (by decide +kernel)
set_option maxRecDepth 20000 in
theorem gX5_askOn_X1_bestQuestion : GoodIn wsX5_askOn (wsV RX5 74 RX1 yX1_bestQuestion wsX1_bestQuestion) := goodIn_app (goodIn_of _ (by decide +kernel)) ggX5_askOn_X1_bestQuestion
set_option maxRecDepth 20000 in
theorem ggX5_askOn_X5_answer : GoodIn wsX5_askOn wsX5_answer := goodIn_r _ [56, 57, 2, 1, 3, 4, 5, 6, 7, 8, 9, 10, 11, 12, 13, 14, 15, 16, 17, 18, 19, 20, 58, 59, 60, 31, 61, 38, 39, 40, 41, 42, 43, 22, 23, 24, 25, 26, 27, 44, 45, 46, 47, 48, 49, 50, 51, 52, 62, 63, 64, 65, 66, 67, 68, 69, 70, 71, 72, 73, 74, 75, 76, 77, 78, 79, 80, 81, 82, 83, 84, 85, 86, 87, 88, 89, 90, 91, 92, 93, 94, 95, 96, 97, 98, 99, 100, 101] (by decide +kernel) (by decide +kernel)
set_option maxRecDepth 20000 in
theorem gX5_askOn_X5_answer : GoodIn wsX5_askOn (wsV RX5 77 RX5 yX5_answer wsX5_answer) := goodIn_app (goodIn_of _ (by decide +kernel)) ggX5_askOn_X5_answer
theorem dX5_askOn_0 : decode cX5_askOn 0 = .ok (.aload_n 0, 1) := by decide +kernel
theorem dX5_askOn_1 : decode cX5_askOn 1 = .ok (.getfield 43, 3) := by decide +kernel
theorem dX5_askOn_4 : decode cX5_askOn 4 = .ok (.istore_n 1, 1) := by decide +kernel
theorem dX5_askOn_5 : decode cX5_askOn 5 = .ok (.iload_n 1, 1) := by decide +kernel
theorem dX5_askOn_6 : decode cX5_askOn 6 = .ok (.istore_n 2, 1) := by decide +kernel
theorem dX5_askOn_7 : decode cX5_askOn 7 = .ok (.iload_n 2, 1) := by decide +kernel
theorem dX5_askOn_8 : decode cX5_askOn 8 = .ok (.bipush 40, 2) := by decide +kernel
theorem dX5_askOn_10 : decode cX5_askOn 10 = .ok (.if_icmp .ge 36, 3) := by decide +kernel
theorem dX5_askOn_13 : decode cX5_askOn 13 = .ok (.aload_n 0, 1) := by decide +kernel
theorem dX5_askOn_14 : decode cX5_askOn 14 = .ok (.invokevirtual 65, 3) := by decide +kernel
theorem dX5_askOn_17 : decode cX5_askOn 17 = .ok (.invokestatic 69, 3) := by decide +kernel
theorem dX5_askOn_20 : decode cX5_askOn 20 = .ok (.iconst 1, 1) := by decide +kernel
theorem dX5_askOn_21 : decode cX5_askOn 21 = .ok (.if_icmp .le 25, 3) := by decide +kernel
theorem dX5_askOn_24 : decode cX5_askOn 24 = .ok (.aload_n 0, 1) := by decide +kernel
theorem dX5_askOn_25 : decode cX5_askOn 25 = .ok (.aload_n 0, 1) := by decide +kernel
theorem dX5_askOn_26 : decode cX5_askOn 26 = .ok (.getfield 12, 3) := by decide +kernel
theorem dX5_askOn_29 : decode cX5_askOn 29 = .ok (.aload_n 0, 1) := by decide +kernel
theorem dX5_askOn_30 : decode cX5_askOn 30 = .ok (.invokevirtual 65, 3) := by decide +kernel
theorem dX5_askOn_33 : decode cX5_askOn 33 = .ok (.invokevirtual 74, 3) := by decide +kernel
theorem dX5_askOn_36 : decode cX5_askOn 36 = .ok (.invokevirtual 77, 3) := by decide +kernel
theorem dX5_askOn_39 : decode cX5_askOn 39 = .ok (.pop, 1) := by decide +kernel
theorem dX5_askOn_40 : decode cX5_askOn 40 = .ok (.iinc 2 1, 3) := by decide +kernel
theorem dX5_askOn_43 : decode cX5_askOn 43 = .ok (.goto (-36), 3) := by decide +kernel
theorem dX5_askOn_46 : decode cX5_askOn 46 = .ok (.aload_n 0, 1) := by decide +kernel
theorem dX5_askOn_47 : decode cX5_askOn 47 = .ok (.getfield 43, 3) := by decide +kernel
theorem dX5_askOn_50 : decode cX5_askOn 50 = .ok (.iload_n 1, 1) := by decide +kernel
theorem dX5_askOn_51 : decode cX5_askOn 51 = .ok (.isub, 1) := by decide +kernel
theorem dX5_askOn_52 : decode cX5_askOn 52 = .ok (.ireturn, 1) := by decide +kernel
set_option maxRecDepth 20000 in
theorem ggX5_answer_X5_living : GoodIn wsX5_answer wsX5_living := goodIn_r _ [8, 2, 9, 10, 11, 7, 12, 13, 14, 15, 16, 17, 18, 19, 20, 21, 76, 77, 78, 79, 80, 81, 82, 83, 84, 85, 86, 87] (by decide +kernel) (by decide +kernel)
set_option maxRecDepth 20000 in
theorem gX5_answer_X5_living : GoodIn wsX5_answer (wsV RX5 65 RX5 yX5_living wsX5_living) := goodIn_app (goodIn_of _ (by decide +kernel)) ggX5_answer_X5_living
set_option maxRecDepth 20000 in
theorem ggX5_answer_X1_isMostlyIn : GoodIn wsX5_answer wsX1_isMostlyIn := goodIn_r _ [26, 27, 28, 29, 25, 30, 31, 19, 20, 21, 32, 33, 34, 35, 36, 37, 38, 39, 40, 41, 42, 43, 44, 45, 46, 47, 84, 85, 86, 87] (by decide +kernel) (by decide +kernel)
set_option maxRecDepth 20000 in
theorem gX5_answer_X1_isMostlyIn : GoodIn wsX5_answer (wsV RX5 80 RX1 yX1_isMostlyIn wsX1_isMostlyIn) := goodIn_app (goodIn_of _ (by decide +kernel)) ggX5_answer_X1_isMostlyIn
set_option maxRecDepth 20000 in
theorem ggX5_answer_X5_hasHidden : GoodIn wsX5_answer wsX5_hasHidden := goodIn_r _ [51, 2, 52, 53, 54, 55, 25, 56, 57, 19, 20, 21, 58, 59, 76, 77, 78, 79, 80, 81, 82, 83, 84, 85, 86, 87] (by decide +kernel) (by decide +kernel)
set_option maxRecDepth 20000 in
theorem gX5_answer_X5_hasHidden : GoodIn wsX5_answer (wsV RX5 84 RX5 yX5_hasHidden wsX5_hasHidden) := goodIn_app (goodIn_of _ (by decide +kernel)) ggX5_answer_X5_hasHidden
set_option maxRecDepth 20000 in
theorem ggX5_answer_X5_drawsLie : GoodIn wsX5_answer wsX5_drawsLie := goodIn_r _ [63, 1, 64, 13, 65, 66, 67, 76, 77, 78, 79, 80, 81, 82, 83] (by decide +kernel) (by decide +kernel)
set_option maxRecDepth 20000 in
theorem gX5_answer_X5_drawsLie : GoodIn wsX5_answer (wsV RX5 87 RX5 yX5_drawsLie wsX5_drawsLie) := goodIn_app (goodIn_of _ (by decide +kernel)) ggX5_answer_X5_drawsLie
set_option maxRecDepth 20000 in
theorem ggX5_answer_X1_lacking : GoodIn wsX5_answer wsX1_lacking := goodIn_r _ [42, 31, 43, 44, 45, 25, 46, 47, 19, 20, 21, 84, 85, 86, 87] (by decide +kernel) (by decide +kernel)
set_option maxRecDepth 20000 in
theorem gX5_answer_X1_lacking : GoodIn wsX5_answer (wsV RX5 91 RX1 yX1_lacking wsX1_lacking) := goodIn_app (goodIn_of _ (by decide +kernel)) ggX5_answer_X1_lacking
set_option maxRecDepth 20000 in
theorem ggX5_answer_X1_holding : GoodIn wsX5_answer wsX1_holding := goodIn_r _ [30, 31, 19, 20, 21, 84, 85, 86, 87] (by decide +kernel) (by decide +kernel)
set_option maxRecDepth 20000 in
theorem gX5_answer_X1_holding : GoodIn wsX5_answer (wsV RX5 94 RX1 yX1_holding wsX1_holding) := goodIn_app (goodIn_of _ (by decide +kernel)) ggX5_answer_X1_holding
set_option maxRecDepth 20000 in
theorem ggX5_answer_X5_noteAgainst : GoodIn wsX5_answer wsX5_noteAgainst := goodIn_r _ [73, 2, 18, 14, 15, 16, 7, 17, 19, 20, 21, 58, 59, 74, 75, 76, 77, 78, 79, 80, 81, 82, 83, 84, 85, 86, 87] (by decide +kernel) (by decide +kernel)
set_option maxRecDepth 20000 in
theorem gX5_answer_X5_noteAgainst : GoodIn wsX5_answer (wsV RX5 97 RX5 yX5_noteAgainst wsX5_noteAgainst) := goodIn_app (goodIn_of _ (by decide +kernel)) ggX5_answer_X5_noteAgainst
theorem dX5_answer_0 : decode cX5_answer 0 = .ok (.aload_n 0, 1) := by decide +kernel
theorem dX5_answer_1 : decode cX5_answer 1 = .ok (.getfield 22, 3) := by decide +kernel
theorem dX5_answer_4 : decode cX5_answer 4 = .ok (.bipush 97, 2) := by decide +kernel
theorem dX5_answer_6 : decode cX5_answer 6 = .ok (.if_icmp .ne 18, 3) := by decide +kernel
theorem dX5_answer_9 : decode cX5_answer 9 = .ok (.aload_n 0, 1) := by decide +kernel
theorem dX5_answer_10 : decode cX5_answer 10 = .ok (.getfield 12, 3) := by decide +kernel
theorem dX5_answer_13 : decode cX5_answer 13 = .ok (.iload_n 1, 1) := by decide +kernel
theorem dX5_answer_14 : decode cX5_answer 14 = .ok (.aload_n 0, 1) := by decide +kernel
theorem dX5_answer_15 : decode cX5_answer 15 = .ok (.invokevirtual 65, 3) := by decide +kernel
theorem dX5_answer_18 : decode cX5_answer 18 = .ok (.invokevirtual 80, 3) := by decide +kernel
theorem dX5_answer_21 : decode cX5_answer 21 = .ok (.goto 20, 3) := by decide +kernel
theorem dX5_answer_24 : decode cX5_answer 24 = .ok (.aload_n 0, 1) := by decide +kernel
theorem dX5_answer_25 : decode cX5_answer 25 = .ok (.iload_n 1, 1) := by decide +kernel
theorem dX5_answer_26 : decode cX5_answer 26 = .ok (.invokevirtual 84, 3) := by decide +kernel
theorem dX5_answer_29 : decode cX5_answer 29 = .ok (.aload_n 0, 1) := by decide +kernel
theorem dX5_answer_30 : decode cX5_answer 30 = .ok (.invokevirtual 87, 3) := by decide +kernel
theorem dX5_answer_33 : decode cX5_answer 33 = .ok (.if_icmp .eq 7, 3) := by decide +kernel
theorem dX5_answer_36 : decode cX5_answer 36 = .ok (.iconst 1, 1) := by decide +kernel
theorem dX5_answer_37 : decode cX5_answer 37 = .ok (.goto 4, 3) := by decide +kernel
theorem dX5_answer_40 : decode cX5_answer 40 = .ok (.iconst 0, 1) := by decide +kernel
theorem dX5_answer_41 : decode cX5_answer 41 = .ok (.istore_n 2, 1) := by decide +kernel
theorem dX5_answer_42 : decode cX5_answer 42 = .ok (.aload_n 0, 1) := by decide +kernel
theorem dX5_answer_43 : decode cX5_answer 43 = .ok (.iload_n 2, 1) := by decide +kernel
theorem dX5_answer_44 : decode cX5_answer 44 = .ok (.ifCond .eq 14, 3) := by decide +kernel
theorem dX5_answer_47 : decode cX5_answer 47 = .ok (.aload_n 0, 1) := by decide +kernel
theorem dX5_answer_48 : decode cX5_answer 48 = .ok (.getfield 12, 3) := by decide +kernel
theorem dX5_answer_51 : decode cX5_answer 51 = .ok (.iload_n 1, 1) := by decide +kernel
theorem dX5_answer_52 : decode cX5_answer 52 = .ok (.invokevirtual 91, 3) := by decide +kernel
theorem dX5_answer_55 : decode cX5_answer 55 = .ok (.goto 11, 3) := by decide +kernel
theorem dX5_answer_58 : decode cX5_answer 58 = .ok (.aload_n 0, 1) := by decide +kernel
theorem dX5_answer_59 : decode cX5_answer 59 = .ok (.getfield 12, 3) := by decide +kernel
theorem dX5_answer_62 : decode cX5_answer 62 = .ok (.iload_n 1, 1) := by decide +kernel
theorem dX5_answer_63 : decode cX5_answer 63 = .ok (.invokevirtual 94, 3) := by decide +kernel
theorem dX5_answer_66 : decode cX5_answer 66 = .ok (.invokevirtual 97, 3) := by decide +kernel
theorem dX5_answer_69 : decode cX5_answer 69 = .ok (.aload_n 0, 1) := by decide +kernel
theorem dX5_answer_70 : decode cX5_answer 70 = .ok (.dup, 1) := by decide +kernel
theorem dX5_answer_71 : decode cX5_answer 71 = .ok (.getfield 43, 3) := by decide +kernel
theorem dX5_answer_74 : decode cX5_answer 74 = .ok (.iconst 1, 1) := by decide +kernel
theorem dX5_answer_75 : decode cX5_answer 75 = .ok (.iadd, 1) := by decide +kernel
theorem dX5_answer_76 : decode cX5_answer 76 = .ok (.putfield 43, 3) := by decide +kernel
theorem dX5_answer_79 : decode cX5_answer 79 = .ok (.iload_n 2, 1) := by decide +kernel
theorem dX5_answer_80 : decode cX5_answer 80 = .ok (.ireturn, 1) := by decide +kernel
set_option maxRecDepth 20000 in
theorem ggX5_hasHidden_X1_setAt : GoodIn wsX5_hasHidden wsX1_setAt := goodIn_r _ [7, 8, 9, 10, 11, 22, 23, 24, 25] (by decide +kernel) (by decide +kernel)
set_option maxRecDepth 20000 in
theorem gX5_hasHidden_X1_setAt : GoodIn wsX5_hasHidden (wsV RX5 101 RX1 yX1_setAt wsX1_setAt) := goodIn_app (goodIn_of _ (by decide +kernel)) ggX5_hasHidden_X1_setAt
set_option maxRecDepth 20000 in
theorem ggX5_hasHidden_X8_hasBit : GoodIn wsX5_hasHidden wsX8_hasBit := goodIn_r _ [13] (by decide +kernel) (by decide +kernel)
set_option maxRecDepth 20000 in
theorem gX5_hasHidden_X8_hasBit_n104 : GoodIn wsX5_hasHidden (wsX8_hasBit) := ggX5_hasHidden_X8_hasBit
theorem dX5_hasHidden_0 : decode cX5_hasHidden 0 = .ok (.aload_n 0, 1) := by decide +kernel
theorem dX5_hasHidden_1 : decode cX5_hasHidden 1 = .ok (.getfield 12, 3) := by decide +kernel
theorem dX5_hasHidden_4 : decode cX5_hasHidden 4 = .ok (.aload_n 0, 1) := by decide +kernel
theorem dX5_hasHidden_5 : decode cX5_hasHidden 5 = .ok (.getfield 34, 3) := by decide +kernel
theorem dX5_hasHidden_8 : decode cX5_hasHidden 8 = .ok (.invokevirtual 101, 3) := by decide +kernel
theorem dX5_hasHidden_11 : decode cX5_hasHidden 11 = .ok (.iload_n 1, 1) := by decide +kernel
theorem dX5_hasHidden_12 : decode cX5_hasHidden 12 = .ok (.invokestatic 104, 3) := by decide +kernel
theorem dX5_hasHidden_15 : decode cX5_hasHidden 15 = .ok (.ireturn, 1) := by decide +kernel
theorem dX5_drawsLie_0 : decode cX5_drawsLie 0 = .ok (.aload_n 0, 1) := by decide +kernel
theorem dX5_drawsLie_1 : decode cX5_drawsLie 1 = .ok (.getfield 22, 3) := by decide +kernel
theorem dX5_drawsLie_4 : decode cX5_drawsLie 4 = .ok (.bipush 108, 2) := by decide +kernel
theorem dX5_drawsLie_6 : decode cX5_drawsLie 6 = .ok (.if_icmp .ne 14, 3) := by decide +kernel
theorem dX5_drawsLie_9 : decode cX5_drawsLie 9 = .ok (.aload_n 0, 1) := by decide +kernel
theorem dX5_drawsLie_10 : decode cX5_drawsLie 10 = .ok (.getfield 40, 3) := by decide +kernel
theorem dX5_drawsLie_13 : decode cX5_drawsLie 13 = .ok (.aload_n 0, 1) := by decide +kernel
theorem dX5_drawsLie_14 : decode cX5_drawsLie 14 = .ok (.getfield 37, 3) := by decide +kernel
theorem dX5_drawsLie_17 : decode cX5_drawsLie 17 = .ok (.if_icmp .lt 5, 3) := by decide +kernel
theorem dX5_drawsLie_20 : decode cX5_drawsLie 20 = .ok (.iconst 0, 1) := by decide +kernel
theorem dX5_drawsLie_21 : decode cX5_drawsLie 21 = .ok (.ireturn, 1) := by decide +kernel
theorem dX5_drawsLie_22 : decode cX5_drawsLie 22 = .ok (.aload_n 0, 1) := by decide +kernel
theorem dX5_drawsLie_23 : decode cX5_drawsLie 23 = .ok (.aload_n 0, 1) := by decide +kernel
theorem dX5_drawsLie_24 : decode cX5_drawsLie 24 = .ok (.getfield 26, 3) := by decide +kernel
theorem dX5_drawsLie_27 : decode cX5_drawsLie 27 = .ok (.i2l, 1) := by decide +kernel
theorem dX5_drawsLie_28 : decode cX5_drawsLie 28 = .ok (.ldc2_w 107, 3) := by decide +kernel
theorem dX5_drawsLie_31 : decode cX5_drawsLie 31 = .ok (.lmul, 1) := by decide +kernel
theorem dX5_drawsLie_32 : decode cX5_drawsLie 32 = .ok (.ldc2_w 109, 3) := by decide +kernel
theorem dX5_drawsLie_35 : decode cX5_drawsLie 35 = .ok (.lrem, 1) := by decide +kernel
theorem dX5_drawsLie_36 : decode cX5_drawsLie 36 = .ok (.l2i, 1) := by decide +kernel
theorem dX5_drawsLie_37 : decode cX5_drawsLie 37 = .ok (.putfield 26, 3) := by decide +kernel
theorem dX5_drawsLie_40 : decode cX5_drawsLie 40 = .ok (.aload_n 0, 1) := by decide +kernel
theorem dX5_drawsLie_41 : decode cX5_drawsLie 41 = .ok (.getfield 26, 3) := by decide +kernel
theorem dX5_drawsLie_44 : decode cX5_drawsLie 44 = .ok (.iconst 3, 1) := by decide +kernel
theorem dX5_drawsLie_45 : decode cX5_drawsLie 45 = .ok (.irem, 1) := by decide +kernel
theorem dX5_drawsLie_46 : decode cX5_drawsLie 46 = .ok (.ifCond .eq 5, 3) := by decide +kernel
theorem dX5_drawsLie_49 : decode cX5_drawsLie 49 = .ok (.iconst 0, 1) := by decide +kernel
theorem dX5_drawsLie_50 : decode cX5_drawsLie 50 = .ok (.ireturn, 1) := by decide +kernel
theorem dX5_drawsLie_51 : decode cX5_drawsLie 51 = .ok (.aload_n 0, 1) := by decide +kernel
theorem dX5_drawsLie_52 : decode cX5_drawsLie 52 = .ok (.dup, 1) := by decide +kernel
theorem dX5_drawsLie_53 : decode cX5_drawsLie 53 = .ok (.getfield 40, 3) := by decide +kernel
theorem dX5_drawsLie_56 : decode cX5_drawsLie 56 = .ok (.iconst 1, 1) := by decide +kernel
theorem dX5_drawsLie_57 : decode cX5_drawsLie 57 = .ok (.iadd, 1) := by decide +kernel
theorem dX5_drawsLie_58 : decode cX5_drawsLie 58 = .ok (.putfield 40, 3) := by decide +kernel
theorem dX5_drawsLie_61 : decode cX5_drawsLie 61 = .ok (.iconst 1, 1) := by decide +kernel
theorem dX5_drawsLie_62 : decode cX5_drawsLie 62 = .ok (.ireturn, 1) := by decide +kernel
set_option maxRecDepth 20000 in
theorem ggX5_noteAgainst_X5_conflictsOf : GoodIn wsX5_noteAgainst wsX5_conflictsOf := goodIn_r _ [7, 2, 8, 9, 10, 15, 16, 17, 18, 19, 20, 21, 22] (by decide +kernel) (by decide +kernel)
set_option maxRecDepth 20000 in
theorem gX5_noteAgainst_X5_conflictsOf : GoodIn wsX5_noteAgainst (wsV RX5 54 RX5 yX5_conflictsOf wsX5_conflictsOf) := goodIn_app (goodIn_of _ (by decide +kernel)) ggX5_noteAgainst_X5_conflictsOf
set_option maxRecDepth 20000 in
theorem ggX5_noteAgainst_X8_hasBit : GoodIn wsX5_noteAgainst wsX8_hasBit := goodIn_r _ [12] (by decide +kernel) (by decide +kernel)
set_option maxRecDepth 20000 in
theorem gX5_noteAgainst_X8_hasBit_n104 : GoodIn wsX5_noteAgainst (wsX8_hasBit) := ggX5_noteAgainst_X8_hasBit
set_option maxRecDepth 20000 in
theorem ggX5_noteAgainst_X8_put : GoodIn wsX5_noteAgainst wsX8_put := goodIn_r _ [14] (by decide +kernel) (by decide +kernel)
set_option maxRecDepth 20000 in
theorem gX5_noteAgainst_X8_put_n46 : GoodIn wsX5_noteAgainst (wsX8_put) := ggX5_noteAgainst_X8_put
theorem dX5_noteAgainst_0 : decode cX5_noteAgainst 0 = .ok (.iconst 0, 1) := by decide +kernel
theorem dX5_noteAgainst_1 : decode cX5_noteAgainst 1 = .ok (.istore_n 2, 1) := by decide +kernel
theorem dX5_noteAgainst_2 : decode cX5_noteAgainst 2 = .ok (.iload_n 2, 1) := by decide +kernel
theorem dX5_noteAgainst_3 : decode cX5_noteAgainst 3 = .ok (.aload_n 0, 1) := by decide +kernel
theorem dX5_noteAgainst_4 : decode cX5_noteAgainst 4 = .ok (.getfield 12, 3) := by decide +kernel
theorem dX5_noteAgainst_7 : decode cX5_noteAgainst 7 = .ok (.getfield 58, 3) := by decide +kernel
theorem dX5_noteAgainst_10 : decode cX5_noteAgainst 10 = .ok (.if_icmp .ge 39, 3) := by decide +kernel
theorem dX5_noteAgainst_13 : decode cX5_noteAgainst 13 = .ok (.aload_n 0, 1) := by decide +kernel
theorem dX5_noteAgainst_14 : decode cX5_noteAgainst 14 = .ok (.iload_n 2, 1) := by decide +kernel
theorem dX5_noteAgainst_15 : decode cX5_noteAgainst 15 = .ok (.invokevirtual 54, 3) := by decide +kernel
theorem dX5_noteAgainst_18 : decode cX5_noteAgainst 18 = .ok (.istore_n 3, 1) := by decide +kernel
theorem dX5_noteAgainst_19 : decode cX5_noteAgainst 19 = .ok (.iload_n 1, 1) := by decide +kernel
theorem dX5_noteAgainst_20 : decode cX5_noteAgainst 20 = .ok (.iload_n 2, 1) := by decide +kernel
theorem dX5_noteAgainst_21 : decode cX5_noteAgainst 21 = .ok (.invokestatic 104, 3) := by decide +kernel
theorem dX5_noteAgainst_24 : decode cX5_noteAgainst 24 = .ok (.ifCond .eq 19, 3) := by decide +kernel
theorem dX5_noteAgainst_27 : decode cX5_noteAgainst 27 = .ok (.iload_n 3, 1) := by decide +kernel
theorem dX5_noteAgainst_28 : decode cX5_noteAgainst 28 = .ok (.iconst (-1), 1) := by decide +kernel
theorem dX5_noteAgainst_29 : decode cX5_noteAgainst 29 = .ok (.if_icmp .eq 14, 3) := by decide +kernel
theorem dX5_noteAgainst_32 : decode cX5_noteAgainst 32 = .ok (.aload_n 0, 1) := by decide +kernel
theorem dX5_noteAgainst_33 : decode cX5_noteAgainst 33 = .ok (.getfield 18, 3) := by decide +kernel
theorem dX5_noteAgainst_36 : decode cX5_noteAgainst 36 = .ok (.iload_n 2, 1) := by decide +kernel
theorem dX5_noteAgainst_37 : decode cX5_noteAgainst 37 = .ok (.iload_n 3, 1) := by decide +kernel
theorem dX5_noteAgainst_38 : decode cX5_noteAgainst 38 = .ok (.iconst 1, 1) := by decide +kernel
theorem dX5_noteAgainst_39 : decode cX5_noteAgainst 39 = .ok (.iadd, 1) := by decide +kernel
theorem dX5_noteAgainst_40 : decode cX5_noteAgainst 40 = .ok (.invokestatic 46, 3) := by decide +kernel
theorem dX5_noteAgainst_43 : decode cX5_noteAgainst 43 = .ok (.iinc 2 1, 3) := by decide +kernel
theorem dX5_noteAgainst_46 : decode cX5_noteAgainst 46 = .ok (.goto (-44), 3) := by decide +kernel
theorem dX5_noteAgainst_49 : decode cX5_noteAgainst 49 = .ok (.return_, 1) := by decide +kernel
set_option maxRecDepth 20000 in
theorem ggX5_bury_X8_hasBit : GoodIn wsX5_bury wsX8_hasBit := goodIn_r _ [5] (by decide +kernel) (by decide +kernel)
set_option maxRecDepth 20000 in
theorem gX5_bury_X8_hasBit_n104 : GoodIn wsX5_bury (wsX8_hasBit) := ggX5_bury_X8_hasBit
set_option maxRecDepth 20000 in
theorem ggX5_bury_X8_put : GoodIn wsX5_bury wsX8_put := goodIn_r _ [7] (by decide +kernel) (by decide +kernel)
set_option maxRecDepth 20000 in
theorem gX5_bury_X8_put_n46 : GoodIn wsX5_bury (wsX8_put) := ggX5_bury_X8_put
theorem dX5_bury_0 : decode cX5_bury 0 = .ok (.iconst 0, 1) := by decide +kernel
theorem dX5_bury_1 : decode cX5_bury 1 = .ok (.istore_n 2, 1) := by decide +kernel
theorem dX5_bury_2 : decode cX5_bury 2 = .ok (.iload_n 2, 1) := by decide +kernel
theorem dX5_bury_3 : decode cX5_bury 3 = .ok (.aload_n 0, 1) := by decide +kernel
theorem dX5_bury_4 : decode cX5_bury 4 = .ok (.getfield 12, 3) := by decide +kernel
theorem dX5_bury_7 : decode cX5_bury 7 = .ok (.getfield 58, 3) := by decide +kernel
theorem dX5_bury_10 : decode cX5_bury 10 = .ok (.if_icmp .ge 26, 3) := by decide +kernel
theorem dX5_bury_13 : decode cX5_bury 13 = .ok (.iload_n 1, 1) := by decide +kernel
theorem dX5_bury_14 : decode cX5_bury 14 = .ok (.iload_n 2, 1) := by decide +kernel
theorem dX5_bury_15 : decode cX5_bury 15 = .ok (.invokestatic 104, 3) := by decide +kernel
theorem dX5_bury_18 : decode cX5_bury 18 = .ok (.ifCond .eq 12, 3) := by decide +kernel
theorem dX5_bury_21 : decode cX5_bury 21 = .ok (.aload_n 0, 1) := by decide +kernel
theorem dX5_bury_22 : decode cX5_bury 22 = .ok (.getfield 18, 3) := by decide +kernel
theorem dX5_bury_25 : decode cX5_bury 25 = .ok (.iload_n 2, 1) := by decide +kernel
theorem dX5_bury_26 : decode cX5_bury 26 = .ok (.iconst (-1), 1) := by decide +kernel
theorem dX5_bury_27 : decode cX5_bury 27 = .ok (.invokestatic 46, 3) := by decide +kernel
theorem dX5_bury_30 : decode cX5_bury 30 = .ok (.iinc 2 1, 3) := by decide +kernel
theorem dX5_bury_33 : decode cX5_bury 33 = .ok (.goto (-31), 3) := by decide +kernel
theorem dX5_bury_36 : decode cX5_bury 36 = .ok (.return_, 1) := by decide +kernel
set_option maxRecDepth 20000 in
theorem ggX5_compare_X5_keepingCounter : GoodIn wsX5_compare wsX5_keepingCounter := goodIn_r _ [9, 2, 10, 11, 12, 8, 13, 14, 15, 16, 17, 18, 19, 20, 21, 22, 23, 24, 25, 26, 27, 28, 29, 30, 31, 32, 33, 34, 35, 36, 37, 38, 39, 40, 41, 42, 43, 44, 45, 46, 47, 48, 49, 50, 51, 52, 53, 54, 79, 80, 81, 82, 83, 84, 85, 86, 87, 88, 89, 90] (by decide +kernel) (by decide +kernel)
set_option maxRecDepth 20000 in
theorem gX5_compare_X5_keepingCounter : GoodIn wsX5_compare (wsV RX5 111 RX5 yX5_keepingCounter wsX5_keepingCounter) := goodIn_app (goodIn_of _ (by decide +kernel)) ggX5_compare_X5_keepingCounter
set_option maxRecDepth 20000 in
theorem ggX5_compare_X1_setAt : GoodIn wsX5_compare wsX1_setAt := goodIn_r _ [58, 59, 24, 25, 26, 87, 88, 89, 90] (by decide +kernel) (by decide +kernel)
set_option maxRecDepth 20000 in
theorem gX5_compare_X1_setAt : GoodIn wsX5_compare (wsV RX5 101 RX1 yX1_setAt wsX1_setAt) := goodIn_app (goodIn_of _ (by decide +kernel)) ggX5_compare_X1_setAt
set_option maxRecDepth 20000 in
theorem ggX5_compare_X8_lowestBit : GoodIn wsX5_compare wsX8_lowestBit := goodIn_r _ [61, 62, 32, 25, 33] (by decide +kernel) (by decide +kernel)
set_option maxRecDepth 20000 in
theorem gX5_compare_X8_lowestBit_n114 : GoodIn wsX5_compare (wsX8_lowestBit) := ggX5_compare_X8_lowestBit
set_option maxRecDepth 20000 in
theorem ggX5_compare_X5_others : GoodIn wsX5_compare wsX5_others := goodIn_r _ [66, 2, 67, 68, 69, 30, 70, 47, 71, 56, 57, 58, 59, 24, 25, 26, 72, 44, 45, 46, 79, 80, 81, 82, 83, 84, 85, 86, 87, 88, 89, 90] (by decide +kernel) (by decide +kernel)
set_option maxRecDepth 20000 in
theorem gX5_compare_X5_others : GoodIn wsX5_compare (wsV RX5 117 RX5 yX5_others wsX5_others) := goodIn_app (goodIn_of _ (by decide +kernel)) ggX5_compare_X5_others
set_option maxRecDepth 20000 in
theorem ggX5_compare_X1_agreeing : GoodIn wsX5_compare wsX1_agreeing := goodIn_r _ [31, 32, 25, 33, 34, 35, 36, 30, 37, 38, 24, 26, 39, 40, 41, 42, 43, 44, 45, 46, 47, 87, 88, 89, 90] (by decide +kernel) (by decide +kernel)
set_option maxRecDepth 20000 in
theorem gX5_compare_X1_agreeing : GoodIn wsX5_compare (wsV RX5 120 RX1 yX1_agreeing wsX1_agreeing) := goodIn_app (goodIn_of _ (by decide +kernel)) ggX5_compare_X1_agreeing
set_option maxRecDepth 20000 in
theorem ggX5_compare_X5_bury : GoodIn wsX5_compare wsX5_bury := goodIn_r _ [76, 2, 23, 32, 25, 33, 77, 78, 79, 80, 81, 82, 83, 84, 85, 86, 87, 88, 89, 90] (by decide +kernel) (by decide +kernel)
set_option maxRecDepth 20000 in
theorem gX5_compare_X5_bury : GoodIn wsX5_compare (wsV RX5 124 RX5 yX5_bury wsX5_bury) := goodIn_app (goodIn_of _ (by decide +kernel)) ggX5_compare_X5_bury
theorem dX5_compare_0 : decode cX5_compare 0 = .ok (.aload_n 0, 1) := by decide +kernel
theorem dX5_compare_1 : decode cX5_compare 1 = .ok (.getfield 22, 3) := by decide +kernel
theorem dX5_compare_4 : decode cX5_compare 4 = .ok (.bipush 97, 2) := by decide +kernel
theorem dX5_compare_6 : decode cX5_compare 6 = .ok (.if_icmp .ne 11, 3) := by decide +kernel
theorem dX5_compare_9 : decode cX5_compare 9 = .ok (.aload_n 0, 1) := by decide +kernel
theorem dX5_compare_10 : decode cX5_compare 10 = .ok (.iload_n 1, 1) := by decide +kernel
theorem dX5_compare_11 : decode cX5_compare 11 = .ok (.invokevirtual 111, 3) := by decide +kernel
theorem dX5_compare_14 : decode cX5_compare 14 = .ok (.goto 19, 3) := by decide +kernel
theorem dX5_compare_17 : decode cX5_compare 17 = .ok (.iload_n 1, 1) := by decide +kernel
theorem dX5_compare_18 : decode cX5_compare 18 = .ok (.aload_n 0, 1) := by decide +kernel
theorem dX5_compare_19 : decode cX5_compare 19 = .ok (.getfield 12, 3) := by decide +kernel
theorem dX5_compare_22 : decode cX5_compare 22 = .ok (.aload_n 0, 1) := by decide +kernel
theorem dX5_compare_23 : decode cX5_compare 23 = .ok (.getfield 34, 3) := by decide +kernel
theorem dX5_compare_26 : decode cX5_compare 26 = .ok (.invokevirtual 101, 3) := by decide +kernel
theorem dX5_compare_29 : decode cX5_compare 29 = .ok (.ixor, 1) := by decide +kernel
theorem dX5_compare_30 : decode cX5_compare 30 = .ok (.invokestatic 114, 3) := by decide +kernel
theorem dX5_compare_33 : decode cX5_compare 33 = .ok (.istore_n 2, 1) := by decide +kernel
theorem dX5_compare_34 : decode cX5_compare 34 = .ok (.aload_n 0, 1) := by decide +kernel
theorem dX5_compare_35 : decode cX5_compare 35 = .ok (.iload_n 2, 1) := by decide +kernel
theorem dX5_compare_36 : decode cX5_compare 36 = .ok (.ifCond .ge 11, 3) := by decide +kernel
theorem dX5_compare_39 : decode cX5_compare 39 = .ok (.aload_n 0, 1) := by decide +kernel
theorem dX5_compare_40 : decode cX5_compare 40 = .ok (.iload_n 1, 1) := by decide +kernel
theorem dX5_compare_41 : decode cX5_compare 41 = .ok (.invokevirtual 117, 3) := by decide +kernel
theorem dX5_compare_44 : decode cX5_compare 44 = .ok (.goto 12, 3) := by decide +kernel
theorem dX5_compare_47 : decode cX5_compare 47 = .ok (.aload_n 0, 1) := by decide +kernel
theorem dX5_compare_48 : decode cX5_compare 48 = .ok (.getfield 12, 3) := by decide +kernel
theorem dX5_compare_51 : decode cX5_compare 51 = .ok (.iload_n 1, 1) := by decide +kernel
theorem dX5_compare_52 : decode cX5_compare 52 = .ok (.iload_n 2, 1) := by decide +kernel
theorem dX5_compare_53 : decode cX5_compare 53 = .ok (.invokevirtual 120, 3) := by decide +kernel
theorem dX5_compare_56 : decode cX5_compare 56 = .ok (.invokevirtual 124, 3) := by decide +kernel
theorem dX5_compare_59 : decode cX5_compare 59 = .ok (.aload_n 0, 1) := by decide +kernel
theorem dX5_compare_60 : decode cX5_compare 60 = .ok (.dup, 1) := by decide +kernel
theorem dX5_compare_61 : decode cX5_compare 61 = .ok (.getfield 43, 3) := by decide +kernel
theorem dX5_compare_64 : decode cX5_compare 64 = .ok (.iconst 1, 1) := by decide +kernel
theorem dX5_compare_65 : decode cX5_compare 65 = .ok (.iadd, 1) := by decide +kernel
theorem dX5_compare_66 : decode cX5_compare 66 = .ok (.putfield 43, 3) := by decide +kernel
theorem dX5_compare_69 : decode cX5_compare 69 = .ok (.iload_n 2, 1) := by decide +kernel
theorem dX5_compare_70 : decode cX5_compare 70 = .ok (.ireturn, 1) := by decide +kernel
set_option maxRecDepth 20000 in
theorem ggX5_others_X1_numberOf : GoodIn wsX5_others wsX1_numberOf := goodIn_r _ [6, 7, 8, 9, 10, 5, 11, 12, 13, 14, 15, 28, 29, 30, 31] (by decide +kernel) (by decide +kernel)
set_option maxRecDepth 20000 in
theorem gX5_others_X1_numberOf : GoodIn wsX5_others (wsV RX5 127 RX1 yX1_numberOf wsX1_numberOf) := goodIn_app (goodIn_of _ (by decide +kernel)) ggX5_others_X1_numberOf
set_option maxRecDepth 20000 in
theorem ggX5_others_X1_everyone : GoodIn wsX5_others wsX1_everyone := goodIn_r _ [19, 7, 28, 29, 30, 31] (by decide +kernel) (by decide +kernel)
set_option maxRecDepth 20000 in
theorem gX5_others_X1_everyone : GoodIn wsX5_others (wsV RX5 130 RX1 yX1_everyone wsX1_everyone) := goodIn_app (goodIn_of _ (by decide +kernel)) ggX5_others_X1_everyone
theorem dX5_others_0 : decode cX5_others 0 = .ok (.aload_n 0, 1) := by decide +kernel
theorem dX5_others_1 : decode cX5_others 1 = .ok (.getfield 12, 3) := by decide +kernel
theorem dX5_others_4 : decode cX5_others 4 = .ok (.iload_n 1, 1) := by decide +kernel
theorem dX5_others_5 : decode cX5_others 5 = .ok (.invokevirtual 127, 3) := by decide +kernel
theorem dX5_others_8 : decode cX5_others 8 = .ok (.istore_n 2, 1) := by decide +kernel
theorem dX5_others_9 : decode cX5_others 9 = .ok (.iload_n 2, 1) := by decide +kernel
theorem dX5_others_10 : decode cX5_others 10 = .ok (.ifCond .ge 13, 3) := by decide +kernel
theorem dX5_others_13 : decode cX5_others 13 = .ok (.aload_n 0, 1) := by decide +kernel
theorem dX5_others_14 : decode cX5_others 14 = .ok (.getfield 12, 3) := by decide +kernel
theorem dX5_others_17 : decode cX5_others 17 = .ok (.invokevirtual 130, 3) := by decide +kernel
theorem dX5_others_20 : decode cX5_others 20 = .ok (.goto 16, 3) := by decide +kernel
theorem dX5_others_23 : decode cX5_others 23 = .ok (.aload_n 0, 1) := by decide +kernel
theorem dX5_others_24 : decode cX5_others 24 = .ok (.getfield 12, 3) := by decide +kernel
theorem dX5_others_27 : decode cX5_others 27 = .ok (.invokevirtual 130, 3) := by decide +kernel
theorem dX5_others_30 : decode cX5_others 30 = .ok (.iconst 1, 1) := by decide +kernel
theorem dX5_others_31 : decode cX5_others 31 = .ok (.iload_n 2, 1) := by decide +kernel
theorem dX5_others_32 : decode cX5_others 32 = .ok (.ishl, 1) := by decide +kernel
theorem dX5_others_33 : decode cX5_others 33 = .ok (.iconst (-1), 1) := by decide +kernel
theorem dX5_others_34 : decode cX5_others 34 = .ok (.ixor, 1) := by decide +kernel
theorem dX5_others_35 : decode cX5_others 35 = .ok (.iand, 1) := by decide +kernel
theorem dX5_others_36 : decode cX5_others 36 = .ok (.ireturn, 1) := by decide +kernel
set_option maxRecDepth 20000 in
theorem ggX5_keepingCounter_X5_living : GoodIn wsX5_keepingCounter wsX5_living := goodIn_r _ [6, 1, 7, 8, 9, 5, 10, 11, 12, 13, 14, 15, 16, 17, 18, 19, 48, 49, 50, 51, 52, 53, 54, 55, 56, 57, 58, 59] (by decide +kernel) (by decide +kernel)
set_option maxRecDepth 20000 in
theorem gX5_keepingCounter_X5_living : GoodIn wsX5_keepingCounter (wsV RX5 65 RX5 yX5_living wsX5_living) := goodIn_app (goodIn_of _ (by decide +kernel)) ggX5_keepingCounter_X5_living
set_option maxRecDepth 20000 in
theorem ggX5_keepingCounter_X1_agreeing : GoodIn wsX5_keepingCounter wsX1_agreeing := goodIn_r _ [24, 25, 18, 26, 27, 28, 29, 23, 30, 31, 17, 19, 32, 33, 34, 35, 36, 37, 38, 39, 40, 56, 57, 58, 59] (by decide +kernel) (by decide +kernel)
set_option maxRecDepth 20000 in
theorem gX5_keepingCounter_X1_agreeing : GoodIn wsX5_keepingCounter (wsV RX5 120 RX1 yX1_agreeing wsX1_agreeing) := goodIn_app (goodIn_of _ (by decide +kernel)) ggX5_keepingCounter_X1_agreeing
set_option maxRecDepth 20000 in
theorem ggX5_keepingCounter_J6_bitCount_0f7a4 : GoodIn wsX5_keepingCounter wsJ6_bitCount_0f7a4 := goodIn_r _ [44, 45, 46, 47] (by decide +kernel) (by decide +kernel)
set_option maxRecDepth 20000 in
theorem gX5_keepingCounter_J6_bitCount_0f7a4 : GoodIn wsX5_keepingCounter (va_wsS RX5 69 yJ6_bitCount_0f7a4 wsJ6_bitCount_0f7a4) := goodIn_app (goodIn_of _ (by decide +kernel)) ggX5_keepingCounter_J6_bitCount_0f7a4
theorem dX5_keepingCounter_0 : decode cX5_keepingCounter 0 = .ok (.aload_n 0, 1) := by decide +kernel
theorem dX5_keepingCounter_1 : decode cX5_keepingCounter 1 = .ok (.invokevirtual 65, 3) := by decide +kernel
theorem dX5_keepingCounter_4 : decode cX5_keepingCounter 4 = .ok (.istore_n 2, 1) := by decide +kernel
theorem dX5_keepingCounter_5 : decode cX5_keepingCounter 5 = .ok (.iconst 0, 1) := by decide +kernel
theorem dX5_keepingCounter_6 : decode cX5_keepingCounter 6 = .ok (.istore_n 3, 1) := by decide +kernel
theorem dX5_keepingCounter_7 : decode cX5_keepingCounter 7 = .ok (.iconst (-1), 1) := by decide +kernel
theorem dX5_keepingCounter_8 : decode cX5_keepingCounter 8 = .ok (.istore 4, 2) := by decide +kernel
theorem dX5_keepingCounter_10 : decode cX5_keepingCounter 10 = .ok (.iconst 0, 1) := by decide +kernel
theorem dX5_keepingCounter_11 : decode cX5_keepingCounter 11 = .ok (.istore 5, 2) := by decide +kernel
theorem dX5_keepingCounter_13 : decode cX5_keepingCounter 13 = .ok (.iload 5, 2) := by decide +kernel
theorem dX5_keepingCounter_15 : decode cX5_keepingCounter 15 = .ok (.aload_n 0, 1) := by decide +kernel
theorem dX5_keepingCounter_16 : decode cX5_keepingCounter 16 = .ok (.getfield 12, 3) := by decide +kernel
theorem dX5_keepingCounter_19 : decode cX5_keepingCounter 19 = .ok (.getfield 133, 3) := by decide +kernel
theorem dX5_keepingCounter_22 : decode cX5_keepingCounter 22 = .ok (.if_icmp .ge 41, 3) := by decide +kernel
theorem dX5_keepingCounter_25 : decode cX5_keepingCounter 25 = .ok (.iload_n 2, 1) := by decide +kernel
theorem dX5_keepingCounter_26 : decode cX5_keepingCounter 26 = .ok (.aload_n 0, 1) := by decide +kernel
theorem dX5_keepingCounter_27 : decode cX5_keepingCounter 27 = .ok (.getfield 12, 3) := by decide +kernel
theorem dX5_keepingCounter_30 : decode cX5_keepingCounter 30 = .ok (.iload_n 1, 1) := by decide +kernel
theorem dX5_keepingCounter_31 : decode cX5_keepingCounter 31 = .ok (.iload 5, 2) := by decide +kernel
theorem dX5_keepingCounter_33 : decode cX5_keepingCounter 33 = .ok (.invokevirtual 120, 3) := by decide +kernel
theorem dX5_keepingCounter_36 : decode cX5_keepingCounter 36 = .ok (.iconst (-1), 1) := by decide +kernel
theorem dX5_keepingCounter_37 : decode cX5_keepingCounter 37 = .ok (.ixor, 1) := by decide +kernel
theorem dX5_keepingCounter_38 : decode cX5_keepingCounter 38 = .ok (.iand, 1) := by decide +kernel
theorem dX5_keepingCounter_39 : decode cX5_keepingCounter 39 = .ok (.invokestatic 69, 3) := by decide +kernel
theorem dX5_keepingCounter_42 : decode cX5_keepingCounter 42 = .ok (.istore 6, 2) := by decide +kernel
theorem dX5_keepingCounter_44 : decode cX5_keepingCounter 44 = .ok (.iload 6, 2) := by decide +kernel
theorem dX5_keepingCounter_46 : decode cX5_keepingCounter 46 = .ok (.iload_n 3, 1) := by decide +kernel
theorem dX5_keepingCounter_47 : decode cX5_keepingCounter 47 = .ok (.if_icmp .le 10, 3) := by decide +kernel
theorem dX5_keepingCounter_50 : decode cX5_keepingCounter 50 = .ok (.iload 6, 2) := by decide +kernel
theorem dX5_keepingCounter_52 : decode cX5_keepingCounter 52 = .ok (.istore_n 3, 1) := by decide +kernel
theorem dX5_keepingCounter_53 : decode cX5_keepingCounter 53 = .ok (.iload 5, 2) := by decide +kernel
theorem dX5_keepingCounter_55 : decode cX5_keepingCounter 55 = .ok (.istore 4, 2) := by decide +kernel
theorem dX5_keepingCounter_57 : decode cX5_keepingCounter 57 = .ok (.iinc 5 1, 3) := by decide +kernel
theorem dX5_keepingCounter_60 : decode cX5_keepingCounter 60 = .ok (.goto (-47), 3) := by decide +kernel
theorem dX5_keepingCounter_63 : decode cX5_keepingCounter 63 = .ok (.iload 4, 2) := by decide +kernel
theorem dX5_keepingCounter_65 : decode cX5_keepingCounter 65 = .ok (.ireturn, 1) := by decide +kernel
theorem dX6_init_0 : decode cX6_init 0 = .ok (.aload_n 0, 1) := by decide +kernel
theorem dX6_init_1 : decode cX6_init 1 = .ok (.invokespecial 1, 3) := by decide +kernel
theorem dX6_init_4 : decode cX6_init 4 = .ok (.aload_n 0, 1) := by decide +kernel
theorem dX6_init_5 : decode cX6_init 5 = .ok (.sipush 729, 3) := by decide +kernel
theorem dX6_init_8 : decode cX6_init 8 = .ok (.newarray .int, 2) := by decide +kernel
theorem dX6_init_10 : decode cX6_init 10 = .ok (.putfield 9, 3) := by decide +kernel
theorem dX6_init_13 : decode cX6_init 13 = .ok (.aload_n 0, 1) := by decide +kernel
theorem dX6_init_14 : decode cX6_init 14 = .ok (.sipush 729, 3) := by decide +kernel
theorem dX6_init_17 : decode cX6_init 17 = .ok (.newarray .int, 2) := by decide +kernel
theorem dX6_init_19 : decode cX6_init 19 = .ok (.putfield 13, 3) := by decide +kernel
theorem dX6_init_22 : decode cX6_init 22 = .ok (.return_, 1) := by decide +kernel
set_option maxRecDepth 20000 in
theorem ggX6_areOrdered_X6_forcedMistakes : GoodIn wsX6_areOrdered wsX6_forcedMistakes := goodIn_r _ [5, 6, 7, 8, 4, 9, 10, 11, 12, 13, 14, 15, 16, 17, 18, 19, 20, 21, 22, 23, 24, 25, 26, 27, 28, 29, 30, 31, 32, 33, 34, 35, 36, 37, 38, 39, 40, 41, 42, 43, 44, 45, 46, 47, 48, 49, 50, 51, 52, 53, 54, 55, 56, 57, 58, 59, 60, 61, 62, 63, 94, 95, 96, 90, 91, 92, 93] (by decide +kernel) (by decide +kernel)
set_option maxRecDepth 20000 in
theorem gX6_areOrdered_X6_forcedMistakes : GoodIn wsX6_areOrdered (wsV RX6 22 RX6 yX6_forcedMistakes wsX6_forcedMistakes) := goodIn_app (goodIn_of _ (by decide +kernel)) ggX6_areOrdered_X6_forcedMistakes
set_option maxRecDepth 20000 in
theorem ggX6_areOrdered_X1_greatestShattered : GoodIn wsX6_areOrdered wsX1_greatestShattered := goodIn_r _ [67, 68, 69, 43, 44, 45, 46, 47, 48, 70, 71, 72, 20, 73, 22, 74, 75, 76, 77, 78, 26, 24, 27, 79, 80, 81, 82, 83, 84, 85, 90, 91, 92, 93] (by decide +kernel) (by decide +kernel)
set_option maxRecDepth 20000 in
theorem gX6_areOrdered_X1_greatestShattered : GoodIn wsX6_areOrdered (wsV RX6 26 RX1 yX1_greatestShattered wsX1_greatestShattered) := goodIn_app (goodIn_of _ (by decide +kernel)) ggX6_areOrdered_X1_greatestShattered
set_option maxRecDepth 20000 in
theorem ggX6_areOrdered_X6_leastDepth : GoodIn wsX6_areOrdered wsX6_leastDepth := goodIn_r _ [89, 6, 7, 8, 4, 9, 10, 11, 12, 13, 14, 15, 16, 17, 18, 19, 20, 21, 22, 23, 24, 25, 26, 27, 28, 29, 30, 31, 32, 33, 34, 35, 36, 37, 38, 39, 40, 41, 42, 43, 44, 45, 46, 47, 48, 49, 50, 51, 52, 53, 54, 55, 56, 57, 58, 59, 60, 61, 62, 63, 94, 95, 96, 90, 91, 92, 93] (by decide +kernel) (by decide +kernel)
set_option maxRecDepth 20000 in
theorem gX6_areOrdered_X6_leastDepth : GoodIn wsX6_areOrdered (wsV RX6 30 RX6 yX6_leastDepth wsX6_leastDepth) := goodIn_app (goodIn_of _ (by decide +kernel)) ggX6_areOrdered_X6_leastDepth
theorem dX6_areOrdered_0 : decode cX6_areOrdered 0 = .ok (.aload_n 1, 1) := by decide +kernel
theorem dX6_areOrdered_1 : decode cX6_areOrdered 1 = .ok (.getfield 16, 3) := by decide +kernel
theorem dX6_areOrdered_4 : decode cX6_areOrdered 4 = .ok (.iconst 2, 1) := by decide +kernel
theorem dX6_areOrdered_5 : decode cX6_areOrdered 5 = .ok (.if_icmp .ge 5, 3) := by decide +kernel
theorem dX6_areOrdered_8 : decode cX6_areOrdered 8 = .ok (.iconst 1, 1) := by decide +kernel
theorem dX6_areOrdered_9 : decode cX6_areOrdered 9 = .ok (.ireturn, 1) := by decide +kernel
theorem dX6_areOrdered_10 : decode cX6_areOrdered 10 = .ok (.aload_n 0, 1) := by decide +kernel
theorem dX6_areOrdered_11 : decode cX6_areOrdered 11 = .ok (.aload_n 1, 1) := by decide +kernel
theorem dX6_areOrdered_12 : decode cX6_areOrdered 12 = .ok (.invokevirtual 22, 3) := by decide +kernel
theorem dX6_areOrdered_15 : decode cX6_areOrdered 15 = .ok (.istore_n 2, 1) := by decide +kernel
theorem dX6_areOrdered_16 : decode cX6_areOrdered 16 = .ok (.aload_n 1, 1) := by decide +kernel
theorem dX6_areOrdered_17 : decode cX6_areOrdered 17 = .ok (.invokevirtual 26, 3) := by decide +kernel
theorem dX6_areOrdered_20 : decode cX6_areOrdered 20 = .ok (.iload_n 2, 1) := by decide +kernel
theorem dX6_areOrdered_21 : decode cX6_areOrdered 21 = .ok (.if_icmp .gt 16, 3) := by decide +kernel
theorem dX6_areOrdered_24 : decode cX6_areOrdered 24 = .ok (.iload_n 2, 1) := by decide +kernel
theorem dX6_areOrdered_25 : decode cX6_areOrdered 25 = .ok (.aload_n 0, 1) := by decide +kernel
theorem dX6_areOrdered_26 : decode cX6_areOrdered 26 = .ok (.aload_n 1, 1) := by decide +kernel
theorem dX6_areOrdered_27 : decode cX6_areOrdered 27 = .ok (.invokevirtual 30, 3) := by decide +kernel
theorem dX6_areOrdered_30 : decode cX6_areOrdered 30 = .ok (.if_icmp .gt 7, 3) := by decide +kernel
theorem dX6_areOrdered_33 : decode cX6_areOrdered 33 = .ok (.iconst 1, 1) := by decide +kernel
theorem dX6_areOrdered_34 : decode cX6_areOrdered 34 = .ok (.goto 4, 3) := by decide +kernel
theorem dX6_areOrdered_37 : decode cX6_areOrdered 37 = .ok (.iconst 0, 1) := by decide +kernel
theorem dX6_areOrdered_38 : decode cX6_areOrdered 38 = .ok (.ireturn, 1) := by decide +kernel
set_option maxRecDepth 20000 in
theorem ggX6_leastDepth_X6_worthOfAll : GoodIn wsX6_leastDepth wsX6_worthOfAll := goodIn_r _ [5, 6, 7, 8, 9, 4, 10, 11, 12, 13, 14, 15, 16, 17, 18, 19, 20, 21, 22, 23, 24, 25, 26, 27, 28, 29, 30, 31, 32, 33, 34, 35, 36, 37, 38, 39, 40, 41, 42, 43, 44, 45, 46, 47, 48, 49, 50, 51, 52, 53, 54, 55, 56, 57, 58, 59, 60, 61, 62, 63, 64, 65, 66] (by decide +kernel) (by decide +kernel)
set_option maxRecDepth 20000 in
theorem gX6_leastDepth_X6_worthOfAll : GoodIn wsX6_leastDepth (wsV RX6 33 RX6 yX6_worthOfAll wsX6_worthOfAll) := goodIn_app (goodIn_of _ (by decide +kernel)) ggX6_leastDepth_X6_worthOfAll
theorem dX6_leastDepth_0 : decode cX6_leastDepth 0 = .ok (.aload_n 0, 1) := by decide +kernel
theorem dX6_leastDepth_1 : decode cX6_leastDepth 1 = .ok (.aload_n 1, 1) := by decide +kernel
theorem dX6_leastDepth_2 : decode cX6_leastDepth 2 = .ok (.iconst 0, 1) := by decide +kernel
theorem dX6_leastDepth_3 : decode cX6_leastDepth 3 = .ok (.invokevirtual 33, 3) := by decide +kernel
theorem dX6_leastDepth_6 : decode cX6_leastDepth 6 = .ok (.ireturn, 1) := by decide +kernel
set_option maxRecDepth 20000 in
theorem ggX6_forcedMistakes_X6_worthOfAll : GoodIn wsX6_forcedMistakes wsX6_worthOfAll := goodIn_r _ [5, 6, 7, 8, 9, 4, 10, 11, 12, 13, 14, 15, 16, 17, 18, 19, 20, 21, 22, 23, 24, 25, 26, 27, 28, 29, 30, 31, 32, 33, 34, 35, 36, 37, 38, 39, 40, 41, 42, 43, 44, 45, 46, 47, 48, 49, 50, 51, 52, 53, 54, 55, 56, 57, 58, 59, 60, 61, 62, 63, 64, 65, 66] (by decide +kernel) (by decide +kernel)
set_option maxRecDepth 20000 in
theorem gX6_forcedMistakes_X6_worthOfAll : GoodIn wsX6_forcedMistakes (wsV RX6 33 RX6 yX6_worthOfAll wsX6_worthOfAll) := goodIn_app (goodIn_of _ (by decide +kernel)) ggX6_forcedMistakes_X6_worthOfAll
theorem dX6_forcedMistakes_0 : decode cX6_forcedMistakes 0 = .ok (.aload_n 0, 1) := by decide +kernel
theorem dX6_forcedMistakes_1 : decode cX6_forcedMistakes 1 = .ok (.aload_n 1, 1) := by decide +kernel
theorem dX6_forcedMistakes_2 : decode cX6_forcedMistakes 2 = .ok (.iconst 1, 1) := by decide +kernel
theorem dX6_forcedMistakes_3 : decode cX6_forcedMistakes 3 = .ok (.invokevirtual 33, 3) := by decide +kernel
theorem dX6_forcedMistakes_6 : decode cX6_forcedMistakes 6 = .ok (.ireturn, 1) := by decide +kernel
set_option maxRecDepth 20000 in
theorem ggX6_worthOfAll_X6_fillGroups : GoodIn wsX6_worthOfAll wsX6_fillGroups := goodIn_r _ [6, 7, 8, 9, 10, 11, 12, 13, 14, 15, 16, 17, 18, 19, 20, 21, 22, 23, 24, 25, 26, 27, 28, 29, 59, 60, 61, 62, 56, 57, 58] (by decide +kernel) (by decide +kernel)
set_option maxRecDepth 20000 in
theorem gX6_worthOfAll_X6_fillGroups : GoodIn wsX6_worthOfAll (wsV RX6 37 RX6 yX6_fillGroups wsX6_fillGroups) := goodIn_app (goodIn_of _ (by decide +kernel)) ggX6_worthOfAll_X6_fillGroups
set_option maxRecDepth 20000 in
theorem ggX6_worthOfAll_X6_isSettled : GoodIn wsX6_worthOfAll wsX6_isSettled := goodIn_r _ [33, 8, 18, 16, 19, 34, 35, 36, 37, 38, 39, 40, 56, 57, 58] (by decide +kernel) (by decide +kernel)
set_option maxRecDepth 20000 in
theorem gX6_worthOfAll_X6_isSettled : GoodIn wsX6_worthOfAll (wsV RX6 40 RX6 yX6_isSettled wsX6_isSettled) := goodIn_app (goodIn_of _ (by decide +kernel)) ggX6_worthOfAll_X6_isSettled
set_option maxRecDepth 20000 in
theorem ggX6_worthOfAll_X6_worthFrom : GoodIn wsX6_worthOfAll wsX6_worthFrom := goodIn_r _ [44, 7, 1, 45, 46, 47, 48, 49, 50, 51, 52, 53, 54, 5, 55, 8, 18, 16, 19, 56, 57, 58] (by decide +kernel) (by decide +kernel)
set_option maxRecDepth 20000 in
theorem gX6_worthOfAll_X6_worthFrom : GoodIn wsX6_worthOfAll (wsV RX6 44 RX6 yX6_worthFrom wsX6_worthFrom) := goodIn_app (goodIn_of _ (by decide +kernel)) ggX6_worthOfAll_X6_worthFrom
set_option maxRecDepth 20000 in
theorem ggX6_worthOfAll_X8_put : GoodIn wsX6_worthOfAll wsX8_put := goodIn_r _ [17] (by decide +kernel) (by decide +kernel)
set_option maxRecDepth 20000 in
theorem gX6_worthOfAll_X8_put_n48 : GoodIn wsX6_worthOfAll (wsX8_put) := ggX6_worthOfAll_X8_put
set_option maxRecDepth 20000 in
theorem ggX6_worthOfAll_X8_at : GoodIn wsX6_worthOfAll wsX8_at := goodIn_r _ [19] (by decide +kernel) (by decide +kernel)
set_option maxRecDepth 20000 in
theorem gX6_worthOfAll_X8_at_n54 : GoodIn wsX6_worthOfAll (wsX8_at) := ggX6_worthOfAll_X8_at
theorem dX6_worthOfAll_0 : decode cX6_worthOfAll 0 = .ok (.aload_n 0, 1) := by decide +kernel
theorem dX6_worthOfAll_1 : decode cX6_worthOfAll 1 = .ok (.aload_n 1, 1) := by decide +kernel
theorem dX6_worthOfAll_2 : decode cX6_worthOfAll 2 = .ok (.invokevirtual 37, 3) := by decide +kernel
theorem dX6_worthOfAll_5 : decode cX6_worthOfAll 5 = .ok (.iconst 1, 1) := by decide +kernel
theorem dX6_worthOfAll_6 : decode cX6_worthOfAll 6 = .ok (.isub, 1) := by decide +kernel
theorem dX6_worthOfAll_7 : decode cX6_worthOfAll 7 = .ok (.istore_n 3, 1) := by decide +kernel
theorem dX6_worthOfAll_8 : decode cX6_worthOfAll 8 = .ok (.iload_n 3, 1) := by decide +kernel
theorem dX6_worthOfAll_9 : decode cX6_worthOfAll 9 = .ok (.ifCond .lt 35, 3) := by decide +kernel
theorem dX6_worthOfAll_12 : decode cX6_worthOfAll 12 = .ok (.aload_n 0, 1) := by decide +kernel
theorem dX6_worthOfAll_13 : decode cX6_worthOfAll 13 = .ok (.getfield 13, 3) := by decide +kernel
theorem dX6_worthOfAll_16 : decode cX6_worthOfAll 16 = .ok (.iload_n 3, 1) := by decide +kernel
theorem dX6_worthOfAll_17 : decode cX6_worthOfAll 17 = .ok (.aload_n 0, 1) := by decide +kernel
theorem dX6_worthOfAll_18 : decode cX6_worthOfAll 18 = .ok (.iload_n 3, 1) := by decide +kernel
theorem dX6_worthOfAll_19 : decode cX6_worthOfAll 19 = .ok (.invokevirtual 40, 3) := by decide +kernel
theorem dX6_worthOfAll_22 : decode cX6_worthOfAll 22 = .ok (.ifCond .eq 7, 3) := by decide +kernel
theorem dX6_worthOfAll_25 : decode cX6_worthOfAll 25 = .ok (.iconst 0, 1) := by decide +kernel
theorem dX6_worthOfAll_26 : decode cX6_worthOfAll 26 = .ok (.goto 9, 3) := by decide +kernel
theorem dX6_worthOfAll_29 : decode cX6_worthOfAll 29 = .ok (.aload_n 0, 1) := by decide +kernel
theorem dX6_worthOfAll_30 : decode cX6_worthOfAll 30 = .ok (.iload_n 3, 1) := by decide +kernel
theorem dX6_worthOfAll_31 : decode cX6_worthOfAll 31 = .ok (.iload_n 2, 1) := by decide +kernel
theorem dX6_worthOfAll_32 : decode cX6_worthOfAll 32 = .ok (.invokevirtual 44, 3) := by decide +kernel
theorem dX6_worthOfAll_35 : decode cX6_worthOfAll 35 = .ok (.invokestatic 48, 3) := by decide +kernel
theorem dX6_worthOfAll_38 : decode cX6_worthOfAll 38 = .ok (.iinc 3 (-1), 3) := by decide +kernel
theorem dX6_worthOfAll_41 : decode cX6_worthOfAll 41 = .ok (.goto (-33), 3) := by decide +kernel
theorem dX6_worthOfAll_44 : decode cX6_worthOfAll 44 = .ok (.aload_n 0, 1) := by decide +kernel
theorem dX6_worthOfAll_45 : decode cX6_worthOfAll 45 = .ok (.getfield 13, 3) := by decide +kernel
theorem dX6_worthOfAll_48 : decode cX6_worthOfAll 48 = .ok (.iconst 0, 1) := by decide +kernel
theorem dX6_worthOfAll_49 : decode cX6_worthOfAll 49 = .ok (.invokestatic 54, 3) := by decide +kernel
theorem dX6_worthOfAll_52 : decode cX6_worthOfAll 52 = .ok (.ireturn, 1) := by decide +kernel
set_option maxRecDepth 20000 in
theorem ggX6_fillGroups_X1_everyone : GoodIn wsX6_fillGroups wsX1_everyone := goodIn_r _ [7, 8, 24, 25, 26, 27] (by decide +kernel) (by decide +kernel)
set_option maxRecDepth 20000 in
theorem gX6_fillGroups_X1_everyone : GoodIn wsX6_fillGroups (wsV RX6 62 RX1 yX1_everyone wsX1_everyone) := goodIn_app (goodIn_of _ (by decide +kernel)) ggX6_fillGroups_X1_everyone
set_option maxRecDepth 20000 in
theorem ggX6_fillGroups_X8_put : GoodIn wsX6_fillGroups wsX8_put := goodIn_r _ [11] (by decide +kernel) (by decide +kernel)
set_option maxRecDepth 20000 in
theorem gX6_fillGroups_X8_put_n48 : GoodIn wsX6_fillGroups (wsX8_put) := ggX6_fillGroups_X8_put
set_option maxRecDepth 20000 in
theorem ggX6_fillGroups_X8_at : GoodIn wsX6_fillGroups wsX8_at := goodIn_r _ [13] (by decide +kernel) (by decide +kernel)
set_option maxRecDepth 20000 in
theorem gX6_fillGroups_X8_at_n54 : GoodIn wsX6_fillGroups (wsX8_at) := ggX6_fillGroups_X8_at
set_option maxRecDepth 20000 in
theorem ggX6_fillGroups_X1_holding : GoodIn wsX6_fillGroups wsX1_holding := goodIn_r _ [17, 18, 12, 10, 13, 24, 25, 26, 27] (by decide +kernel) (by decide +kernel)
set_option maxRecDepth 20000 in
theorem gX6_fillGroups_X1_holding : GoodIn wsX6_fillGroups (wsV RX6 65 RX1 yX1_holding wsX1_holding) := goodIn_app (goodIn_of _ (by decide +kernel)) ggX6_fillGroups_X1_holding
set_option maxRecDepth 20000 in
theorem ggX6_fillGroups_X1_lacking : GoodIn wsX6_fillGroups wsX1_lacking := goodIn_r _ [22, 18, 23, 4, 5, 6, 7, 8, 12, 10, 13, 24, 25, 26, 27] (by decide +kernel) (by decide +kernel)
set_option maxRecDepth 20000 in
theorem gX6_fillGroups_X1_lacking : GoodIn wsX6_fillGroups (wsV RX6 69 RX1 yX1_lacking wsX1_lacking) := goodIn_app (goodIn_of _ (by decide +kernel)) ggX6_fillGroups_X1_lacking
theorem dX6_fillGroups_0 : decode cX6_fillGroups 0 = .ok (.iconst 1, 1) := by decide +kernel
theorem dX6_fillGroups_1 : decode cX6_fillGroups 1 = .ok (.istore_n 2, 1) := by decide +kernel
theorem dX6_fillGroups_2 : decode cX6_fillGroups 2 = .ok (.aload_n 0, 1) := by decide +kernel
theorem dX6_fillGroups_3 : decode cX6_fillGroups 3 = .ok (.aload_n 1, 1) := by decide +kernel
theorem dX6_fillGroups_4 : decode cX6_fillGroups 4 = .ok (.getfield 58, 3) := by decide +kernel
theorem dX6_fillGroups_7 : decode cX6_fillGroups 7 = .ok (.putfield 61, 3) := by decide +kernel
theorem dX6_fillGroups_10 : decode cX6_fillGroups 10 = .ok (.aload_n 0, 1) := by decide +kernel
theorem dX6_fillGroups_11 : decode cX6_fillGroups 11 = .ok (.getfield 9, 3) := by decide +kernel
theorem dX6_fillGroups_14 : decode cX6_fillGroups 14 = .ok (.iconst 0, 1) := by decide +kernel
theorem dX6_fillGroups_15 : decode cX6_fillGroups 15 = .ok (.aload_n 1, 1) := by decide +kernel
theorem dX6_fillGroups_16 : decode cX6_fillGroups 16 = .ok (.invokevirtual 62, 3) := by decide +kernel
theorem dX6_fillGroups_19 : decode cX6_fillGroups 19 = .ok (.invokestatic 48, 3) := by decide +kernel
theorem dX6_fillGroups_22 : decode cX6_fillGroups 22 = .ok (.iconst 0, 1) := by decide +kernel
theorem dX6_fillGroups_23 : decode cX6_fillGroups 23 = .ok (.istore_n 3, 1) := by decide +kernel
theorem dX6_fillGroups_24 : decode cX6_fillGroups 24 = .ok (.iload_n 3, 1) := by decide +kernel
theorem dX6_fillGroups_25 : decode cX6_fillGroups 25 = .ok (.aload_n 0, 1) := by decide +kernel
theorem dX6_fillGroups_26 : decode cX6_fillGroups 26 = .ok (.getfield 61, 3) := by decide +kernel
theorem dX6_fillGroups_29 : decode cX6_fillGroups 29 = .ok (.if_icmp .ge 82, 3) := by decide +kernel
theorem dX6_fillGroups_32 : decode cX6_fillGroups 32 = .ok (.iconst 0, 1) := by decide +kernel
theorem dX6_fillGroups_33 : decode cX6_fillGroups 33 = .ok (.istore 4, 2) := by decide +kernel
theorem dX6_fillGroups_35 : decode cX6_fillGroups 35 = .ok (.iload 4, 2) := by decide +kernel
theorem dX6_fillGroups_37 : decode cX6_fillGroups 37 = .ok (.iload_n 2, 1) := by decide +kernel
theorem dX6_fillGroups_38 : decode cX6_fillGroups 38 = .ok (.if_icmp .ge 63, 3) := by decide +kernel
theorem dX6_fillGroups_41 : decode cX6_fillGroups 41 = .ok (.aload_n 0, 1) := by decide +kernel
theorem dX6_fillGroups_42 : decode cX6_fillGroups 42 = .ok (.getfield 9, 3) := by decide +kernel
theorem dX6_fillGroups_45 : decode cX6_fillGroups 45 = .ok (.iload 4, 2) := by decide +kernel
theorem dX6_fillGroups_47 : decode cX6_fillGroups 47 = .ok (.iload_n 2, 1) := by decide +kernel
theorem dX6_fillGroups_48 : decode cX6_fillGroups 48 = .ok (.iadd, 1) := by decide +kernel
theorem dX6_fillGroups_49 : decode cX6_fillGroups 49 = .ok (.aload_n 0, 1) := by decide +kernel
theorem dX6_fillGroups_50 : decode cX6_fillGroups 50 = .ok (.getfield 9, 3) := by decide +kernel
theorem dX6_fillGroups_53 : decode cX6_fillGroups 53 = .ok (.iload 4, 2) := by decide +kernel
theorem dX6_fillGroups_55 : decode cX6_fillGroups 55 = .ok (.invokestatic 54, 3) := by decide +kernel
theorem dX6_fillGroups_58 : decode cX6_fillGroups 58 = .ok (.aload_n 1, 1) := by decide +kernel
theorem dX6_fillGroups_59 : decode cX6_fillGroups 59 = .ok (.iload_n 3, 1) := by decide +kernel
theorem dX6_fillGroups_60 : decode cX6_fillGroups 60 = .ok (.invokevirtual 65, 3) := by decide +kernel
theorem dX6_fillGroups_63 : decode cX6_fillGroups 63 = .ok (.iand, 1) := by decide +kernel
theorem dX6_fillGroups_64 : decode cX6_fillGroups 64 = .ok (.invokestatic 48, 3) := by decide +kernel
theorem dX6_fillGroups_67 : decode cX6_fillGroups 67 = .ok (.aload_n 0, 1) := by decide +kernel
theorem dX6_fillGroups_68 : decode cX6_fillGroups 68 = .ok (.getfield 9, 3) := by decide +kernel
theorem dX6_fillGroups_71 : decode cX6_fillGroups 71 = .ok (.iload 4, 2) := by decide +kernel
theorem dX6_fillGroups_73 : decode cX6_fillGroups 73 = .ok (.iconst 2, 1) := by decide +kernel
theorem dX6_fillGroups_74 : decode cX6_fillGroups 74 = .ok (.iload_n 2, 1) := by decide +kernel
theorem dX6_fillGroups_75 : decode cX6_fillGroups 75 = .ok (.imul, 1) := by decide +kernel
theorem dX6_fillGroups_76 : decode cX6_fillGroups 76 = .ok (.iadd, 1) := by decide +kernel
theorem dX6_fillGroups_77 : decode cX6_fillGroups 77 = .ok (.aload_n 0, 1) := by decide +kernel
theorem dX6_fillGroups_78 : decode cX6_fillGroups 78 = .ok (.getfield 9, 3) := by decide +kernel
theorem dX6_fillGroups_81 : decode cX6_fillGroups 81 = .ok (.iload 4, 2) := by decide +kernel
theorem dX6_fillGroups_83 : decode cX6_fillGroups 83 = .ok (.invokestatic 54, 3) := by decide +kernel
theorem dX6_fillGroups_86 : decode cX6_fillGroups 86 = .ok (.aload_n 1, 1) := by decide +kernel
theorem dX6_fillGroups_87 : decode cX6_fillGroups 87 = .ok (.iload_n 3, 1) := by decide +kernel
theorem dX6_fillGroups_88 : decode cX6_fillGroups 88 = .ok (.invokevirtual 69, 3) := by decide +kernel
theorem dX6_fillGroups_91 : decode cX6_fillGroups 91 = .ok (.iand, 1) := by decide +kernel
theorem dX6_fillGroups_92 : decode cX6_fillGroups 92 = .ok (.invokestatic 48, 3) := by decide +kernel
theorem dX6_fillGroups_95 : decode cX6_fillGroups 95 = .ok (.iinc 4 1, 3) := by decide +kernel
theorem dX6_fillGroups_98 : decode cX6_fillGroups 98 = .ok (.goto (-63), 3) := by decide +kernel
theorem dX6_fillGroups_101 : decode cX6_fillGroups 101 = .ok (.iload_n 2, 1) := by decide +kernel
theorem dX6_fillGroups_102 : decode cX6_fillGroups 102 = .ok (.iconst 3, 1) := by decide +kernel
theorem dX6_fillGroups_103 : decode cX6_fillGroups 103 = .ok (.imul, 1) := by decide +kernel
theorem dX6_fillGroups_104 : decode cX6_fillGroups 104 = .ok (.istore_n 2, 1) := by decide +kernel
theorem dX6_fillGroups_105 : decode cX6_fillGroups 105 = .ok (.iinc 3 1, 3) := by decide +kernel
theorem dX6_fillGroups_108 : decode cX6_fillGroups 108 = .ok (.goto (-84), 3) := by decide +kernel
theorem dX6_fillGroups_111 : decode cX6_fillGroups 111 = .ok (.iload_n 2, 1) := by decide +kernel
theorem dX6_fillGroups_112 : decode cX6_fillGroups 112 = .ok (.ireturn, 1) := by decide +kernel
set_option maxRecDepth 20000 in
theorem ggX6_isSettled_X8_at : GoodIn wsX6_isSettled wsX8_at := goodIn_r _ [4] (by decide +kernel) (by decide +kernel)
set_option maxRecDepth 20000 in
theorem gX6_isSettled_X8_at_n54 : GoodIn wsX6_isSettled (wsX8_at) := ggX6_isSettled_X8_at
set_option maxRecDepth 20000 in
theorem ggX6_isSettled_J6_bitCount_0f7a4 : GoodIn wsX6_isSettled wsJ6_bitCount_0f7a4 := goodIn_r _ [8, 9, 10, 11] (by decide +kernel) (by decide +kernel)
set_option maxRecDepth 20000 in
theorem gX6_isSettled_J6_bitCount_0f7a4 : GoodIn wsX6_isSettled (va_wsS RX6 72 yJ6_bitCount_0f7a4 wsJ6_bitCount_0f7a4) := goodIn_app (goodIn_of _ (by decide +kernel)) ggX6_isSettled_J6_bitCount_0f7a4
theorem dX6_isSettled_0 : decode cX6_isSettled 0 = .ok (.aload_n 0, 1) := by decide +kernel
theorem dX6_isSettled_1 : decode cX6_isSettled 1 = .ok (.getfield 9, 3) := by decide +kernel
theorem dX6_isSettled_4 : decode cX6_isSettled 4 = .ok (.iload_n 1, 1) := by decide +kernel
theorem dX6_isSettled_5 : decode cX6_isSettled 5 = .ok (.invokestatic 54, 3) := by decide +kernel
theorem dX6_isSettled_8 : decode cX6_isSettled 8 = .ok (.invokestatic 72, 3) := by decide +kernel
theorem dX6_isSettled_11 : decode cX6_isSettled 11 = .ok (.iconst 2, 1) := by decide +kernel
theorem dX6_isSettled_12 : decode cX6_isSettled 12 = .ok (.if_icmp .ge 7, 3) := by decide +kernel
theorem dX6_isSettled_15 : decode cX6_isSettled 15 = .ok (.iconst 1, 1) := by decide +kernel
theorem dX6_isSettled_16 : decode cX6_isSettled 16 = .ok (.goto 4, 3) := by decide +kernel
theorem dX6_isSettled_19 : decode cX6_isSettled 19 = .ok (.iconst 0, 1) := by decide +kernel
theorem dX6_isSettled_20 : decode cX6_isSettled 20 = .ok (.ireturn, 1) := by decide +kernel
set_option maxRecDepth 20000 in
theorem ggX6_splits_X8_at : GoodIn wsX6_splits wsX8_at := goodIn_r _ [4] (by decide +kernel) (by decide +kernel)
set_option maxRecDepth 20000 in
theorem gX6_splits_X8_at_n54 : GoodIn wsX6_splits (wsX8_at) := ggX6_splits_X8_at
theorem dX6_splits_0 : decode cX6_splits 0 = .ok (.aload_n 0, 1) := by decide +kernel
theorem dX6_splits_1 : decode cX6_splits 1 = .ok (.getfield 9, 3) := by decide +kernel
theorem dX6_splits_4 : decode cX6_splits 4 = .ok (.iload_n 1, 1) := by decide +kernel
theorem dX6_splits_5 : decode cX6_splits 5 = .ok (.invokestatic 54, 3) := by decide +kernel
theorem dX6_splits_8 : decode cX6_splits 8 = .ok (.ifCond .eq 18, 3) := by decide +kernel
theorem dX6_splits_11 : decode cX6_splits 11 = .ok (.aload_n 0, 1) := by decide +kernel
theorem dX6_splits_12 : decode cX6_splits 12 = .ok (.getfield 9, 3) := by decide +kernel
theorem dX6_splits_15 : decode cX6_splits 15 = .ok (.iload_n 2, 1) := by decide +kernel
theorem dX6_splits_16 : decode cX6_splits 16 = .ok (.invokestatic 54, 3) := by decide +kernel
theorem dX6_splits_19 : decode cX6_splits 19 = .ok (.ifCond .eq 7, 3) := by decide +kernel
theorem dX6_splits_22 : decode cX6_splits 22 = .ok (.iconst 1, 1) := by decide +kernel
theorem dX6_splits_23 : decode cX6_splits 23 = .ok (.goto 4, 3) := by decide +kernel
theorem dX6_splits_26 : decode cX6_splits 26 = .ok (.iconst 0, 1) := by decide +kernel
theorem dX6_splits_27 : decode cX6_splits 27 = .ok (.ireturn, 1) := by decide +kernel
set_option maxRecDepth 20000 in
theorem ggX6_worthFrom_X6_splits : GoodIn wsX6_worthFrom wsX6_splits := goodIn_r _ [14, 15, 16, 17, 18, 19, 20, 21] (by decide +kernel) (by decide +kernel)
set_option maxRecDepth 20000 in
theorem gX6_worthFrom_X6_splits : GoodIn wsX6_worthFrom (wsV RX6 77 RX6 yX6_splits wsX6_splits) := goodIn_app (goodIn_of _ (by decide +kernel)) ggX6_worthFrom_X6_splits
set_option maxRecDepth 20000 in
theorem ggX6_worthFrom_X8_at : GoodIn wsX6_worthFrom wsX8_at := goodIn_r _ [18] (by decide +kernel) (by decide +kernel)
set_option maxRecDepth 20000 in
theorem gX6_worthFrom_X8_at_n54 : GoodIn wsX6_worthFrom (wsX8_at) := ggX6_worthFrom_X8_at
theorem dX6_worthFrom_0 : decode cX6_worthFrom 0 = .ok (.iload_n 2, 1) := by decide +kernel
theorem dX6_worthFrom_1 : decode cX6_worthFrom 1 = .ok (.ifCond .eq 7, 3) := by decide +kernel
theorem dX6_worthFrom_4 : decode cX6_worthFrom 4 = .ok (.iconst 0, 1) := by decide +kernel
theorem dX6_worthFrom_5 : decode cX6_worthFrom 5 = .ok (.goto 7, 3) := by decide +kernel
theorem dX6_worthFrom_8 : decode cX6_worthFrom 8 = .ok (.aload_n 0, 1) := by decide +kernel
theorem dX6_worthFrom_9 : decode cX6_worthFrom 9 = .ok (.getfield 61, 3) := by decide +kernel
theorem dX6_worthFrom_12 : decode cX6_worthFrom 12 = .ok (.istore_n 3, 1) := by decide +kernel
theorem dX6_worthFrom_13 : decode cX6_worthFrom 13 = .ok (.iload_n 1, 1) := by decide +kernel
theorem dX6_worthFrom_14 : decode cX6_worthFrom 14 = .ok (.istore 4, 2) := by decide +kernel
theorem dX6_worthFrom_16 : decode cX6_worthFrom 16 = .ok (.iconst 1, 1) := by decide +kernel
theorem dX6_worthFrom_17 : decode cX6_worthFrom 17 = .ok (.istore 5, 2) := by decide +kernel
theorem dX6_worthFrom_19 : decode cX6_worthFrom 19 = .ok (.iconst 0, 1) := by decide +kernel
theorem dX6_worthFrom_20 : decode cX6_worthFrom 20 = .ok (.istore 6, 2) := by decide +kernel
theorem dX6_worthFrom_22 : decode cX6_worthFrom 22 = .ok (.iload 6, 2) := by decide +kernel
theorem dX6_worthFrom_24 : decode cX6_worthFrom 24 = .ok (.aload_n 0, 1) := by decide +kernel
theorem dX6_worthFrom_25 : decode cX6_worthFrom 25 = .ok (.getfield 61, 3) := by decide +kernel
theorem dX6_worthFrom_28 : decode cX6_worthFrom 28 = .ok (.if_icmp .ge 122, 3) := by decide +kernel
theorem dX6_worthFrom_31 : decode cX6_worthFrom 31 = .ok (.iload_n 1, 1) := by decide +kernel
theorem dX6_worthFrom_32 : decode cX6_worthFrom 32 = .ok (.iload 5, 2) := by decide +kernel
theorem dX6_worthFrom_34 : decode cX6_worthFrom 34 = .ok (.iadd, 1) := by decide +kernel
theorem dX6_worthFrom_35 : decode cX6_worthFrom 35 = .ok (.istore 7, 2) := by decide +kernel
theorem dX6_worthFrom_37 : decode cX6_worthFrom 37 = .ok (.iload 7, 2) := by decide +kernel
theorem dX6_worthFrom_39 : decode cX6_worthFrom 39 = .ok (.iload 5, 2) := by decide +kernel
theorem dX6_worthFrom_41 : decode cX6_worthFrom 41 = .ok (.iadd, 1) := by decide +kernel
theorem dX6_worthFrom_42 : decode cX6_worthFrom 42 = .ok (.istore 8, 2) := by decide +kernel
theorem dX6_worthFrom_44 : decode cX6_worthFrom 44 = .ok (.iload 4, 2) := by decide +kernel
theorem dX6_worthFrom_46 : decode cX6_worthFrom 46 = .ok (.iconst 3, 1) := by decide +kernel
theorem dX6_worthFrom_47 : decode cX6_worthFrom 47 = .ok (.irem, 1) := by decide +kernel
theorem dX6_worthFrom_48 : decode cX6_worthFrom 48 = .ok (.ifCond .ne 84, 3) := by decide +kernel
theorem dX6_worthFrom_51 : decode cX6_worthFrom 51 = .ok (.aload_n 0, 1) := by decide +kernel
theorem dX6_worthFrom_52 : decode cX6_worthFrom 52 = .ok (.iload 7, 2) := by decide +kernel
theorem dX6_worthFrom_54 : decode cX6_worthFrom 54 = .ok (.iload 8, 2) := by decide +kernel
theorem dX6_worthFrom_56 : decode cX6_worthFrom 56 = .ok (.invokevirtual 77, 3) := by decide +kernel
theorem dX6_worthFrom_59 : decode cX6_worthFrom 59 = .ok (.ifCond .eq 73, 3) := by decide +kernel
theorem dX6_worthFrom_62 : decode cX6_worthFrom 62 = .ok (.aload_n 0, 1) := by decide +kernel
theorem dX6_worthFrom_63 : decode cX6_worthFrom 63 = .ok (.getfield 13, 3) := by decide +kernel
theorem dX6_worthFrom_66 : decode cX6_worthFrom 66 = .ok (.iload 7, 2) := by decide +kernel
theorem dX6_worthFrom_68 : decode cX6_worthFrom 68 = .ok (.invokestatic 54, 3) := by decide +kernel
theorem dX6_worthFrom_71 : decode cX6_worthFrom 71 = .ok (.aload_n 0, 1) := by decide +kernel
theorem dX6_worthFrom_72 : decode cX6_worthFrom 72 = .ok (.getfield 13, 3) := by decide +kernel
theorem dX6_worthFrom_75 : decode cX6_worthFrom 75 = .ok (.iload 8, 2) := by decide +kernel
theorem dX6_worthFrom_77 : decode cX6_worthFrom 77 = .ok (.invokestatic 54, 3) := by decide +kernel
theorem dX6_worthFrom_80 : decode cX6_worthFrom 80 = .ok (.invokestatic 81, 3) := by decide +kernel
theorem dX6_worthFrom_83 : decode cX6_worthFrom 83 = .ok (.istore 9, 2) := by decide +kernel
theorem dX6_worthFrom_85 : decode cX6_worthFrom 85 = .ok (.aload_n 0, 1) := by decide +kernel
theorem dX6_worthFrom_86 : decode cX6_worthFrom 86 = .ok (.getfield 13, 3) := by decide +kernel
theorem dX6_worthFrom_89 : decode cX6_worthFrom 89 = .ok (.iload 7, 2) := by decide +kernel
theorem dX6_worthFrom_91 : decode cX6_worthFrom 91 = .ok (.invokestatic 54, 3) := by decide +kernel
theorem dX6_worthFrom_94 : decode cX6_worthFrom 94 = .ok (.aload_n 0, 1) := by decide +kernel
theorem dX6_worthFrom_95 : decode cX6_worthFrom 95 = .ok (.getfield 13, 3) := by decide +kernel
theorem dX6_worthFrom_98 : decode cX6_worthFrom 98 = .ok (.iload 8, 2) := by decide +kernel
theorem dX6_worthFrom_100 : decode cX6_worthFrom 100 = .ok (.invokestatic 54, 3) := by decide +kernel
theorem dX6_worthFrom_103 : decode cX6_worthFrom 103 = .ok (.invokestatic 87, 3) := by decide +kernel
theorem dX6_worthFrom_106 : decode cX6_worthFrom 106 = .ok (.istore 10, 2) := by decide +kernel
theorem dX6_worthFrom_108 : decode cX6_worthFrom 108 = .ok (.iload_n 2, 1) := by decide +kernel
theorem dX6_worthFrom_109 : decode cX6_worthFrom 109 = .ok (.ifCond .eq 14, 3) := by decide +kernel
theorem dX6_worthFrom_112 : decode cX6_worthFrom 112 = .ok (.iload_n 3, 1) := by decide +kernel
theorem dX6_worthFrom_113 : decode cX6_worthFrom 113 = .ok (.iconst 1, 1) := by decide +kernel
theorem dX6_worthFrom_114 : decode cX6_worthFrom 114 = .ok (.iload 9, 2) := by decide +kernel
theorem dX6_worthFrom_116 : decode cX6_worthFrom 116 = .ok (.iadd, 1) := by decide +kernel
theorem dX6_worthFrom_117 : decode cX6_worthFrom 117 = .ok (.invokestatic 87, 3) := by decide +kernel
theorem dX6_worthFrom_120 : decode cX6_worthFrom 120 = .ok (.goto 11, 3) := by decide +kernel
theorem dX6_worthFrom_123 : decode cX6_worthFrom 123 = .ok (.iload_n 3, 1) := by decide +kernel
theorem dX6_worthFrom_124 : decode cX6_worthFrom 124 = .ok (.iconst 1, 1) := by decide +kernel
theorem dX6_worthFrom_125 : decode cX6_worthFrom 125 = .ok (.iload 10, 2) := by decide +kernel
theorem dX6_worthFrom_127 : decode cX6_worthFrom 127 = .ok (.iadd, 1) := by decide +kernel
theorem dX6_worthFrom_128 : decode cX6_worthFrom 128 = .ok (.invokestatic 81, 3) := by decide +kernel
theorem dX6_worthFrom_131 : decode cX6_worthFrom 131 = .ok (.istore_n 3, 1) := by decide +kernel
theorem dX6_worthFrom_132 : decode cX6_worthFrom 132 = .ok (.iload 4, 2) := by decide +kernel
theorem dX6_worthFrom_134 : decode cX6_worthFrom 134 = .ok (.iconst 3, 1) := by decide +kernel
theorem dX6_worthFrom_135 : decode cX6_worthFrom 135 = .ok (.idiv, 1) := by decide +kernel
theorem dX6_worthFrom_136 : decode cX6_worthFrom 136 = .ok (.istore 4, 2) := by decide +kernel
theorem dX6_worthFrom_138 : decode cX6_worthFrom 138 = .ok (.iload 5, 2) := by decide +kernel
theorem dX6_worthFrom_140 : decode cX6_worthFrom 140 = .ok (.iconst 3, 1) := by decide +kernel
theorem dX6_worthFrom_141 : decode cX6_worthFrom 141 = .ok (.imul, 1) := by decide +kernel
theorem dX6_worthFrom_142 : decode cX6_worthFrom 142 = .ok (.istore 5, 2) := by decide +kernel
theorem dX6_worthFrom_144 : decode cX6_worthFrom 144 = .ok (.iinc 6 1, 3) := by decide +kernel
theorem dX6_worthFrom_147 : decode cX6_worthFrom 147 = .ok (.goto (-125), 3) := by decide +kernel
theorem dX6_worthFrom_150 : decode cX6_worthFrom 150 = .ok (.iload_n 3, 1) := by decide +kernel
theorem dX6_worthFrom_151 : decode cX6_worthFrom 151 = .ok (.ireturn, 1) := by decide +kernel
theorem dX7_init_0 : decode cX7_init 0 = .ok (.aload_n 0, 1) := by decide +kernel
theorem dX7_init_1 : decode cX7_init 1 = .ok (.invokespecial 3, 3) := by decide +kernel
theorem dX7_init_4 : decode cX7_init 4 = .ok (.aload_n 0, 1) := by decide +kernel
theorem dX7_init_5 : decode cX7_init 5 = .ok (.bipush 12, 2) := by decide +kernel
theorem dX7_init_7 : decode cX7_init 7 = .ok (.newarray .int, 2) := by decide +kernel
theorem dX7_init_9 : decode cX7_init 9 = .ok (.putfield 9, 3) := by decide +kernel
theorem dX7_init_12 : decode cX7_init 12 = .ok (.aload_n 0, 1) := by decide +kernel
theorem dX7_init_13 : decode cX7_init 13 = .ok (.bipush 12, 2) := by decide +kernel
theorem dX7_init_15 : decode cX7_init 15 = .ok (.newarray .int, 2) := by decide +kernel
theorem dX7_init_17 : decode cX7_init 17 = .ok (.putfield 15, 3) := by decide +kernel
theorem dX7_init_20 : decode cX7_init 20 = .ok (.aload_n 0, 1) := by decide +kernel
theorem dX7_init_21 : decode cX7_init 21 = .ok (.bipush 6, 2) := by decide +kernel
theorem dX7_init_23 : decode cX7_init 23 = .ok (.newarray .int, 2) := by decide +kernel
theorem dX7_init_25 : decode cX7_init 25 = .ok (.putfield 18, 3) := by decide +kernel
theorem dX7_init_28 : decode cX7_init 28 = .ok (.aload_n 0, 1) := by decide +kernel
theorem dX7_init_29 : decode cX7_init 29 = .ok (.iconst 1, 1) := by decide +kernel
theorem dX7_init_30 : decode cX7_init 30 = .ok (.putfield 21, 3) := by decide +kernel
theorem dX7_init_33 : decode cX7_init 33 = .ok (.return_, 1) := by decide +kernel
set_option maxRecDepth 20000 in
theorem ggX7_has_X8_at : GoodIn wsX7_has wsX8_at := goodIn_r _ [6] (by decide +kernel) (by decide +kernel)
set_option maxRecDepth 20000 in
theorem gX7_has_X8_at_n28 : GoodIn wsX7_has (wsX8_at) := ggX7_has_X8_at
theorem dX7_has_0 : decode cX7_has 0 = .ok (.iconst 0, 1) := by decide +kernel
theorem dX7_has_1 : decode cX7_has 1 = .ok (.istore_n 3, 1) := by decide +kernel
theorem dX7_has_2 : decode cX7_has 2 = .ok (.iload_n 3, 1) := by decide +kernel
theorem dX7_has_3 : decode cX7_has 3 = .ok (.aload_n 0, 1) := by decide +kernel
theorem dX7_has_4 : decode cX7_has 4 = .ok (.getfield 25, 3) := by decide +kernel
theorem dX7_has_7 : decode cX7_has 7 = .ok (.if_icmp .ge 35, 3) := by decide +kernel
theorem dX7_has_10 : decode cX7_has 10 = .ok (.aload_n 0, 1) := by decide +kernel
theorem dX7_has_11 : decode cX7_has 11 = .ok (.getfield 9, 3) := by decide +kernel
theorem dX7_has_14 : decode cX7_has 14 = .ok (.iload_n 3, 1) := by decide +kernel
theorem dX7_has_15 : decode cX7_has 15 = .ok (.invokestatic 28, 3) := by decide +kernel
theorem dX7_has_18 : decode cX7_has 18 = .ok (.iload_n 1, 1) := by decide +kernel
theorem dX7_has_19 : decode cX7_has 19 = .ok (.if_icmp .ne 17, 3) := by decide +kernel
theorem dX7_has_22 : decode cX7_has 22 = .ok (.aload_n 0, 1) := by decide +kernel
theorem dX7_has_23 : decode cX7_has 23 = .ok (.getfield 15, 3) := by decide +kernel
theorem dX7_has_26 : decode cX7_has 26 = .ok (.iload_n 3, 1) := by decide +kernel
theorem dX7_has_27 : decode cX7_has 27 = .ok (.invokestatic 28, 3) := by decide +kernel
theorem dX7_has_30 : decode cX7_has 30 = .ok (.iload_n 2, 1) := by decide +kernel
theorem dX7_has_31 : decode cX7_has 31 = .ok (.if_icmp .ne 5, 3) := by decide +kernel
theorem dX7_has_34 : decode cX7_has 34 = .ok (.iconst 1, 1) := by decide +kernel
theorem dX7_has_35 : decode cX7_has 35 = .ok (.ireturn, 1) := by decide +kernel
theorem dX7_has_36 : decode cX7_has 36 = .ok (.iinc 3 1, 3) := by decide +kernel
theorem dX7_has_39 : decode cX7_has 39 = .ok (.goto (-37), 3) := by decide +kernel
theorem dX7_has_42 : decode cX7_has 42 = .ok (.iconst 0, 1) := by decide +kernel
theorem dX7_has_43 : decode cX7_has 43 = .ok (.ireturn, 1) := by decide +kernel
set_option maxRecDepth 20000 in
theorem ggX7_add_X8_put : GoodIn wsX7_add wsX8_put := goodIn_r _ [7] (by decide +kernel) (by decide +kernel)
set_option maxRecDepth 20000 in
theorem gX7_add_X8_put_n32 : GoodIn wsX7_add (wsX8_put) := ggX7_add_X8_put
theorem dX7_add_0 : decode cX7_add 0 = .ok (.aload_n 0, 1) := by decide +kernel
theorem dX7_add_1 : decode cX7_add 1 = .ok (.getfield 9, 3) := by decide +kernel
theorem dX7_add_4 : decode cX7_add 4 = .ok (.aload_n 0, 1) := by decide +kernel
theorem dX7_add_5 : decode cX7_add 5 = .ok (.getfield 25, 3) := by decide +kernel
theorem dX7_add_8 : decode cX7_add 8 = .ok (.iload_n 1, 1) := by decide +kernel
theorem dX7_add_9 : decode cX7_add 9 = .ok (.invokestatic 32, 3) := by decide +kernel
theorem dX7_add_12 : decode cX7_add 12 = .ok (.aload_n 0, 1) := by decide +kernel
theorem dX7_add_13 : decode cX7_add 13 = .ok (.getfield 15, 3) := by decide +kernel
theorem dX7_add_16 : decode cX7_add 16 = .ok (.aload_n 0, 1) := by decide +kernel
theorem dX7_add_17 : decode cX7_add 17 = .ok (.getfield 25, 3) := by decide +kernel
theorem dX7_add_20 : decode cX7_add 20 = .ok (.iload_n 2, 1) := by decide +kernel
theorem dX7_add_21 : decode cX7_add 21 = .ok (.invokestatic 32, 3) := by decide +kernel
theorem dX7_add_24 : decode cX7_add 24 = .ok (.iload_n 3, 1) := by decide +kernel
theorem dX7_add_25 : decode cX7_add 25 = .ok (.ifCond .eq 18, 3) := by decide +kernel
theorem dX7_add_28 : decode cX7_add 28 = .ok (.aload_n 0, 1) := by decide +kernel
theorem dX7_add_29 : decode cX7_add 29 = .ok (.dup, 1) := by decide +kernel
theorem dX7_add_30 : decode cX7_add 30 = .ok (.getfield 36, 3) := by decide +kernel
theorem dX7_add_33 : decode cX7_add 33 = .ok (.iconst 1, 1) := by decide +kernel
theorem dX7_add_34 : decode cX7_add 34 = .ok (.aload_n 0, 1) := by decide +kernel
theorem dX7_add_35 : decode cX7_add 35 = .ok (.getfield 25, 3) := by decide +kernel
theorem dX7_add_38 : decode cX7_add 38 = .ok (.ishl, 1) := by decide +kernel
theorem dX7_add_39 : decode cX7_add 39 = .ok (.ior, 1) := by decide +kernel
theorem dX7_add_40 : decode cX7_add 40 = .ok (.putfield 36, 3) := by decide +kernel
theorem dX7_add_43 : decode cX7_add 43 = .ok (.aload_n 0, 1) := by decide +kernel
theorem dX7_add_44 : decode cX7_add 44 = .ok (.dup, 1) := by decide +kernel
theorem dX7_add_45 : decode cX7_add 45 = .ok (.getfield 25, 3) := by decide +kernel
theorem dX7_add_48 : decode cX7_add 48 = .ok (.iconst 1, 1) := by decide +kernel
theorem dX7_add_49 : decode cX7_add 49 = .ok (.iadd, 1) := by decide +kernel
theorem dX7_add_50 : decode cX7_add 50 = .ok (.putfield 25, 3) := by decide +kernel
theorem dX7_add_53 : decode cX7_add 53 = .ok (.aload_n 0, 1) := by decide +kernel
theorem dX7_add_54 : decode cX7_add 54 = .ok (.getfield 25, 3) := by decide +kernel
theorem dX7_add_57 : decode cX7_add 57 = .ok (.ireturn, 1) := by decide +kernel
set_option maxRecDepth 20000 in
theorem ggX7_areToldBy_X8_at : GoodIn wsX7_areToldBy wsX8_at := goodIn_r _ [7] (by decide +kernel) (by decide +kernel)
set_option maxRecDepth 20000 in
theorem gX7_areToldBy_X8_at_n28 : GoodIn wsX7_areToldBy (wsX8_at) := ggX7_areToldBy_X8_at
set_option maxRecDepth 20000 in
theorem ggX7_areToldBy_X3_endsWell : GoodIn wsX7_areToldBy wsX3_endsWell := goodIn_r _ [12, 13, 14, 15, 16, 11, 17, 5, 6, 7, 18, 19, 26, 27, 28] (by decide +kernel) (by decide +kernel)
set_option maxRecDepth 20000 in
theorem gX7_areToldBy_X3_endsWell : GoodIn wsX7_areToldBy (wsV RX7 39 RX3 yX3_endsWell wsX3_endsWell) := goodIn_app (goodIn_of _ (by decide +kernel)) ggX7_areToldBy_X3_endsWell
set_option maxRecDepth 20000 in
theorem ggX7_areToldBy_X8_hasBit : GoodIn wsX7_areToldBy wsX8_hasBit := goodIn_r _ [19] (by decide +kernel) (by decide +kernel)
set_option maxRecDepth 20000 in
theorem gX7_areToldBy_X8_hasBit_n45 : GoodIn wsX7_areToldBy (wsX8_hasBit) := ggX7_areToldBy_X8_hasBit
theorem dX7_areToldBy_0 : decode cX7_areToldBy 0 = .ok (.iconst 0, 1) := by decide +kernel
theorem dX7_areToldBy_1 : decode cX7_areToldBy 1 = .ok (.istore_n 2, 1) := by decide +kernel
theorem dX7_areToldBy_2 : decode cX7_areToldBy 2 = .ok (.iload_n 2, 1) := by decide +kernel
theorem dX7_areToldBy_3 : decode cX7_areToldBy 3 = .ok (.aload_n 0, 1) := by decide +kernel
theorem dX7_areToldBy_4 : decode cX7_areToldBy 4 = .ok (.getfield 25, 3) := by decide +kernel
theorem dX7_areToldBy_7 : decode cX7_areToldBy 7 = .ok (.if_icmp .ge 43, 3) := by decide +kernel
theorem dX7_areToldBy_10 : decode cX7_areToldBy 10 = .ok (.aload_n 1, 1) := by decide +kernel
theorem dX7_areToldBy_11 : decode cX7_areToldBy 11 = .ok (.iconst 0, 1) := by decide +kernel
theorem dX7_areToldBy_12 : decode cX7_areToldBy 12 = .ok (.aload_n 0, 1) := by decide +kernel
theorem dX7_areToldBy_13 : decode cX7_areToldBy 13 = .ok (.getfield 9, 3) := by decide +kernel
theorem dX7_areToldBy_16 : decode cX7_areToldBy 16 = .ok (.iload_n 2, 1) := by decide +kernel
theorem dX7_areToldBy_17 : decode cX7_areToldBy 17 = .ok (.invokestatic 28, 3) := by decide +kernel
theorem dX7_areToldBy_20 : decode cX7_areToldBy 20 = .ok (.aload_n 0, 1) := by decide +kernel
theorem dX7_areToldBy_21 : decode cX7_areToldBy 21 = .ok (.getfield 15, 3) := by decide +kernel
theorem dX7_areToldBy_24 : decode cX7_areToldBy 24 = .ok (.iload_n 2, 1) := by decide +kernel
theorem dX7_areToldBy_25 : decode cX7_areToldBy 25 = .ok (.invokestatic 28, 3) := by decide +kernel
theorem dX7_areToldBy_28 : decode cX7_areToldBy 28 = .ok (.invokevirtual 39, 3) := by decide +kernel
theorem dX7_areToldBy_31 : decode cX7_areToldBy 31 = .ok (.aload_n 0, 1) := by decide +kernel
theorem dX7_areToldBy_32 : decode cX7_areToldBy 32 = .ok (.getfield 36, 3) := by decide +kernel
theorem dX7_areToldBy_35 : decode cX7_areToldBy 35 = .ok (.iload_n 2, 1) := by decide +kernel
theorem dX7_areToldBy_36 : decode cX7_areToldBy 36 = .ok (.invokestatic 45, 3) := by decide +kernel
theorem dX7_areToldBy_39 : decode cX7_areToldBy 39 = .ok (.if_icmp .eq 5, 3) := by decide +kernel
theorem dX7_areToldBy_42 : decode cX7_areToldBy 42 = .ok (.iconst 0, 1) := by decide +kernel
theorem dX7_areToldBy_43 : decode cX7_areToldBy 43 = .ok (.ireturn, 1) := by decide +kernel
theorem dX7_areToldBy_44 : decode cX7_areToldBy 44 = .ok (.iinc 2 1, 3) := by decide +kernel
theorem dX7_areToldBy_47 : decode cX7_areToldBy 47 = .ok (.goto (-45), 3) := by decide +kernel
theorem dX7_areToldBy_50 : decode cX7_areToldBy 50 = .ok (.iconst 1, 1) := by decide +kernel
theorem dX7_areToldBy_51 : decode cX7_areToldBy 51 = .ok (.ireturn, 1) := by decide +kernel
set_option maxRecDepth 20000 in
theorem ggX7_fewestStates_X7_areKeptApart : GoodIn wsX7_fewestStates wsX7_areKeptApart := goodIn_r _ [6, 7, 8, 9, 10, 11, 12, 13, 14, 15, 16, 17, 18, 19, 20, 27, 28, 29, 30, 31, 32] (by decide +kernel) (by decide +kernel)
set_option maxRecDepth 20000 in
theorem gX7_fewestStates_X7_areKeptApart : GoodIn wsX7_fewestStates (wsV RX7 49 RX7 yX7_areKeptApart wsX7_areKeptApart) := goodIn_app (goodIn_of _ (by decide +kernel)) ggX7_fewestStates_X7_areKeptApart
set_option maxRecDepth 20000 in
theorem ggX7_fewestStates_X7_turnTrial : GoodIn wsX7_fewestStates wsX7_turnTrial := goodIn_r _ [24, 1, 8, 12, 13, 14, 25, 26, 27, 28, 29, 30, 31, 32] (by decide +kernel) (by decide +kernel)
set_option maxRecDepth 20000 in
theorem gX7_fewestStates_X7_turnTrial : GoodIn wsX7_fewestStates (wsV RX7 53 RX7 yX7_turnTrial wsX7_turnTrial) := goodIn_app (goodIn_of _ (by decide +kernel)) ggX7_fewestStates_X7_turnTrial
theorem dX7_fewestStates_0 : decode cX7_fewestStates 0 = .ok (.iconst 0, 1) := by decide +kernel
theorem dX7_fewestStates_1 : decode cX7_fewestStates 1 = .ok (.istore_n 1, 1) := by decide +kernel
theorem dX7_fewestStates_2 : decode cX7_fewestStates 2 = .ok (.iload_n 1, 1) := by decide +kernel
theorem dX7_fewestStates_3 : decode cX7_fewestStates 3 = .ok (.sipush 746, 3) := by decide +kernel
theorem dX7_fewestStates_6 : decode cX7_fewestStates 6 = .ok (.if_icmp .ge 33, 3) := by decide +kernel
theorem dX7_fewestStates_9 : decode cX7_fewestStates 9 = .ok (.aload_n 0, 1) := by decide +kernel
theorem dX7_fewestStates_10 : decode cX7_fewestStates 10 = .ok (.getfield 21, 3) := by decide +kernel
theorem dX7_fewestStates_13 : decode cX7_fewestStates 13 = .ok (.iconst 3, 1) := by decide +kernel
theorem dX7_fewestStates_14 : decode cX7_fewestStates 14 = .ok (.if_icmp .gt 25, 3) := by decide +kernel
theorem dX7_fewestStates_17 : decode cX7_fewestStates 17 = .ok (.aload_n 0, 1) := by decide +kernel
theorem dX7_fewestStates_18 : decode cX7_fewestStates 18 = .ok (.invokevirtual 49, 3) := by decide +kernel
theorem dX7_fewestStates_21 : decode cX7_fewestStates 21 = .ok (.ifCond .eq 8, 3) := by decide +kernel
theorem dX7_fewestStates_24 : decode cX7_fewestStates 24 = .ok (.aload_n 0, 1) := by decide +kernel
theorem dX7_fewestStates_25 : decode cX7_fewestStates 25 = .ok (.getfield 21, 3) := by decide +kernel
theorem dX7_fewestStates_28 : decode cX7_fewestStates 28 = .ok (.ireturn, 1) := by decide +kernel
theorem dX7_fewestStates_29 : decode cX7_fewestStates 29 = .ok (.aload_n 0, 1) := by decide +kernel
theorem dX7_fewestStates_30 : decode cX7_fewestStates 30 = .ok (.invokevirtual 53, 3) := by decide +kernel
theorem dX7_fewestStates_33 : decode cX7_fewestStates 33 = .ok (.iinc 1 1, 3) := by decide +kernel
theorem dX7_fewestStates_36 : decode cX7_fewestStates 36 = .ok (.goto (-34), 3) := by decide +kernel
theorem dX7_fewestStates_39 : decode cX7_fewestStates 39 = .ok (.aload_n 0, 1) := by decide +kernel
theorem dX7_fewestStates_40 : decode cX7_fewestStates 40 = .ok (.getfield 21, 3) := by decide +kernel
theorem dX7_fewestStates_43 : decode cX7_fewestStates 43 = .ok (.ireturn, 1) := by decide +kernel
set_option maxRecDepth 20000 in
theorem ggX7_areKeptApart_X8_at : GoodIn wsX7_areKeptApart wsX8_at := goodIn_r _ [8] (by decide +kernel) (by decide +kernel)
set_option maxRecDepth 20000 in
theorem gX7_areKeptApart_X8_at_n28 : GoodIn wsX7_areKeptApart (wsX8_at) := ggX7_areKeptApart_X8_at
set_option maxRecDepth 20000 in
theorem ggX7_areKeptApart_X3_end : GoodIn wsX7_areKeptApart wsX3_end := goodIn_r _ [12, 6, 7, 8] (by decide +kernel) (by decide +kernel)
set_option maxRecDepth 20000 in
theorem gX7_areKeptApart_X3_end : GoodIn wsX7_areKeptApart (va_wsS RX7 56 yX3_end wsX3_end) := goodIn_app (goodIn_of _ (by decide +kernel)) ggX7_areKeptApart_X3_end
set_option maxRecDepth 20000 in
theorem ggX7_areKeptApart_X8_hasBit : GoodIn wsX7_areKeptApart wsX8_hasBit := goodIn_r _ [14] (by decide +kernel) (by decide +kernel)
set_option maxRecDepth 20000 in
theorem gX7_areKeptApart_X8_hasBit_n45 : GoodIn wsX7_areKeptApart (wsX8_hasBit) := ggX7_areKeptApart_X8_hasBit
theorem dX7_areKeptApart_0 : decode cX7_areKeptApart 0 = .ok (.iconst 0, 1) := by decide +kernel
theorem dX7_areKeptApart_1 : decode cX7_areKeptApart 1 = .ok (.istore_n 1, 1) := by decide +kernel
theorem dX7_areKeptApart_2 : decode cX7_areKeptApart 2 = .ok (.iconst 0, 1) := by decide +kernel
theorem dX7_areKeptApart_3 : decode cX7_areKeptApart 3 = .ok (.istore_n 2, 1) := by decide +kernel
theorem dX7_areKeptApart_4 : decode cX7_areKeptApart 4 = .ok (.iconst 0, 1) := by decide +kernel
theorem dX7_areKeptApart_5 : decode cX7_areKeptApart 5 = .ok (.istore_n 3, 1) := by decide +kernel
theorem dX7_areKeptApart_6 : decode cX7_areKeptApart 6 = .ok (.iload_n 3, 1) := by decide +kernel
theorem dX7_areKeptApart_7 : decode cX7_areKeptApart 7 = .ok (.aload_n 0, 1) := by decide +kernel
theorem dX7_areKeptApart_8 : decode cX7_areKeptApart 8 = .ok (.getfield 25, 3) := by decide +kernel
theorem dX7_areKeptApart_11 : decode cX7_areKeptApart 11 = .ok (.if_icmp .ge 71, 3) := by decide +kernel
theorem dX7_areKeptApart_14 : decode cX7_areKeptApart 14 = .ok (.aload_n 0, 1) := by decide +kernel
theorem dX7_areKeptApart_15 : decode cX7_areKeptApart 15 = .ok (.getfield 18, 3) := by decide +kernel
theorem dX7_areKeptApart_18 : decode cX7_areKeptApart 18 = .ok (.iconst 0, 1) := by decide +kernel
theorem dX7_areKeptApart_19 : decode cX7_areKeptApart 19 = .ok (.aload_n 0, 1) := by decide +kernel
theorem dX7_areKeptApart_20 : decode cX7_areKeptApart 20 = .ok (.getfield 9, 3) := by decide +kernel
theorem dX7_areKeptApart_23 : decode cX7_areKeptApart 23 = .ok (.iload_n 3, 1) := by decide +kernel
theorem dX7_areKeptApart_24 : decode cX7_areKeptApart 24 = .ok (.invokestatic 28, 3) := by decide +kernel
theorem dX7_areKeptApart_27 : decode cX7_areKeptApart 27 = .ok (.aload_n 0, 1) := by decide +kernel
theorem dX7_areKeptApart_28 : decode cX7_areKeptApart 28 = .ok (.getfield 15, 3) := by decide +kernel
theorem dX7_areKeptApart_31 : decode cX7_areKeptApart 31 = .ok (.iload_n 3, 1) := by decide +kernel
theorem dX7_areKeptApart_32 : decode cX7_areKeptApart 32 = .ok (.invokestatic 28, 3) := by decide +kernel
theorem dX7_areKeptApart_35 : decode cX7_areKeptApart 35 = .ok (.invokestatic 56, 3) := by decide +kernel
theorem dX7_areKeptApart_38 : decode cX7_areKeptApart 38 = .ok (.istore 4, 2) := by decide +kernel
theorem dX7_areKeptApart_40 : decode cX7_areKeptApart 40 = .ok (.aload_n 0, 1) := by decide +kernel
theorem dX7_areKeptApart_41 : decode cX7_areKeptApart 41 = .ok (.getfield 36, 3) := by decide +kernel
theorem dX7_areKeptApart_44 : decode cX7_areKeptApart 44 = .ok (.iload_n 3, 1) := by decide +kernel
theorem dX7_areKeptApart_45 : decode cX7_areKeptApart 45 = .ok (.invokestatic 45, 3) := by decide +kernel
theorem dX7_areKeptApart_48 : decode cX7_areKeptApart 48 = .ok (.ifCond .eq 13, 3) := by decide +kernel
theorem dX7_areKeptApart_51 : decode cX7_areKeptApart 51 = .ok (.iload_n 1, 1) := by decide +kernel
theorem dX7_areKeptApart_52 : decode cX7_areKeptApart 52 = .ok (.iconst 1, 1) := by decide +kernel
theorem dX7_areKeptApart_53 : decode cX7_areKeptApart 53 = .ok (.iload 4, 2) := by decide +kernel
theorem dX7_areKeptApart_55 : decode cX7_areKeptApart 55 = .ok (.ishl, 1) := by decide +kernel
theorem dX7_areKeptApart_56 : decode cX7_areKeptApart 56 = .ok (.ior, 1) := by decide +kernel
theorem dX7_areKeptApart_57 : decode cX7_areKeptApart 57 = .ok (.istore_n 1, 1) := by decide +kernel
theorem dX7_areKeptApart_58 : decode cX7_areKeptApart 58 = .ok (.goto 10, 3) := by decide +kernel
theorem dX7_areKeptApart_61 : decode cX7_areKeptApart 61 = .ok (.iload_n 2, 1) := by decide +kernel
theorem dX7_areKeptApart_62 : decode cX7_areKeptApart 62 = .ok (.iconst 1, 1) := by decide +kernel
theorem dX7_areKeptApart_63 : decode cX7_areKeptApart 63 = .ok (.iload 4, 2) := by decide +kernel
theorem dX7_areKeptApart_65 : decode cX7_areKeptApart 65 = .ok (.ishl, 1) := by decide +kernel
theorem dX7_areKeptApart_66 : decode cX7_areKeptApart 66 = .ok (.ior, 1) := by decide +kernel
theorem dX7_areKeptApart_67 : decode cX7_areKeptApart 67 = .ok (.istore_n 2, 1) := by decide +kernel
theorem dX7_areKeptApart_68 : decode cX7_areKeptApart 68 = .ok (.iload_n 1, 1) := by decide +kernel
theorem dX7_areKeptApart_69 : decode cX7_areKeptApart 69 = .ok (.iload_n 2, 1) := by decide +kernel
theorem dX7_areKeptApart_70 : decode cX7_areKeptApart 70 = .ok (.iand, 1) := by decide +kernel
theorem dX7_areKeptApart_71 : decode cX7_areKeptApart 71 = .ok (.ifCond .eq 5, 3) := by decide +kernel
theorem dX7_areKeptApart_74 : decode cX7_areKeptApart 74 = .ok (.iconst 0, 1) := by decide +kernel
theorem dX7_areKeptApart_75 : decode cX7_areKeptApart 75 = .ok (.ireturn, 1) := by decide +kernel
theorem dX7_areKeptApart_76 : decode cX7_areKeptApart 76 = .ok (.iinc 3 1, 3) := by decide +kernel
theorem dX7_areKeptApart_79 : decode cX7_areKeptApart 79 = .ok (.goto (-73), 3) := by decide +kernel
theorem dX7_areKeptApart_82 : decode cX7_areKeptApart 82 = .ok (.iconst 1, 1) := by decide +kernel
theorem dX7_areKeptApart_83 : decode cX7_areKeptApart 83 = .ok (.ireturn, 1) := by decide +kernel
set_option maxRecDepth 20000 in
theorem ggX7_turnTrial_X8_at : GoodIn wsX7_turnTrial wsX8_at := goodIn_r _ [5] (by decide +kernel) (by decide +kernel)
set_option maxRecDepth 20000 in
theorem gX7_turnTrial_X8_at_n28 : GoodIn wsX7_turnTrial (wsX8_at) := ggX7_turnTrial_X8_at
set_option maxRecDepth 20000 in
theorem ggX7_turnTrial_X8_put : GoodIn wsX7_turnTrial wsX8_put := goodIn_r _ [7] (by decide +kernel) (by decide +kernel)
set_option maxRecDepth 20000 in
theorem gX7_turnTrial_X8_put_n32 : GoodIn wsX7_turnTrial (wsX8_put) := ggX7_turnTrial_X8_put
theorem dX7_turnTrial_0 : decode cX7_turnTrial 0 = .ok (.iconst 0, 1) := by decide +kernel
theorem dX7_turnTrial_1 : decode cX7_turnTrial 1 = .ok (.istore_n 1, 1) := by decide +kernel
theorem dX7_turnTrial_2 : decode cX7_turnTrial 2 = .ok (.iload_n 1, 1) := by decide +kernel
theorem dX7_turnTrial_3 : decode cX7_turnTrial 3 = .ok (.iconst 2, 1) := by decide +kernel
theorem dX7_turnTrial_4 : decode cX7_turnTrial 4 = .ok (.aload_n 0, 1) := by decide +kernel
theorem dX7_turnTrial_5 : decode cX7_turnTrial 5 = .ok (.getfield 21, 3) := by decide +kernel
theorem dX7_turnTrial_8 : decode cX7_turnTrial 8 = .ok (.imul, 1) := by decide +kernel
theorem dX7_turnTrial_9 : decode cX7_turnTrial 9 = .ok (.if_icmp .ge 47, 3) := by decide +kernel
theorem dX7_turnTrial_12 : decode cX7_turnTrial 12 = .ok (.aload_n 0, 1) := by decide +kernel
theorem dX7_turnTrial_13 : decode cX7_turnTrial 13 = .ok (.getfield 18, 3) := by decide +kernel
theorem dX7_turnTrial_16 : decode cX7_turnTrial 16 = .ok (.iload_n 1, 1) := by decide +kernel
theorem dX7_turnTrial_17 : decode cX7_turnTrial 17 = .ok (.invokestatic 28, 3) := by decide +kernel
theorem dX7_turnTrial_20 : decode cX7_turnTrial 20 = .ok (.iconst 1, 1) := by decide +kernel
theorem dX7_turnTrial_21 : decode cX7_turnTrial 21 = .ok (.iadd, 1) := by decide +kernel
theorem dX7_turnTrial_22 : decode cX7_turnTrial 22 = .ok (.istore_n 2, 1) := by decide +kernel
theorem dX7_turnTrial_23 : decode cX7_turnTrial 23 = .ok (.iload_n 2, 1) := by decide +kernel
theorem dX7_turnTrial_24 : decode cX7_turnTrial 24 = .ok (.aload_n 0, 1) := by decide +kernel
theorem dX7_turnTrial_25 : decode cX7_turnTrial 25 = .ok (.getfield 21, 3) := by decide +kernel
theorem dX7_turnTrial_28 : decode cX7_turnTrial 28 = .ok (.if_icmp .ge 13, 3) := by decide +kernel
theorem dX7_turnTrial_31 : decode cX7_turnTrial 31 = .ok (.aload_n 0, 1) := by decide +kernel
theorem dX7_turnTrial_32 : decode cX7_turnTrial 32 = .ok (.getfield 18, 3) := by decide +kernel
theorem dX7_turnTrial_35 : decode cX7_turnTrial 35 = .ok (.iload_n 1, 1) := by decide +kernel
theorem dX7_turnTrial_36 : decode cX7_turnTrial 36 = .ok (.iload_n 2, 1) := by decide +kernel
theorem dX7_turnTrial_37 : decode cX7_turnTrial 37 = .ok (.invokestatic 32, 3) := by decide +kernel
theorem dX7_turnTrial_40 : decode cX7_turnTrial 40 = .ok (.return_, 1) := by decide +kernel
theorem dX7_turnTrial_41 : decode cX7_turnTrial 41 = .ok (.aload_n 0, 1) := by decide +kernel
theorem dX7_turnTrial_42 : decode cX7_turnTrial 42 = .ok (.getfield 18, 3) := by decide +kernel
theorem dX7_turnTrial_45 : decode cX7_turnTrial 45 = .ok (.iload_n 1, 1) := by decide +kernel
theorem dX7_turnTrial_46 : decode cX7_turnTrial 46 = .ok (.iconst 0, 1) := by decide +kernel
theorem dX7_turnTrial_47 : decode cX7_turnTrial 47 = .ok (.invokestatic 32, 3) := by decide +kernel
theorem dX7_turnTrial_50 : decode cX7_turnTrial 50 = .ok (.iinc 1 1, 3) := by decide +kernel
theorem dX7_turnTrial_53 : decode cX7_turnTrial 53 = .ok (.goto (-51), 3) := by decide +kernel
theorem dX7_turnTrial_56 : decode cX7_turnTrial 56 = .ok (.aload_n 0, 1) := by decide +kernel
theorem dX7_turnTrial_57 : decode cX7_turnTrial 57 = .ok (.dup, 1) := by decide +kernel
theorem dX7_turnTrial_58 : decode cX7_turnTrial 58 = .ok (.getfield 21, 3) := by decide +kernel
theorem dX7_turnTrial_61 : decode cX7_turnTrial 61 = .ok (.iconst 1, 1) := by decide +kernel
theorem dX7_turnTrial_62 : decode cX7_turnTrial 62 = .ok (.iadd, 1) := by decide +kernel
theorem dX7_turnTrial_63 : decode cX7_turnTrial 63 = .ok (.putfield 21, 3) := by decide +kernel
theorem dX7_turnTrial_66 : decode cX7_turnTrial 66 = .ok (.return_, 1) := by decide +kernel

theorem dX4_total_4 : decode cX4_total 4 = .ok (.iload_n 2, 1) := by decide +kernel
theorem dX4_total_5 : decode cX4_total 5 = .ok (.aload_n 0, 1) := by decide +kernel
theorem dX4_total_6 : decode cX4_total 6 = .ok (.arraylength, 1) := by decide +kernel
theorem dX4_total_7 : decode cX4_total 7 = .ok (.if_icmp .ge 15, 3) := by decide +kernel
theorem dX4_total_10 : decode cX4_total 10 = .ok (.iload_n 1, 1) := by decide +kernel
theorem dX4_total_11 : decode cX4_total 11 = .ok (.aload_n 0, 1) := by decide +kernel
theorem dX4_total_12 : decode cX4_total 12 = .ok (.iload_n 2, 1) := by decide +kernel
theorem dX4_total_13 : decode cX4_total 13 = .ok (.iaload, 1) := by decide +kernel
theorem dX4_total_14 : decode cX4_total 14 = .ok (.iadd, 1) := by decide +kernel
theorem dX4_total_15 : decode cX4_total 15 = .ok (.istore_n 1, 1) := by decide +kernel
theorem dX4_total_16 : decode cX4_total 16 = .ok (.iinc 2 1, 3) := by decide +kernel
theorem dX4_total_19 : decode cX4_total 19 = .ok (.goto (-15), 3) := by decide +kernel
theorem dX4_total_22 : decode cX4_total 22 = .ok (.iload_n 1, 1) := by decide +kernel
theorem dX4_total_23 : decode cX4_total 23 = .ok (.ireturn, 1) := by decide +kernel
theorem dX5_init_0 : decode cX5_init 0 = .ok (.aload_n 0, 1) := by decide +kernel
theorem dX5_init_1 : decode cX5_init 1 = .ok (.invokespecial 3, 3) := by decide +kernel
theorem dX5_init_4 : decode cX5_init 4 = .ok (.aload_n 0, 1) := by decide +kernel
theorem dX5_init_5 : decode cX5_init 5 = .ok (.bipush 10, 2) := by decide +kernel
theorem dX5_init_7 : decode cX5_init 7 = .ok (.newarray .int, 2) := by decide +kernel
theorem dX5_init_9 : decode cX5_init 9 = .ok (.putfield 9, 3) := by decide +kernel
theorem dX5_init_12 : decode cX5_init 12 = .ok (.return_, 1) := by decide +kernel
theorem dX5_count_0 : decode cX5_count 0 = .ok (.aload_n 0, 1) := by decide +kernel
theorem dX5_count_1 : decode cX5_count 1 = .ok (.getfield 15, 3) := by decide +kernel
theorem dX5_count_4 : decode cX5_count 4 = .ok (.ireturn, 1) := by decide +kernel
theorem dX5_knows_0 : decode cX5_knows 0 = .ok (.iload_n 1, 1) := by decide +kernel
theorem dX5_knows_1 : decode cX5_knows 1 = .ok (.bipush 10, 2) := by decide +kernel
theorem dX5_knows_3 : decode cX5_knows 3 = .ok (.if_icmp .lt 18, 3) := by decide +kernel
theorem dX5_knows_6 : decode cX5_knows 6 = .ok (.iload_n 1, 1) := by decide +kernel
theorem dX5_knows_7 : decode cX5_knows 7 = .ok (.bipush 10, 2) := by decide +kernel
theorem dX5_knows_9 : decode cX5_knows 9 = .ok (.aload_n 0, 1) := by decide +kernel
theorem dX5_knows_10 : decode cX5_knows 10 = .ok (.getfield 15, 3) := by decide +kernel
theorem dX5_knows_13 : decode cX5_knows 13 = .ok (.iadd, 1) := by decide +kernel
theorem dX5_knows_14 : decode cX5_knows 14 = .ok (.if_icmp .ge 7, 3) := by decide +kernel
theorem dX5_knows_17 : decode cX5_knows 17 = .ok (.iconst 1, 1) := by decide +kernel
theorem dX5_knows_18 : decode cX5_knows 18 = .ok (.goto 4, 3) := by decide +kernel
theorem dX5_knows_21 : decode cX5_knows 21 = .ok (.iconst 0, 1) := by decide +kernel
theorem dX5_knows_22 : decode cX5_knows 22 = .ok (.ireturn, 1) := by decide +kernel
theorem dX5_line_0 : decode cX5_line 0 = .ok (.aload_n 0, 1) := by decide +kernel
theorem dX5_line_1 : decode cX5_line 1 = .ok (.getfield 9, 3) := by decide +kernel
theorem dX5_line_4 : decode cX5_line 4 = .ok (.iload_n 1, 1) := by decide +kernel
theorem dX5_line_5 : decode cX5_line 5 = .ok (.bipush 10, 2) := by decide +kernel
theorem dX5_line_7 : decode cX5_line 7 = .ok (.isub, 1) := by decide +kernel
theorem dX5_line_8 : decode cX5_line 8 = .ok (.iaload, 1) := by decide +kernel
theorem dX5_line_9 : decode cX5_line 9 = .ok (.ireturn, 1) := by decide +kernel
set_option maxRecDepth 20000 in
theorem ggX5_isStruck_X6_contains : GoodIn wsX5_isStruck wsX6_contains := goodIn_r _ [4] (by decide +kernel) (by decide +kernel)
set_option maxRecDepth 20000 in
theorem gX5_isStruck_X6_contains_n22 : GoodIn wsX5_isStruck (wsX6_contains) := ggX5_isStruck_X6_contains
theorem dX5_isStruck_0 : decode cX5_isStruck 0 = .ok (.aload_n 0, 1) := by decide +kernel
theorem dX5_isStruck_1 : decode cX5_isStruck 1 = .ok (.getfield 19, 3) := by decide +kernel
theorem dX5_isStruck_4 : decode cX5_isStruck 4 = .ok (.iload_n 1, 1) := by decide +kernel
theorem dX5_isStruck_5 : decode cX5_isStruck 5 = .ok (.bipush 10, 2) := by decide +kernel
theorem dX5_isStruck_7 : decode cX5_isStruck 7 = .ok (.isub, 1) := by decide +kernel
theorem dX5_isStruck_8 : decode cX5_isStruck 8 = .ok (.invokestatic 22, 3) := by decide +kernel
theorem dX5_isStruck_11 : decode cX5_isStruck 11 = .ok (.ireturn, 1) := by decide +kernel
set_option maxRecDepth 20000 in
theorem ggX5_countStruck_J6_bitCount_0f7a4 : GoodIn wsX5_countStruck wsJ6_bitCount_0f7a4 := goodIn_r _ [5, 6, 7, 8] (by decide +kernel) (by decide +kernel)
set_option maxRecDepth 20000 in
theorem gX5_countStruck_J6_bitCount_0f7a4 : GoodIn wsX5_countStruck (va_wsS RX5 26 yJ6_bitCount_0f7a4 wsJ6_bitCount_0f7a4) := goodIn_app (goodIn_of _ (by decide +kernel)) ggX5_countStruck_J6_bitCount_0f7a4
theorem dX5_countStruck_0 : decode cX5_countStruck 0 = .ok (.aload_n 0, 1) := by decide +kernel
theorem dX5_countStruck_1 : decode cX5_countStruck 1 = .ok (.getfield 19, 3) := by decide +kernel
theorem dX5_countStruck_4 : decode cX5_countStruck 4 = .ok (.invokestatic 26, 3) := by decide +kernel
theorem dX5_countStruck_7 : decode cX5_countStruck 7 = .ok (.ireturn, 1) := by decide +kernel
theorem dX5_add_0 : decode cX5_add 0 = .ok (.aload_n 0, 1) := by decide +kernel
theorem dX5_add_1 : decode cX5_add 1 = .ok (.getfield 9, 3) := by decide +kernel
theorem dX5_add_4 : decode cX5_add 4 = .ok (.aload_n 0, 1) := by decide +kernel
theorem dX5_add_5 : decode cX5_add 5 = .ok (.getfield 15, 3) := by decide +kernel
theorem dX5_add_8 : decode cX5_add 8 = .ok (.iload_n 1, 1) := by decide +kernel
theorem dX5_add_9 : decode cX5_add 9 = .ok (.iastore, 1) := by decide +kernel
theorem dX5_add_10 : decode cX5_add 10 = .ok (.aload_n 0, 1) := by decide +kernel
theorem dX5_add_11 : decode cX5_add 11 = .ok (.dup, 1) := by decide +kernel
theorem dX5_add_12 : decode cX5_add 12 = .ok (.getfield 15, 3) := by decide +kernel
theorem dX5_add_15 : decode cX5_add 15 = .ok (.iconst 1, 1) := by decide +kernel
theorem dX5_add_16 : decode cX5_add 16 = .ok (.iadd, 1) := by decide +kernel
theorem dX5_add_17 : decode cX5_add 17 = .ok (.putfield 15, 3) := by decide +kernel
theorem dX5_add_20 : decode cX5_add 20 = .ok (.bipush 10, 2) := by decide +kernel
theorem dX5_add_22 : decode cX5_add 22 = .ok (.aload_n 0, 1) := by decide +kernel
theorem dX5_add_23 : decode cX5_add 23 = .ok (.getfield 15, 3) := by decide +kernel
theorem dX5_add_26 : decode cX5_add 26 = .ok (.iadd, 1) := by decide +kernel
theorem dX5_add_27 : decode cX5_add 27 = .ok (.iconst 1, 1) := by decide +kernel
theorem dX5_add_28 : decode cX5_add 28 = .ok (.isub, 1) := by decide +kernel
theorem dX5_add_29 : decode cX5_add 29 = .ok (.ireturn, 1) := by decide +kernel
set_option maxRecDepth 20000 in
theorem ggX5_strike_X5_countStruck : GoodIn wsX5_strike wsX5_countStruck := goodIn_r _ [8, 3, 9, 10, 11, 12, 13, 14, 15, 26, 27, 28] (by decide +kernel) (by decide +kernel)
set_option maxRecDepth 20000 in
theorem gX5_strike_X5_countStruck : GoodIn wsX5_strike (wsV RX5 32 RX5 yX5_countStruck wsX5_countStruck) := goodIn_app (goodIn_of _ (by decide +kernel)) ggX5_strike_X5_countStruck
set_option maxRecDepth 20000 in
theorem ggX5_strike_X0_firstPairWithin : GoodIn wsX5_strike wsX0_firstPairWithin := goodIn_r _ [20, 21, 22, 23, 24, 25, 29, 30, 31, 32] (by decide +kernel) (by decide +kernel)
set_option maxRecDepth 20000 in
theorem gX5_strike_X0_firstPairWithin : GoodIn wsX5_strike (wsV RX5 36 RX0 yX0_firstPairWithin wsX0_firstPairWithin) := goodIn_app (goodIn_of _ (by decide +kernel)) ggX5_strike_X0_firstPairWithin
theorem dX5_strike_0 : decode cX5_strike 0 = .ok (.aload_n 0, 1) := by decide +kernel
theorem dX5_strike_1 : decode cX5_strike 1 = .ok (.invokevirtual 32, 3) := by decide +kernel
theorem dX5_strike_4 : decode cX5_strike 4 = .ok (.istore_n 2, 1) := by decide +kernel
theorem dX5_strike_5 : decode cX5_strike 5 = .ok (.iconst 0, 1) := by decide +kernel
theorem dX5_strike_6 : decode cX5_strike 6 = .ok (.istore_n 3, 1) := by decide +kernel
theorem dX5_strike_7 : decode cX5_strike 7 = .ok (.iload_n 3, 1) := by decide +kernel
theorem dX5_strike_8 : decode cX5_strike 8 = .ok (.aload_n 0, 1) := by decide +kernel
theorem dX5_strike_9 : decode cX5_strike 9 = .ok (.getfield 15, 3) := by decide +kernel
theorem dX5_strike_12 : decode cX5_strike 12 = .ok (.if_icmp .ge 35, 3) := by decide +kernel
theorem dX5_strike_15 : decode cX5_strike 15 = .ok (.aload_n 1, 1) := by decide +kernel
theorem dX5_strike_16 : decode cX5_strike 16 = .ok (.aload_n 0, 1) := by decide +kernel
theorem dX5_strike_17 : decode cX5_strike 17 = .ok (.getfield 9, 3) := by decide +kernel
theorem dX5_strike_20 : decode cX5_strike 20 = .ok (.iload_n 3, 1) := by decide +kernel
theorem dX5_strike_21 : decode cX5_strike 21 = .ok (.iaload, 1) := by decide +kernel
theorem dX5_strike_22 : decode cX5_strike 22 = .ok (.invokevirtual 36, 3) := by decide +kernel
theorem dX5_strike_25 : decode cX5_strike 25 = .ok (.iconst (-1), 1) := by decide +kernel
theorem dX5_strike_26 : decode cX5_strike 26 = .ok (.if_icmp .eq 15, 3) := by decide +kernel
theorem dX5_strike_29 : decode cX5_strike 29 = .ok (.aload_n 0, 1) := by decide +kernel
theorem dX5_strike_30 : decode cX5_strike 30 = .ok (.dup, 1) := by decide +kernel
theorem dX5_strike_31 : decode cX5_strike 31 = .ok (.getfield 19, 3) := by decide +kernel
theorem dX5_strike_34 : decode cX5_strike 34 = .ok (.iconst 1, 1) := by decide +kernel
theorem dX5_strike_35 : decode cX5_strike 35 = .ok (.iload_n 3, 1) := by decide +kernel
theorem dX5_strike_36 : decode cX5_strike 36 = .ok (.ishl, 1) := by decide +kernel
theorem dX5_strike_37 : decode cX5_strike 37 = .ok (.ior, 1) := by decide +kernel
theorem dX5_strike_38 : decode cX5_strike 38 = .ok (.putfield 19, 3) := by decide +kernel
theorem dX5_strike_41 : decode cX5_strike 41 = .ok (.iinc 3 1, 3) := by decide +kernel
theorem dX5_strike_44 : decode cX5_strike 44 = .ok (.goto (-37), 3) := by decide +kernel
theorem dX5_strike_47 : decode cX5_strike 47 = .ok (.aload_n 0, 1) := by decide +kernel
theorem dX5_strike_48 : decode cX5_strike 48 = .ok (.invokevirtual 32, 3) := by decide +kernel
theorem dX5_strike_51 : decode cX5_strike 51 = .ok (.iload_n 2, 1) := by decide +kernel
theorem dX5_strike_52 : decode cX5_strike 52 = .ok (.isub, 1) := by decide +kernel
theorem dX5_strike_53 : decode cX5_strike 53 = .ok (.ireturn, 1) := by decide +kernel
set_option maxRecDepth 20000 in
theorem ggX5_countWith_X6_contains : GoodIn wsX5_countWith wsX6_contains := goodIn_r _ [6] (by decide +kernel) (by decide +kernel)
set_option maxRecDepth 20000 in
theorem gX5_countWith_X6_contains_n22 : GoodIn wsX5_countWith (wsX6_contains) := ggX5_countWith_X6_contains
theorem dX5_countWith_0 : decode cX5_countWith 0 = .ok (.iconst 0, 1) := by decide +kernel
theorem dX5_countWith_1 : decode cX5_countWith 1 = .ok (.istore_n 2, 1) := by decide +kernel
theorem dX5_countWith_2 : decode cX5_countWith 2 = .ok (.iconst 0, 1) := by decide +kernel
theorem dX5_countWith_3 : decode cX5_countWith 3 = .ok (.istore_n 3, 1) := by decide +kernel
theorem dX5_countWith_4 : decode cX5_countWith 4 = .ok (.iload_n 3, 1) := by decide +kernel
theorem dX5_countWith_5 : decode cX5_countWith 5 = .ok (.aload_n 0, 1) := by decide +kernel
theorem dX5_countWith_6 : decode cX5_countWith 6 = .ok (.getfield 15, 3) := by decide +kernel
theorem dX5_countWith_9 : decode cX5_countWith 9 = .ok (.if_icmp .ge 36, 3) := by decide +kernel
theorem dX5_countWith_12 : decode cX5_countWith 12 = .ok (.aload_n 0, 1) := by decide +kernel
theorem dX5_countWith_13 : decode cX5_countWith 13 = .ok (.getfield 19, 3) := by decide +kernel
theorem dX5_countWith_16 : decode cX5_countWith 16 = .ok (.iload_n 3, 1) := by decide +kernel
theorem dX5_countWith_17 : decode cX5_countWith 17 = .ok (.invokestatic 22, 3) := by decide +kernel
theorem dX5_countWith_20 : decode cX5_countWith 20 = .ok (.ifCond .ne 19, 3) := by decide +kernel
theorem dX5_countWith_23 : decode cX5_countWith 23 = .ok (.aload_n 0, 1) := by decide +kernel
theorem dX5_countWith_24 : decode cX5_countWith 24 = .ok (.getfield 9, 3) := by decide +kernel
theorem dX5_countWith_27 : decode cX5_countWith 27 = .ok (.iload_n 3, 1) := by decide +kernel
theorem dX5_countWith_28 : decode cX5_countWith 28 = .ok (.iaload, 1) := by decide +kernel
theorem dX5_countWith_29 : decode cX5_countWith 29 = .ok (.iload_n 1, 1) := by decide +kernel
theorem dX5_countWith_30 : decode cX5_countWith 30 = .ok (.invokestatic 22, 3) := by decide +kernel
theorem dX5_countWith_33 : decode cX5_countWith 33 = .ok (.ifCond .eq 6, 3) := by decide +kernel
theorem dX5_countWith_36 : decode cX5_countWith 36 = .ok (.iinc 2 1, 3) := by decide +kernel
theorem dX5_countWith_39 : decode cX5_countWith 39 = .ok (.iinc 3 1, 3) := by decide +kernel
theorem dX5_countWith_42 : decode cX5_countWith 42 = .ok (.goto (-38), 3) := by decide +kernel
theorem dX5_countWith_45 : decode cX5_countWith 45 = .ok (.iload_n 2, 1) := by decide +kernel
theorem dX5_countWith_46 : decode cX5_countWith 46 = .ok (.ireturn, 1) := by decide +kernel
set_option maxRecDepth 20000 in
theorem ggX5_areSound_X6_contains : GoodIn wsX5_areSound wsX6_contains := goodIn_r _ [6] (by decide +kernel) (by decide +kernel)
set_option maxRecDepth 20000 in
theorem gX5_areSound_X6_contains_n22 : GoodIn wsX5_areSound (wsX6_contains) := ggX5_areSound_X6_contains
set_option maxRecDepth 20000 in
theorem ggX5_areSound_X0_firstPairWithin : GoodIn wsX5_areSound wsX0_firstPairWithin := goodIn_r _ [11, 12, 13, 4, 5, 6, 17, 18, 19, 20] (by decide +kernel) (by decide +kernel)
set_option maxRecDepth 20000 in
theorem gX5_areSound_X0_firstPairWithin : GoodIn wsX5_areSound (wsV RX5 36 RX0 yX0_firstPairWithin wsX0_firstPairWithin) := goodIn_app (goodIn_of _ (by decide +kernel)) ggX5_areSound_X0_firstPairWithin
theorem dX5_areSound_0 : decode cX5_areSound 0 = .ok (.iconst 0, 1) := by decide +kernel
theorem dX5_areSound_1 : decode cX5_areSound 1 = .ok (.istore_n 2, 1) := by decide +kernel
theorem dX5_areSound_2 : decode cX5_areSound 2 = .ok (.iload_n 2, 1) := by decide +kernel
theorem dX5_areSound_3 : decode cX5_areSound 3 = .ok (.aload_n 0, 1) := by decide +kernel
theorem dX5_areSound_4 : decode cX5_areSound 4 = .ok (.getfield 15, 3) := by decide +kernel
theorem dX5_areSound_7 : decode cX5_areSound 7 = .ok (.if_icmp .ge 36, 3) := by decide +kernel
theorem dX5_areSound_10 : decode cX5_areSound 10 = .ok (.aload_n 0, 1) := by decide +kernel
theorem dX5_areSound_11 : decode cX5_areSound 11 = .ok (.getfield 19, 3) := by decide +kernel
theorem dX5_areSound_14 : decode cX5_areSound 14 = .ok (.iload_n 2, 1) := by decide +kernel
theorem dX5_areSound_15 : decode cX5_areSound 15 = .ok (.invokestatic 22, 3) := by decide +kernel
theorem dX5_areSound_18 : decode cX5_areSound 18 = .ok (.ifCond .ne 19, 3) := by decide +kernel
theorem dX5_areSound_21 : decode cX5_areSound 21 = .ok (.aload_n 1, 1) := by decide +kernel
theorem dX5_areSound_22 : decode cX5_areSound 22 = .ok (.aload_n 0, 1) := by decide +kernel
theorem dX5_areSound_23 : decode cX5_areSound 23 = .ok (.getfield 9, 3) := by decide +kernel
theorem dX5_areSound_26 : decode cX5_areSound 26 = .ok (.iload_n 2, 1) := by decide +kernel
theorem dX5_areSound_27 : decode cX5_areSound 27 = .ok (.iaload, 1) := by decide +kernel
theorem dX5_areSound_28 : decode cX5_areSound 28 = .ok (.invokevirtual 36, 3) := by decide +kernel
theorem dX5_areSound_31 : decode cX5_areSound 31 = .ok (.iconst (-1), 1) := by decide +kernel
theorem dX5_areSound_32 : decode cX5_areSound 32 = .ok (.if_icmp .eq 5, 3) := by decide +kernel
theorem dX5_areSound_35 : decode cX5_areSound 35 = .ok (.iconst 0, 1) := by decide +kernel
theorem dX5_areSound_36 : decode cX5_areSound 36 = .ok (.ireturn, 1) := by decide +kernel
theorem dX5_areSound_37 : decode cX5_areSound 37 = .ok (.iinc 2 1, 3) := by decide +kernel
theorem dX5_areSound_40 : decode cX5_areSound 40 = .ok (.goto (-38), 3) := by decide +kernel
theorem dX5_areSound_43 : decode cX5_areSound 43 = .ok (.iconst 1, 1) := by decide +kernel
theorem dX5_areSound_44 : decode cX5_areSound 44 = .ok (.ireturn, 1) := by decide +kernel
set_option maxRecDepth 20000 in
theorem ggX6_init_X0_init : GoodIn wsX6_init wsX0_init := goodIn_r _ [21, 22, 2, 3, 23, 24, 25, 26, 27, 28, 29, 30, 31, 32, 33, 95, 66, 67, 68, 69] (by decide +kernel) (by decide +kernel)
set_option maxRecDepth 20000 in
theorem gX6_init_X0_init_n9 : GoodIn wsX6_init (wsX0_init) := ggX6_init_X0_init
set_option maxRecDepth 20000 in
theorem ggX6_init_X5_init : GoodIn wsX6_init wsX5_init := goodIn_r _ [35, 36, 2, 3, 27, 37, 75, 76, 77] (by decide +kernel) (by decide +kernel)
set_option maxRecDepth 20000 in
theorem gX6_init_X5_init_n18 : GoodIn wsX6_init (wsX5_init) := ggX6_init_X5_init
set_option maxRecDepth 20000 in
theorem ggX6_init_X2_init : GoodIn wsX6_init wsX2_init := goodIn_r _ [39, 40, 2, 3, 27, 41, 42, 43, 44, 24, 25, 45, 30, 31, 32, 33, 78, 79, 80, 81, 82, 83, 84, 85, 95] (by decide +kernel) (by decide +kernel)
set_option maxRecDepth 20000 in
theorem gX6_init_X2_init_n25 : GoodIn wsX6_init (wsX2_init) := ggX6_init_X2_init
set_option maxRecDepth 20000 in
theorem ggX6_init_X4_init : GoodIn wsX6_init wsX4_init := goodIn_r _ [47, 48, 2, 3, 27, 49, 50, 24, 25, 51, 52, 53, 54, 55, 56, 57, 58, 59, 30, 31, 32, 33, 60, 61, 62, 63, 64, 65, 86, 87, 88, 89, 90, 91, 92, 93, 94, 95, 96, 97, 98] (by decide +kernel) (by decide +kernel)
set_option maxRecDepth 20000 in
theorem gX6_init_X4_init_n32 : GoodIn wsX6_init (wsX4_init) := ggX6_init_X4_init
theorem dX6_init_0 : decode cX6_init 0 = .ok (.aload_n 0, 1) := by decide +kernel
theorem dX6_init_1 : decode cX6_init 1 = .ok (.invokespecial 1, 3) := by decide +kernel
theorem dX6_init_4 : decode cX6_init 4 = .ok (.aload_n 0, 1) := by decide +kernel
theorem dX6_init_5 : decode cX6_init 5 = .ok (.new 7, 3) := by decide +kernel
theorem dX6_init_8 : decode cX6_init 8 = .ok (.dup, 1) := by decide +kernel
theorem dX6_init_9 : decode cX6_init 9 = .ok (.invokespecial 9, 3) := by decide +kernel
theorem dX6_init_12 : decode cX6_init 12 = .ok (.putfield 10, 3) := by decide +kernel
theorem dX6_init_15 : decode cX6_init 15 = .ok (.aload_n 0, 1) := by decide +kernel
theorem dX6_init_16 : decode cX6_init 16 = .ok (.new 16, 3) := by decide +kernel
theorem dX6_init_19 : decode cX6_init 19 = .ok (.dup, 1) := by decide +kernel
theorem dX6_init_20 : decode cX6_init 20 = .ok (.invokespecial 18, 3) := by decide +kernel
theorem dX6_init_23 : decode cX6_init 23 = .ok (.putfield 19, 3) := by decide +kernel
theorem dX6_init_26 : decode cX6_init 26 = .ok (.aload_n 0, 1) := by decide +kernel
theorem dX6_init_27 : decode cX6_init 27 = .ok (.new 23, 3) := by decide +kernel
theorem dX6_init_30 : decode cX6_init 30 = .ok (.dup, 1) := by decide +kernel
theorem dX6_init_31 : decode cX6_init 31 = .ok (.invokespecial 25, 3) := by decide +kernel
theorem dX6_init_34 : decode cX6_init 34 = .ok (.putfield 26, 3) := by decide +kernel
theorem dX6_init_37 : decode cX6_init 37 = .ok (.aload_n 0, 1) := by decide +kernel
theorem dX6_init_38 : decode cX6_init 38 = .ok (.new 30, 3) := by decide +kernel
theorem dX6_init_41 : decode cX6_init 41 = .ok (.dup, 1) := by decide +kernel
theorem dX6_init_42 : decode cX6_init 42 = .ok (.invokespecial 32, 3) := by decide +kernel
theorem dX6_init_45 : decode cX6_init 45 = .ok (.putfield 33, 3) := by decide +kernel
theorem dX6_init_48 : decode cX6_init 48 = .ok (.return_, 1) := by decide +kernel
set_option maxRecDepth 20000 in
theorem ggX6_source_X0_count : GoodIn wsX6_source wsX0_count := goodIn_r _ [8, 9, 19, 20, 21, 22] (by decide +kernel) (by decide +kernel)
set_option maxRecDepth 20000 in
theorem gX6_source_X0_count : GoodIn wsX6_source (wsV RX6 37 RX0 yX0_count wsX0_count) := goodIn_app (goodIn_of _ (by decide +kernel)) ggX6_source_X0_count
set_option maxRecDepth 20000 in
theorem ggX6_source_X0_addSource : GoodIn wsX6_source wsX0_addSource := goodIn_r _ [13, 9, 19, 20, 21, 22] (by decide +kernel) (by decide +kernel)
set_option maxRecDepth 20000 in
theorem gX6_source_X0_addSource : GoodIn wsX6_source (wsV RX6 48 RX0 yX0_addSource wsX0_addSource) := goodIn_app (goodIn_of _ (by decide +kernel)) ggX6_source_X0_addSource
theorem dX6_source_0 : decode cX6_source 0 = .ok (.aload_n 0, 1) := by decide +kernel
theorem dX6_source_1 : decode cX6_source 1 = .ok (.getfield 10, 3) := by decide +kernel
theorem dX6_source_4 : decode cX6_source 4 = .ok (.invokevirtual 37, 3) := by decide +kernel
theorem dX6_source_7 : decode cX6_source 7 = .ok (.bipush 7, 2) := by decide +kernel
theorem dX6_source_9 : decode cX6_source 9 = .ok (.if_icmp .lt 13, 3) := by decide +kernel
theorem dX6_source_12 : decode cX6_source 12 = .ok (.new 41, 3) := by decide +kernel
theorem dX6_source_15 : decode cX6_source 15 = .ok (.dup, 1) := by decide +kernel
theorem dX6_source_16 : decode cX6_source 16 = .ok (.ldc 43, 2) := by decide +kernel
theorem dX6_source_18 : decode cX6_source 18 = .ok (.invokespecial 45, 3) := by decide +kernel
theorem dX6_source_21 : decode cX6_source 21 = .ok (.athrow, 1) := by decide +kernel
theorem dX6_source_22 : decode cX6_source 22 = .ok (.aload_n 0, 1) := by decide +kernel
theorem dX6_source_23 : decode cX6_source 23 = .ok (.getfield 10, 3) := by decide +kernel
theorem dX6_source_26 : decode cX6_source 26 = .ok (.invokevirtual 48, 3) := by decide +kernel
theorem dX6_source_29 : decode cX6_source 29 = .ok (.ireturn, 1) := by decide +kernel
set_option maxRecDepth 20000 in
theorem ggX6_kin_X6_needSource : GoodIn wsX6_kin wsX6_needSource := goodIn_ca (goodIn_r _ [8, 9, 10, 3, 11, 12, 13, 14, 15, 16, 121, 122, 123, 124, 125, 126, 127, 128, 129] (by decide +kernel) (by decide +kernel)) (goodIn_sub (fun _ h => List.mem_cons_of_mem _ (List.mem_append_right _ h)) (by decide +kernel))
set_option maxRecDepth 20000 in
theorem gX6_kin_X6_needSource : GoodIn wsX6_kin (wsV RX6 51 RX6 yX6_needSource wsX6_needSource) := goodIn_app (goodIn_of _ (by decide +kernel)) ggX6_kin_X6_needSource
set_option maxRecDepth 20000 in
theorem ggX6_kin_X0_tellKin : GoodIn wsX6_kin wsX0_tellKin := goodIn_r _ [20, 21, 22, 23, 24, 25, 26, 27, 28, 29, 30, 31, 32, 33, 34, 14, 35, 36, 37, 38, 39, 40, 41, 42, 43, 44, 45, 46, 7, 47, 126, 127, 128, 129, 130] (by decide +kernel) (by decide +kernel)
set_option maxRecDepth 20000 in
theorem gX6_kin_X0_tellKin : GoodIn wsX6_kin (wsV RX6 60 RX0 yX0_tellKin wsX0_tellKin) := goodIn_app (goodIn_of _ (by decide +kernel)) ggX6_kin_X0_tellKin
set_option maxRecDepth 20000 in
theorem ggX6_kin_X6_applyBar : GoodIn wsX6_kin wsX6_applyBar := goodIn_r _ [51, 52, 3, 53, 54, 55, 56, 57, 58, 59, 60, 61, 62, 63, 64, 65, 66, 67, 68, 69, 70, 71, 46, 7, 47, 72, 73, 74, 75, 76, 77, 78, 79, 80, 81, 82, 83, 84, 85, 86, 87, 88, 89, 90, 91, 92, 25, 93, 27, 94, 23, 24, 26, 95, 96, 97, 14, 98, 16, 99, 100, 101, 102, 36, 103, 39, 40, 41, 42, 43, 44, 45, 104, 105, 106, 107, 108, 109, 110, 111, 112, 113, 114, 115, 116, 117, 118, 119, 120, 121, 122, 123, 124, 125, 131, 132, 133, 134, 135, 136, 137, 138, 130, 126, 127, 128, 129, 139, 140, 141] (by decide +kernel) (by decide +kernel)
set_option maxRecDepth 20000 in
theorem gX6_kin_X6_applyBar : GoodIn wsX6_kin (wsV RX6 64 RX6 yX6_applyBar wsX6_applyBar) := goodIn_app (goodIn_of _ (by decide +kernel)) ggX6_kin_X6_applyBar
theorem dX6_kin_0 : decode cX6_kin 0 = .ok (.aload_n 0, 1) := by decide +kernel
theorem dX6_kin_1 : decode cX6_kin 1 = .ok (.iload_n 1, 1) := by decide +kernel
theorem dX6_kin_2 : decode cX6_kin 2 = .ok (.invokevirtual 51, 3) := by decide +kernel
theorem dX6_kin_5 : decode cX6_kin 5 = .ok (.aload_n 0, 1) := by decide +kernel
theorem dX6_kin_6 : decode cX6_kin 6 = .ok (.iload_n 2, 1) := by decide +kernel
theorem dX6_kin_7 : decode cX6_kin 7 = .ok (.invokevirtual 51, 3) := by decide +kernel
theorem dX6_kin_10 : decode cX6_kin 10 = .ok (.iload_n 1, 1) := by decide +kernel
theorem dX6_kin_11 : decode cX6_kin 11 = .ok (.iload_n 2, 1) := by decide +kernel
theorem dX6_kin_12 : decode cX6_kin 12 = .ok (.if_icmp .ne 13, 3) := by decide +kernel
theorem dX6_kin_15 : decode cX6_kin 15 = .ok (.new 55, 3) := by decide +kernel
theorem dX6_kin_18 : decode cX6_kin 18 = .ok (.dup, 1) := by decide +kernel
theorem dX6_kin_19 : decode cX6_kin 19 = .ok (.ldc 57, 2) := by decide +kernel
theorem dX6_kin_21 : decode cX6_kin 21 = .ok (.invokespecial 59, 3) := by decide +kernel
theorem dX6_kin_24 : decode cX6_kin 24 = .ok (.athrow, 1) := by decide +kernel
theorem dX6_kin_25 : decode cX6_kin 25 = .ok (.aload_n 0, 1) := by decide +kernel
theorem dX6_kin_26 : decode cX6_kin 26 = .ok (.getfield 10, 3) := by decide +kernel
theorem dX6_kin_29 : decode cX6_kin 29 = .ok (.iload_n 1, 1) := by decide +kernel
theorem dX6_kin_30 : decode cX6_kin 30 = .ok (.iload_n 2, 1) := by decide +kernel
theorem dX6_kin_31 : decode cX6_kin 31 = .ok (.iload_n 3, 1) := by decide +kernel
theorem dX6_kin_32 : decode cX6_kin 32 = .ok (.invokevirtual 60, 3) := by decide +kernel
theorem dX6_kin_35 : decode cX6_kin 35 = .ok (.aload_n 0, 1) := by decide +kernel
theorem dX6_kin_36 : decode cX6_kin 36 = .ok (.invokevirtual 64, 3) := by decide +kernel
theorem dX6_kin_39 : decode cX6_kin 39 = .ok (.ireturn, 1) := by decide +kernel
set_option maxRecDepth 20000 in
theorem ggX6_bar_X0_tellBar : GoodIn wsX6_bar wsX0_tellBar := goodIn_r _ [8, 9, 10, 11, 12, 7, 13, 14, 15, 16, 17, 18, 19, 20, 21, 22, 23, 24, 25, 26, 27, 28, 111, 112, 113, 114, 115] (by decide +kernel) (by decide +kernel)
set_option maxRecDepth 20000 in
theorem gX6_bar_X0_tellBar : GoodIn wsX6_bar (wsV RX6 69 RX0 yX0_tellBar wsX0_tellBar) := goodIn_app (goodIn_of _ (by decide +kernel)) ggX6_bar_X0_tellBar
set_option maxRecDepth 20000 in
theorem ggX6_bar_X6_applyBar : GoodIn wsX6_bar wsX6_applyBar := goodIn_r _ [32, 33, 3, 34, 35, 36, 37, 38, 39, 40, 41, 42, 43, 44, 45, 46, 47, 48, 49, 50, 51, 52, 26, 27, 28, 53, 54, 55, 56, 57, 58, 59, 60, 61, 62, 63, 64, 65, 66, 67, 68, 69, 70, 71, 72, 73, 19, 74, 25, 75, 76, 77, 78, 79, 80, 81, 7, 82, 83, 84, 85, 86, 87, 14, 88, 17, 18, 20, 21, 22, 23, 24, 89, 90, 91, 92, 93, 94, 95, 96, 97, 98, 99, 100, 101, 102, 103, 104, 105, 106, 107, 108, 109, 110, 116, 117, 118, 119, 120, 121, 122, 123, 115, 111, 112, 113, 114, 124, 125, 126] (by decide +kernel) (by decide +kernel)
set_option maxRecDepth 20000 in
theorem gX6_bar_X6_applyBar : GoodIn wsX6_bar (wsV RX6 64 RX6 yX6_applyBar wsX6_applyBar) := goodIn_app (goodIn_of _ (by decide +kernel)) ggX6_bar_X6_applyBar
theorem dX6_bar_0 : decode cX6_bar 0 = .ok (.iload_n 1, 1) := by decide +kernel
theorem dX6_bar_1 : decode cX6_bar 1 = .ok (.ifCond .lt 8, 3) := by decide +kernel
theorem dX6_bar_4 : decode cX6_bar 4 = .ok (.iload_n 1, 1) := by decide +kernel
theorem dX6_bar_5 : decode cX6_bar 5 = .ok (.iconst 5, 1) := by decide +kernel
theorem dX6_bar_6 : decode cX6_bar 6 = .ok (.if_icmp .le 13, 3) := by decide +kernel
theorem dX6_bar_9 : decode cX6_bar 9 = .ok (.new 55, 3) := by decide +kernel
theorem dX6_bar_12 : decode cX6_bar 12 = .ok (.dup, 1) := by decide +kernel
theorem dX6_bar_13 : decode cX6_bar 13 = .ok (.ldc 67, 2) := by decide +kernel
theorem dX6_bar_15 : decode cX6_bar 15 = .ok (.invokespecial 59, 3) := by decide +kernel
theorem dX6_bar_18 : decode cX6_bar 18 = .ok (.athrow, 1) := by decide +kernel
theorem dX6_bar_19 : decode cX6_bar 19 = .ok (.aload_n 0, 1) := by decide +kernel
theorem dX6_bar_20 : decode cX6_bar 20 = .ok (.getfield 10, 3) := by decide +kernel
theorem dX6_bar_23 : decode cX6_bar 23 = .ok (.iload_n 1, 1) := by decide +kernel
theorem dX6_bar_24 : decode cX6_bar 24 = .ok (.invokevirtual 69, 3) := by decide +kernel
theorem dX6_bar_27 : decode cX6_bar 27 = .ok (.aload_n 0, 1) := by decide +kernel
theorem dX6_bar_28 : decode cX6_bar 28 = .ok (.invokevirtual 64, 3) := by decide +kernel
theorem dX6_bar_31 : decode cX6_bar 31 = .ok (.ireturn, 1) := by decide +kernel
set_option maxRecDepth 20000 in
theorem ggX6_join_X6_lineOf : GoodIn wsX6_join wsX6_lineOf := goodIn_ca (goodIn_r _ [9, 10, 11, 3, 4, 12, 13, 14, 15, 16, 17, 18, 19, 20, 21, 22, 23, 24, 25, 26, 27, 28, 29, 8, 30, 31, 32, 33, 34, 35, 49, 50, 51, 52, 53, 54, 55, 56, 57, 58, 59, 60] (by decide +kernel) (by decide +kernel)) (goodIn_sub (fun _ h => List.mem_cons_of_mem _ (List.mem_append_right _ h)) (by decide +kernel))
set_option maxRecDepth 20000 in
theorem gX6_join_X6_lineOf : GoodIn wsX6_join (wsV RX6 72 RX6 yX6_lineOf wsX6_lineOf) := goodIn_app (goodIn_of _ (by decide +kernel)) ggX6_join_X6_lineOf
set_option maxRecDepth 20000 in
theorem ggX6_join_X0_firstPairWithin : GoodIn wsX6_join wsX0_firstPairWithin := goodIn_r _ [39, 17, 40, 29, 8, 30, 54, 55, 56, 57] (by decide +kernel) (by decide +kernel)
set_option maxRecDepth 20000 in
theorem gX6_join_X0_firstPairWithin : GoodIn wsX6_join (wsV RX6 76 RX0 yX0_firstPairWithin wsX0_firstPairWithin) := goodIn_app (goodIn_of _ (by decide +kernel)) ggX6_join_X0_firstPairWithin
set_option maxRecDepth 20000 in
theorem ggX6_join_X5_count : GoodIn wsX6_join wsX5_count := goodIn_r _ [44, 23, 58, 59, 60] (by decide +kernel) (by decide +kernel)
set_option maxRecDepth 20000 in
theorem gX6_join_X5_count : GoodIn wsX6_join (wsV RX6 81 RX5 yX5_count wsX5_count) := goodIn_app (goodIn_of _ (by decide +kernel)) ggX6_join_X5_count
set_option maxRecDepth 20000 in
theorem ggX6_join_X5_add : GoodIn wsX6_join wsX5_add := goodIn_r _ [48, 35, 23, 58, 59, 60] (by decide +kernel) (by decide +kernel)
set_option maxRecDepth 20000 in
theorem gX6_join_X5_add : GoodIn wsX6_join (wsV RX6 84 RX5 yX5_add wsX5_add) := goodIn_app (goodIn_of _ (by decide +kernel)) ggX6_join_X5_add
theorem dX6_join_0 : decode cX6_join 0 = .ok (.aload_n 0, 1) := by decide +kernel
theorem dX6_join_1 : decode cX6_join 1 = .ok (.iload_n 1, 1) := by decide +kernel
theorem dX6_join_2 : decode cX6_join 2 = .ok (.invokevirtual 72, 3) := by decide +kernel
theorem dX6_join_5 : decode cX6_join 5 = .ok (.aload_n 0, 1) := by decide +kernel
theorem dX6_join_6 : decode cX6_join 6 = .ok (.iload_n 2, 1) := by decide +kernel
theorem dX6_join_7 : decode cX6_join 7 = .ok (.invokevirtual 72, 3) := by decide +kernel
theorem dX6_join_10 : decode cX6_join 10 = .ok (.ior, 1) := by decide +kernel
theorem dX6_join_11 : decode cX6_join 11 = .ok (.istore_n 3, 1) := by decide +kernel
theorem dX6_join_12 : decode cX6_join 12 = .ok (.aload_n 0, 1) := by decide +kernel
theorem dX6_join_13 : decode cX6_join 13 = .ok (.getfield 10, 3) := by decide +kernel
theorem dX6_join_16 : decode cX6_join 16 = .ok (.iload_n 3, 1) := by decide +kernel
theorem dX6_join_17 : decode cX6_join 17 = .ok (.invokevirtual 76, 3) := by decide +kernel
theorem dX6_join_20 : decode cX6_join 20 = .ok (.iconst (-1), 1) := by decide +kernel
theorem dX6_join_21 : decode cX6_join 21 = .ok (.if_icmp .eq 13, 3) := by decide +kernel
theorem dX6_join_24 : decode cX6_join 24 = .ok (.new 41, 3) := by decide +kernel
theorem dX6_join_27 : decode cX6_join 27 = .ok (.dup, 1) := by decide +kernel
theorem dX6_join_28 : decode cX6_join 28 = .ok (.ldc 79, 2) := by decide +kernel
theorem dX6_join_30 : decode cX6_join 30 = .ok (.invokespecial 45, 3) := by decide +kernel
theorem dX6_join_33 : decode cX6_join 33 = .ok (.athrow, 1) := by decide +kernel
theorem dX6_join_34 : decode cX6_join 34 = .ok (.aload_n 0, 1) := by decide +kernel
theorem dX6_join_35 : decode cX6_join 35 = .ok (.getfield 19, 3) := by decide +kernel
theorem dX6_join_38 : decode cX6_join 38 = .ok (.invokevirtual 81, 3) := by decide +kernel
theorem dX6_join_41 : decode cX6_join 41 = .ok (.bipush 10, 2) := by decide +kernel
theorem dX6_join_43 : decode cX6_join 43 = .ok (.if_icmp .lt 13, 3) := by decide +kernel
theorem dX6_join_46 : decode cX6_join 46 = .ok (.new 41, 3) := by decide +kernel
theorem dX6_join_49 : decode cX6_join 49 = .ok (.dup, 1) := by decide +kernel
theorem dX6_join_50 : decode cX6_join 50 = .ok (.ldc 82, 2) := by decide +kernel
theorem dX6_join_52 : decode cX6_join 52 = .ok (.invokespecial 45, 3) := by decide +kernel
theorem dX6_join_55 : decode cX6_join 55 = .ok (.athrow, 1) := by decide +kernel
theorem dX6_join_56 : decode cX6_join 56 = .ok (.aload_n 0, 1) := by decide +kernel
theorem dX6_join_57 : decode cX6_join 57 = .ok (.getfield 19, 3) := by decide +kernel
theorem dX6_join_60 : decode cX6_join 60 = .ok (.iload_n 3, 1) := by decide +kernel
theorem dX6_join_61 : decode cX6_join 61 = .ok (.invokevirtual 84, 3) := by decide +kernel
theorem dX6_join_64 : decode cX6_join 64 = .ok (.ireturn, 1) := by decide +kernel
set_option maxRecDepth 20000 in
theorem ggX6_permit_X6_needSource : GoodIn wsX6_permit wsX6_needSource := goodIn_ca (goodIn_r _ [11, 12, 13, 6, 14, 15, 16, 17, 18, 19, 100, 101, 102, 103, 104, 105, 106, 107, 108] (by decide +kernel) (by decide +kernel)) (goodIn_sub (fun _ h => List.mem_cons_of_mem _ (List.mem_append_right _ h)) (by decide +kernel))
set_option maxRecDepth 20000 in
theorem gX6_permit_X6_needSource : GoodIn wsX6_permit (wsV RX6 51 RX6 yX6_needSource wsX6_needSource) := goodIn_app (goodIn_of _ (by decide +kernel)) ggX6_permit_X6_needSource
set_option maxRecDepth 20000 in
theorem ggX6_permit_X2_count : GoodIn wsX6_permit wsX2_count := goodIn_r _ [24, 25, 109, 110, 111, 112, 113, 114, 115, 116] (by decide +kernel) (by decide +kernel)
set_option maxRecDepth 20000 in
theorem gX6_permit_X2_count : GoodIn wsX6_permit (wsV RX6 91 RX2 yX2_count wsX2_count) := goodIn_app (goodIn_of _ (by decide +kernel)) ggX6_permit_X2_count
set_option maxRecDepth 20000 in
theorem ggX6_permit_X2_add : GoodIn wsX6_permit wsX2_add := goodIn_r _ [29, 30, 25, 31, 32, 33, 34, 35, 36, 37, 38, 39, 40, 109, 110, 111, 112, 113, 114, 115, 116] (by decide +kernel) (by decide +kernel)
set_option maxRecDepth 20000 in
theorem gX6_permit_X2_add : GoodIn wsX6_permit (wsV RX6 94 RX2 yX2_add wsX2_add) := goodIn_app (goodIn_of _ (by decide +kernel)) ggX6_permit_X2_add
set_option maxRecDepth 20000 in
theorem ggX6_permit_X2_findRepair : GoodIn wsX6_permit wsX2_findRepair := goodIn_r _ [44, 45, 46, 47, 48, 23, 49, 25, 50, 51, 52, 53, 40, 39, 54, 55, 10, 56, 57, 58, 59, 60, 61, 62, 63, 64, 65, 66, 67, 68, 69, 70, 71, 72, 30, 35, 73, 74, 75, 76, 77, 78, 79, 80, 81, 82, 83, 84, 85, 17, 86, 19, 87, 88, 89, 90, 91, 92, 93, 94, 95, 96, 97, 98, 99, 109, 110, 111, 112, 113, 114, 115, 116, 117, 105, 106, 107, 108] (by decide +kernel) (by decide +kernel)
set_option maxRecDepth 20000 in
theorem gX6_permit_X2_findRepair : GoodIn wsX6_permit (wsV RX6 97 RX2 yX2_findRepair wsX2_findRepair) := goodIn_app (goodIn_of _ (by decide +kernel)) ggX6_permit_X2_findRepair
theorem dX6_permit_0 : decode cX6_permit 0 = .ok (.aload_n 0, 1) := by decide +kernel
theorem dX6_permit_1 : decode cX6_permit 1 = .ok (.iload_n 1, 1) := by decide +kernel
theorem dX6_permit_2 : decode cX6_permit 2 = .ok (.invokevirtual 51, 3) := by decide +kernel
theorem dX6_permit_5 : decode cX6_permit 5 = .ok (.aload_n 0, 1) := by decide +kernel
theorem dX6_permit_6 : decode cX6_permit 6 = .ok (.iload_n 2, 1) := by decide +kernel
theorem dX6_permit_7 : decode cX6_permit 7 = .ok (.invokevirtual 51, 3) := by decide +kernel
theorem dX6_permit_10 : decode cX6_permit 10 = .ok (.iload_n 1, 1) := by decide +kernel
theorem dX6_permit_11 : decode cX6_permit 11 = .ok (.iload_n 2, 1) := by decide +kernel
theorem dX6_permit_12 : decode cX6_permit 12 = .ok (.if_icmp .ne 13, 3) := by decide +kernel
theorem dX6_permit_15 : decode cX6_permit 15 = .ok (.new 55, 3) := by decide +kernel
theorem dX6_permit_18 : decode cX6_permit 18 = .ok (.dup, 1) := by decide +kernel
theorem dX6_permit_19 : decode cX6_permit 19 = .ok (.ldc 87, 2) := by decide +kernel
theorem dX6_permit_21 : decode cX6_permit 21 = .ok (.invokespecial 59, 3) := by decide +kernel
theorem dX6_permit_24 : decode cX6_permit 24 = .ok (.athrow, 1) := by decide +kernel
theorem dX6_permit_25 : decode cX6_permit 25 = .ok (.iload_n 3, 1) := by decide +kernel
theorem dX6_permit_26 : decode cX6_permit 26 = .ok (.ifCond .lt 10, 3) := by decide +kernel
theorem dX6_permit_29 : decode cX6_permit 29 = .ok (.iload_n 3, 1) := by decide +kernel
theorem dX6_permit_30 : decode cX6_permit 30 = .ok (.sipush 999, 3) := by decide +kernel
theorem dX6_permit_33 : decode cX6_permit 33 = .ok (.if_icmp .le 13, 3) := by decide +kernel
theorem dX6_permit_36 : decode cX6_permit 36 = .ok (.new 55, 3) := by decide +kernel
theorem dX6_permit_39 : decode cX6_permit 39 = .ok (.dup, 1) := by decide +kernel
theorem dX6_permit_40 : decode cX6_permit 40 = .ok (.ldc 89, 2) := by decide +kernel
theorem dX6_permit_42 : decode cX6_permit 42 = .ok (.invokespecial 59, 3) := by decide +kernel
theorem dX6_permit_45 : decode cX6_permit 45 = .ok (.athrow, 1) := by decide +kernel
theorem dX6_permit_46 : decode cX6_permit 46 = .ok (.aload_n 0, 1) := by decide +kernel
theorem dX6_permit_47 : decode cX6_permit 47 = .ok (.getfield 26, 3) := by decide +kernel
theorem dX6_permit_50 : decode cX6_permit 50 = .ok (.invokevirtual 91, 3) := by decide +kernel
theorem dX6_permit_53 : decode cX6_permit 53 = .ok (.bipush 8, 2) := by decide +kernel
theorem dX6_permit_55 : decode cX6_permit 55 = .ok (.if_icmp .lt 13, 3) := by decide +kernel
theorem dX6_permit_58 : decode cX6_permit 58 = .ok (.new 41, 3) := by decide +kernel
theorem dX6_permit_61 : decode cX6_permit 61 = .ok (.dup, 1) := by decide +kernel
theorem dX6_permit_62 : decode cX6_permit 62 = .ok (.ldc 92, 2) := by decide +kernel
theorem dX6_permit_64 : decode cX6_permit 64 = .ok (.invokespecial 45, 3) := by decide +kernel
theorem dX6_permit_67 : decode cX6_permit 67 = .ok (.athrow, 1) := by decide +kernel
theorem dX6_permit_68 : decode cX6_permit 68 = .ok (.aload_n 0, 1) := by decide +kernel
theorem dX6_permit_69 : decode cX6_permit 69 = .ok (.getfield 26, 3) := by decide +kernel
theorem dX6_permit_72 : decode cX6_permit 72 = .ok (.iload_n 1, 1) := by decide +kernel
theorem dX6_permit_73 : decode cX6_permit 73 = .ok (.iload_n 2, 1) := by decide +kernel
theorem dX6_permit_74 : decode cX6_permit 74 = .ok (.iload_n 3, 1) := by decide +kernel
theorem dX6_permit_75 : decode cX6_permit 75 = .ok (.invokevirtual 94, 3) := by decide +kernel
theorem dX6_permit_78 : decode cX6_permit 78 = .ok (.istore 4, 2) := by decide +kernel
theorem dX6_permit_80 : decode cX6_permit 80 = .ok (.aload_n 0, 1) := by decide +kernel
theorem dX6_permit_81 : decode cX6_permit 81 = .ok (.getfield 26, 3) := by decide +kernel
theorem dX6_permit_84 : decode cX6_permit 84 = .ok (.aload_n 0, 1) := by decide +kernel
theorem dX6_permit_85 : decode cX6_permit 85 = .ok (.getfield 10, 3) := by decide +kernel
theorem dX6_permit_88 : decode cX6_permit 88 = .ok (.invokevirtual 97, 3) := by decide +kernel
theorem dX6_permit_91 : decode cX6_permit 91 = .ok (.iload 4, 2) := by decide +kernel
theorem dX6_permit_93 : decode cX6_permit 93 = .ok (.ireturn, 1) := by decide +kernel
set_option maxRecDepth 20000 in
theorem ggX6_person_X4_people : GoodIn wsX6_person wsX4_people := goodIn_r _ [10, 11, 22, 23, 24, 25, 26, 27, 28, 29, 30] (by decide +kernel) (by decide +kernel)
set_option maxRecDepth 20000 in
theorem gX6_person_X4_people : GoodIn wsX6_person (wsV RX6 120 RX4 yX4_people wsX4_people) := goodIn_app (goodIn_of _ (by decide +kernel)) ggX6_person_X4_people
set_option maxRecDepth 20000 in
theorem ggX6_person_X4_addPerson : GoodIn wsX6_person wsX4_addPerson := goodIn_r _ [15, 16, 11, 22, 23, 24, 25, 26, 27, 28, 29, 30] (by decide +kernel) (by decide +kernel)
set_option maxRecDepth 20000 in
theorem gX6_person_X4_addPerson : GoodIn wsX6_person (wsV RX6 125 RX4 yX4_addPerson wsX4_addPerson) := goodIn_app (goodIn_of _ (by decide +kernel)) ggX6_person_X4_addPerson
theorem dX6_person_0 : decode cX6_person 0 = .ok (.iload_n 1, 1) := by decide +kernel
theorem dX6_person_1 : decode cX6_person 1 = .ok (.ifCond .lt 10, 3) := by decide +kernel
theorem dX6_person_4 : decode cX6_person 4 = .ok (.iload_n 1, 1) := by decide +kernel
theorem dX6_person_5 : decode cX6_person 5 = .ok (.sipush 999, 3) := by decide +kernel
theorem dX6_person_8 : decode cX6_person 8 = .ok (.if_icmp .le 13, 3) := by decide +kernel
theorem dX6_person_11 : decode cX6_person 11 = .ok (.new 55, 3) := by decide +kernel
theorem dX6_person_14 : decode cX6_person 14 = .ok (.dup, 1) := by decide +kernel
theorem dX6_person_15 : decode cX6_person 15 = .ok (.ldc 118, 2) := by decide +kernel
theorem dX6_person_17 : decode cX6_person 17 = .ok (.invokespecial 59, 3) := by decide +kernel
theorem dX6_person_20 : decode cX6_person 20 = .ok (.athrow, 1) := by decide +kernel
theorem dX6_person_21 : decode cX6_person 21 = .ok (.aload_n 0, 1) := by decide +kernel
theorem dX6_person_22 : decode cX6_person 22 = .ok (.getfield 33, 3) := by decide +kernel
theorem dX6_person_25 : decode cX6_person 25 = .ok (.invokevirtual 120, 3) := by decide +kernel
theorem dX6_person_28 : decode cX6_person 28 = .ok (.bipush 8, 2) := by decide +kernel
theorem dX6_person_30 : decode cX6_person 30 = .ok (.if_icmp .lt 13, 3) := by decide +kernel
theorem dX6_person_33 : decode cX6_person 33 = .ok (.new 41, 3) := by decide +kernel
theorem dX6_person_36 : decode cX6_person 36 = .ok (.dup, 1) := by decide +kernel
theorem dX6_person_37 : decode cX6_person 37 = .ok (.ldc 123, 2) := by decide +kernel
theorem dX6_person_39 : decode cX6_person 39 = .ok (.invokespecial 45, 3) := by decide +kernel
theorem dX6_person_42 : decode cX6_person 42 = .ok (.athrow, 1) := by decide +kernel
theorem dX6_person_43 : decode cX6_person 43 = .ok (.aload_n 0, 1) := by decide +kernel
theorem dX6_person_44 : decode cX6_person 44 = .ok (.getfield 33, 3) := by decide +kernel
theorem dX6_person_47 : decode cX6_person 47 = .ok (.iload_n 1, 1) := by decide +kernel
theorem dX6_person_48 : decode cX6_person 48 = .ok (.invokevirtual 125, 3) := by decide +kernel
theorem dX6_person_51 : decode cX6_person 51 = .ok (.ireturn, 1) := by decide +kernel
set_option maxRecDepth 20000 in
theorem ggX6_asker_X4_askers : GoodIn wsX6_asker wsX4_askers := goodIn_r _ [8, 9, 19, 20, 21, 22, 23, 24, 25, 26, 27] (by decide +kernel) (by decide +kernel)
set_option maxRecDepth 20000 in
theorem gX6_asker_X4_askers : GoodIn wsX6_asker (wsV RX6 128 RX4 yX4_askers wsX4_askers) := goodIn_app (goodIn_of _ (by decide +kernel)) ggX6_asker_X4_askers
set_option maxRecDepth 20000 in
theorem ggX6_asker_X4_addAsker : GoodIn wsX6_asker wsX4_addAsker := goodIn_r _ [13, 9, 19, 20, 21, 22, 23, 24, 25, 26, 27] (by decide +kernel) (by decide +kernel)
set_option maxRecDepth 20000 in
theorem gX6_asker_X4_addAsker : GoodIn wsX6_asker (wsV RX6 133 RX4 yX4_addAsker wsX4_addAsker) := goodIn_app (goodIn_of _ (by decide +kernel)) ggX6_asker_X4_addAsker
theorem dX6_asker_0 : decode cX6_asker 0 = .ok (.aload_n 0, 1) := by decide +kernel
theorem dX6_asker_1 : decode cX6_asker 1 = .ok (.getfield 33, 3) := by decide +kernel
theorem dX6_asker_4 : decode cX6_asker 4 = .ok (.invokevirtual 128, 3) := by decide +kernel
theorem dX6_asker_7 : decode cX6_asker 7 = .ok (.iconst 4, 1) := by decide +kernel
theorem dX6_asker_8 : decode cX6_asker 8 = .ok (.if_icmp .lt 13, 3) := by decide +kernel
theorem dX6_asker_11 : decode cX6_asker 11 = .ok (.new 41, 3) := by decide +kernel
theorem dX6_asker_14 : decode cX6_asker 14 = .ok (.dup, 1) := by decide +kernel
theorem dX6_asker_15 : decode cX6_asker 15 = .ok (.ldc 131, 2) := by decide +kernel
theorem dX6_asker_17 : decode cX6_asker 17 = .ok (.invokespecial 45, 3) := by decide +kernel
theorem dX6_asker_20 : decode cX6_asker 20 = .ok (.athrow, 1) := by decide +kernel
theorem dX6_asker_21 : decode cX6_asker 21 = .ok (.aload_n 0, 1) := by decide +kernel
theorem dX6_asker_22 : decode cX6_asker 22 = .ok (.getfield 33, 3) := by decide +kernel
theorem dX6_asker_25 : decode cX6_asker 25 = .ok (.invokevirtual 133, 3) := by decide +kernel
theorem dX6_asker_28 : decode cX6_asker 28 = .ok (.ireturn, 1) := by decide +kernel
set_option maxRecDepth 20000 in
theorem ggX6_ask_X6_needAsker : GoodIn wsX6_ask wsX6_needAsker := goodIn_ca (goodIn_r _ [6, 7, 8, 1, 9, 10, 11, 12, 13, 14, 107, 108, 109, 110, 111, 112, 113, 114, 115, 116, 117, 118, 119, 120] (by decide +kernel) (by decide +kernel)) (goodIn_sub (fun _ h => List.mem_cons_of_mem _ (List.mem_append_left _ (List.mem_append_right _ h))) (by decide +kernel))
set_option maxRecDepth 20000 in
theorem gX6_ask_X6_needAsker : GoodIn wsX6_ask (wsV RX6 141 RX6 yX6_needAsker wsX6_needAsker) := goodIn_app (goodIn_of _ (by decide +kernel)) ggX6_ask_X6_needAsker
set_option maxRecDepth 20000 in
theorem ggX6_ask_X6_needSomePeople : GoodIn wsX6_ask wsX6_needSomePeople := goodIn_ca (goodIn_r _ [18, 19, 20, 21, 22, 23, 5, 24, 1, 25, 26, 27, 12, 28, 29, 30, 31, 32, 33, 107, 108, 109, 110, 111, 112, 113, 114, 115, 116, 117, 118, 119, 120] (by decide +kernel) (by decide +kernel)) (goodIn_sub (fun _ h => List.mem_cons_of_mem _ (List.mem_append_right _ h)) (by decide +kernel))
set_option maxRecDepth 20000 in
theorem gX6_ask_X6_needSomePeople : GoodIn wsX6_ask (wsV RX6 144 RX6 yX6_needSomePeople wsX6_needSomePeople) := goodIn_app (goodIn_of _ (by decide +kernel)) ggX6_ask_X6_needSomePeople
set_option maxRecDepth 20000 in
theorem ggX6_ask_X4_tell : GoodIn wsX6_ask wsX4_tell := goodIn_r _ [37, 38, 39, 40, 41, 42, 43, 44, 45, 46, 47, 48, 49, 50, 51, 12, 52, 53, 54, 55, 56, 57, 58, 59, 60, 61, 62, 63, 64, 65, 66, 67, 68, 69, 5, 70, 71, 72, 73, 74, 75, 76, 77, 78, 79, 80, 81, 82, 83, 84, 85, 86, 87, 88, 89, 90, 91, 92, 93, 94, 95, 96, 97, 98, 99, 100, 101, 102, 103, 104, 105, 33, 106, 112, 113, 114, 115, 116, 117, 118, 119, 120, 121, 122, 123, 124] (by decide +kernel) (by decide +kernel)
set_option maxRecDepth 20000 in
theorem gX6_ask_X4_tell : GoodIn wsX6_ask (wsV RX6 147 RX4 yX4_tell wsX4_tell) := goodIn_app (goodIn_of _ (by decide +kernel)) ggX6_ask_X4_tell
theorem dX6_ask_0 : decode cX6_ask 0 = .ok (.aload_n 0, 1) := by decide +kernel
theorem dX6_ask_1 : decode cX6_ask 1 = .ok (.iload_n 1, 1) := by decide +kernel
theorem dX6_ask_2 : decode cX6_ask 2 = .ok (.invokevirtual 141, 3) := by decide +kernel
theorem dX6_ask_5 : decode cX6_ask 5 = .ok (.aload_n 0, 1) := by decide +kernel
theorem dX6_ask_6 : decode cX6_ask 6 = .ok (.iload_n 2, 1) := by decide +kernel
theorem dX6_ask_7 : decode cX6_ask 7 = .ok (.invokevirtual 144, 3) := by decide +kernel
theorem dX6_ask_10 : decode cX6_ask 10 = .ok (.aload_n 0, 1) := by decide +kernel
theorem dX6_ask_11 : decode cX6_ask 11 = .ok (.getfield 33, 3) := by decide +kernel
theorem dX6_ask_14 : decode cX6_ask 14 = .ok (.iload_n 1, 1) := by decide +kernel
theorem dX6_ask_15 : decode cX6_ask 15 = .ok (.iload_n 2, 1) := by decide +kernel
theorem dX6_ask_16 : decode cX6_ask 16 = .ok (.invokevirtual 147, 3) := by decide +kernel
theorem dX6_ask_19 : decode cX6_ask 19 = .ok (.ireturn, 1) := by decide +kernel
set_option maxRecDepth 20000 in
theorem ggX6_talk_X6_needAsker : GoodIn wsX6_talk wsX6_needAsker := goodIn_ca (goodIn_r _ [8, 9, 10, 3, 11, 12, 13, 14, 15, 16, 80, 81, 82, 83, 84, 85, 86, 87, 88, 89, 90, 91, 92, 93] (by decide +kernel) (by decide +kernel)) (goodIn_sub (fun _ h => List.mem_cons_of_mem _ (List.mem_append_right _ h)) (by decide +kernel))
set_option maxRecDepth 20000 in
theorem gX6_talk_X6_needAsker : GoodIn wsX6_talk (wsV RX6 141 RX6 yX6_needAsker wsX6_needAsker) := goodIn_app (goodIn_of _ (by decide +kernel)) ggX6_talk_X6_needAsker
set_option maxRecDepth 20000 in
theorem ggX6_talk_X4_letTalk : GoodIn wsX6_talk wsX4_letTalk := goodIn_r _ [20, 21, 22, 23, 24, 25, 14, 26, 27, 28, 29, 30, 31, 32, 33, 34, 35, 36, 37, 38, 39, 40, 41, 42, 7, 43, 44, 45, 46, 47, 48, 49, 50, 51, 52, 53, 54, 55, 56, 57, 58, 59, 60, 61, 62, 63, 64, 65, 66, 67, 68, 69, 70, 71, 72, 73, 74, 75, 76, 77, 78, 79, 85, 86, 87, 88, 89, 90, 91, 92, 93, 94, 95, 96, 97] (by decide +kernel) (by decide +kernel)
set_option maxRecDepth 20000 in
theorem gX6_talk_X4_letTalk : GoodIn wsX6_talk (wsV RX6 153 RX4 yX4_letTalk wsX4_letTalk) := goodIn_app (goodIn_of _ (by decide +kernel)) ggX6_talk_X4_letTalk
theorem dX6_talk_0 : decode cX6_talk 0 = .ok (.aload_n 0, 1) := by decide +kernel
theorem dX6_talk_1 : decode cX6_talk 1 = .ok (.iload_n 1, 1) := by decide +kernel
theorem dX6_talk_2 : decode cX6_talk 2 = .ok (.invokevirtual 141, 3) := by decide +kernel
theorem dX6_talk_5 : decode cX6_talk 5 = .ok (.aload_n 0, 1) := by decide +kernel
theorem dX6_talk_6 : decode cX6_talk 6 = .ok (.iload_n 2, 1) := by decide +kernel
theorem dX6_talk_7 : decode cX6_talk 7 = .ok (.invokevirtual 141, 3) := by decide +kernel
theorem dX6_talk_10 : decode cX6_talk 10 = .ok (.iload_n 1, 1) := by decide +kernel
theorem dX6_talk_11 : decode cX6_talk 11 = .ok (.iload_n 2, 1) := by decide +kernel
theorem dX6_talk_12 : decode cX6_talk 12 = .ok (.if_icmp .ne 13, 3) := by decide +kernel
theorem dX6_talk_15 : decode cX6_talk 15 = .ok (.new 55, 3) := by decide +kernel
theorem dX6_talk_18 : decode cX6_talk 18 = .ok (.dup, 1) := by decide +kernel
theorem dX6_talk_19 : decode cX6_talk 19 = .ok (.ldc 151, 2) := by decide +kernel
theorem dX6_talk_21 : decode cX6_talk 21 = .ok (.invokespecial 59, 3) := by decide +kernel
theorem dX6_talk_24 : decode cX6_talk 24 = .ok (.athrow, 1) := by decide +kernel
theorem dX6_talk_25 : decode cX6_talk 25 = .ok (.aload_n 0, 1) := by decide +kernel
theorem dX6_talk_26 : decode cX6_talk 26 = .ok (.getfield 33, 3) := by decide +kernel
theorem dX6_talk_29 : decode cX6_talk 29 = .ok (.iload_n 1, 1) := by decide +kernel
theorem dX6_talk_30 : decode cX6_talk 30 = .ok (.iload_n 2, 1) := by decide +kernel
theorem dX6_talk_31 : decode cX6_talk 31 = .ok (.invokevirtual 153, 3) := by decide +kernel
theorem dX6_talk_34 : decode cX6_talk 34 = .ok (.ireturn, 1) := by decide +kernel
set_option maxRecDepth 20000 in
theorem ggX6_ofSource_X6_needSource : GoodIn wsX6_ofSource wsX6_needSource := goodIn_ca (goodIn_r _ [10, 11, 12, 3, 13, 14, 15, 16, 17, 18, 85, 86, 87, 88, 89, 90, 91, 92, 93] (by decide +kernel) (by decide +kernel)) (goodIn_sub (fun _ h => List.mem_cons_of_mem _ (List.mem_append_right _ h)) (by decide +kernel))
set_option maxRecDepth 20000 in
theorem gX6_ofSource_X6_needSource : GoodIn wsX6_ofSource (wsV RX6 51 RX6 yX6_needSource wsX6_needSource) := goodIn_app (goodIn_of _ (by decide +kernel)) ggX6_ofSource_X6_needSource
set_option maxRecDepth 20000 in
theorem ggX6_ofSource_X0_kinOf : GoodIn wsX6_ofSource wsX0_kinOf := goodIn_r _ [22, 23, 24, 25, 26, 27, 28, 29, 90, 91, 92, 93, 94] (by decide +kernel) (by decide +kernel)
set_option maxRecDepth 20000 in
theorem gX6_ofSource_X0_kinOf : GoodIn wsX6_ofSource (wsV RX6 160 RX0 yX0_kinOf wsX0_kinOf) := goodIn_app (goodIn_of _ (by decide +kernel)) ggX6_ofSource_X0_kinOf
set_option maxRecDepth 20000 in
theorem ggX6_ofSource_X0_within : GoodIn wsX6_ofSource wsX0_within := goodIn_r _ [33, 34, 90, 91, 92, 93] (by decide +kernel) (by decide +kernel)
set_option maxRecDepth 20000 in
theorem gX6_ofSource_X0_within : GoodIn wsX6_ofSource (wsV RX6 163 RX0 yX0_within wsX0_within) := goodIn_app (goodIn_of _ (by decide +kernel)) ggX6_ofSource_X0_within
set_option maxRecDepth 20000 in
theorem ggX6_ofSource_X2_chained : GoodIn wsX6_ofSource wsX2_chained := goodIn_r _ [39, 40, 41, 42, 43, 38, 44, 45, 46, 47, 48, 49, 50, 51, 52, 53, 9, 54, 55, 56, 57, 58, 59, 60, 61, 62, 63, 27, 64, 29, 65, 66, 67, 68, 69, 70, 71, 72, 73, 74, 75, 76, 95, 96, 97, 98, 99, 100, 101, 102, 94] (by decide +kernel) (by decide +kernel)
set_option maxRecDepth 20000 in
theorem gX6_ofSource_X2_chained : GoodIn wsX6_ofSource (wsV RX6 166 RX2 yX2_chained wsX2_chained) := goodIn_app (goodIn_of _ (by decide +kernel)) ggX6_ofSource_X2_chained
set_option maxRecDepth 20000 in
theorem ggX6_ofSource_X5_countWith : GoodIn wsX6_ofSource wsX5_countWith := goodIn_r _ [81, 82, 83, 84, 53, 9, 54, 103, 104, 105] (by decide +kernel) (by decide +kernel)
set_option maxRecDepth 20000 in
theorem gX6_ofSource_X5_countWith : GoodIn wsX6_ofSource (wsV RX6 169 RX5 yX5_countWith wsX5_countWith) := goodIn_app (goodIn_of _ (by decide +kernel)) ggX6_ofSource_X5_countWith
theorem dX6_ofSource_0 : decode cX6_ofSource 0 = .ok (.aload_n 0, 1) := by decide +kernel
theorem dX6_ofSource_1 : decode cX6_ofSource 1 = .ok (.iload_n 1, 1) := by decide +kernel
theorem dX6_ofSource_2 : decode cX6_ofSource 2 = .ok (.invokevirtual 51, 3) := by decide +kernel
theorem dX6_ofSource_5 : decode cX6_ofSource 5 = .ok (.iload_n 2, 1) := by decide +kernel
theorem dX6_ofSource_6 : decode cX6_ofSource 6 = .ok (.tableswitch 66 0 3 #[30, 39, 48, 57], 30) := by decide +kernel
theorem dX6_ofSource_36 : decode cX6_ofSource 36 = .ok (.aload_n 0, 1) := by decide +kernel
theorem dX6_ofSource_37 : decode cX6_ofSource 37 = .ok (.getfield 10, 3) := by decide +kernel
theorem dX6_ofSource_40 : decode cX6_ofSource 40 = .ok (.iload_n 1, 1) := by decide +kernel
theorem dX6_ofSource_41 : decode cX6_ofSource 41 = .ok (.invokevirtual 160, 3) := by decide +kernel
theorem dX6_ofSource_44 : decode cX6_ofSource 44 = .ok (.ireturn, 1) := by decide +kernel
theorem dX6_ofSource_45 : decode cX6_ofSource 45 = .ok (.aload_n 0, 1) := by decide +kernel
theorem dX6_ofSource_46 : decode cX6_ofSource 46 = .ok (.getfield 10, 3) := by decide +kernel
theorem dX6_ofSource_49 : decode cX6_ofSource 49 = .ok (.iload_n 1, 1) := by decide +kernel
theorem dX6_ofSource_50 : decode cX6_ofSource 50 = .ok (.invokevirtual 163, 3) := by decide +kernel
theorem dX6_ofSource_53 : decode cX6_ofSource 53 = .ok (.ireturn, 1) := by decide +kernel
theorem dX6_ofSource_54 : decode cX6_ofSource 54 = .ok (.aload_n 0, 1) := by decide +kernel
theorem dX6_ofSource_55 : decode cX6_ofSource 55 = .ok (.getfield 26, 3) := by decide +kernel
theorem dX6_ofSource_58 : decode cX6_ofSource 58 = .ok (.iload_n 1, 1) := by decide +kernel
theorem dX6_ofSource_59 : decode cX6_ofSource 59 = .ok (.invokevirtual 166, 3) := by decide +kernel
theorem dX6_ofSource_62 : decode cX6_ofSource 62 = .ok (.ireturn, 1) := by decide +kernel
theorem dX6_ofSource_63 : decode cX6_ofSource 63 = .ok (.aload_n 0, 1) := by decide +kernel
theorem dX6_ofSource_64 : decode cX6_ofSource 64 = .ok (.getfield 19, 3) := by decide +kernel
theorem dX6_ofSource_67 : decode cX6_ofSource 67 = .ok (.iload_n 1, 1) := by decide +kernel
theorem dX6_ofSource_68 : decode cX6_ofSource 68 = .ok (.invokevirtual 169, 3) := by decide +kernel
theorem dX6_ofSource_71 : decode cX6_ofSource 71 = .ok (.ireturn, 1) := by decide +kernel
theorem dX6_ofSource_72 : decode cX6_ofSource 72 = .ok (.new 55, 3) := by decide +kernel
theorem dX6_ofSource_75 : decode cX6_ofSource 75 = .ok (.dup, 1) := by decide +kernel
theorem dX6_ofSource_76 : decode cX6_ofSource 76 = .ok (.ldc 172, 2) := by decide +kernel
theorem dX6_ofSource_78 : decode cX6_ofSource 78 = .ok (.invokespecial 59, 3) := by decide +kernel
theorem dX6_ofSource_81 : decode cX6_ofSource 81 = .ok (.athrow, 1) := by decide +kernel
set_option maxRecDepth 20000 in
theorem ggX6_ofTable_X5_knows : GoodIn wsX6_ofTable wsX5_knows := goodIn_r _ [10, 11, 30, 31, 32] (by decide +kernel) (by decide +kernel)
set_option maxRecDepth 20000 in
theorem gX6_ofTable_X5_knows : GoodIn wsX6_ofTable (wsV RX6 174 RX5 yX5_knows wsX5_knows) := goodIn_app (goodIn_of _ (by decide +kernel)) ggX6_ofTable_X5_knows
set_option maxRecDepth 20000 in
theorem ggX6_ofTable_X5_line : GoodIn wsX6_ofTable wsX5_line := goodIn_r _ [15, 16, 30, 31, 32] (by decide +kernel) (by decide +kernel)
set_option maxRecDepth 20000 in
theorem gX6_ofTable_X5_line : GoodIn wsX6_ofTable (wsV RX6 182 RX5 yX5_line wsX5_line) := goodIn_app (goodIn_of _ (by decide +kernel)) ggX6_ofTable_X5_line
set_option maxRecDepth 20000 in
theorem ggX6_ofTable_X5_isStruck : GoodIn wsX6_ofTable wsX5_isStruck := goodIn_r _ [20, 21, 22, 23, 24, 30, 31, 32] (by decide +kernel) (by decide +kernel)
set_option maxRecDepth 20000 in
theorem gX6_ofTable_X5_isStruck : GoodIn wsX6_ofTable (wsV RX6 185 RX5 yX5_isStruck wsX5_isStruck) := goodIn_app (goodIn_of _ (by decide +kernel)) ggX6_ofTable_X5_isStruck
theorem dX6_ofTable_0 : decode cX6_ofTable 0 = .ok (.aload_n 0, 1) := by decide +kernel
theorem dX6_ofTable_1 : decode cX6_ofTable 1 = .ok (.getfield 19, 3) := by decide +kernel
theorem dX6_ofTable_4 : decode cX6_ofTable 4 = .ok (.iload_n 1, 1) := by decide +kernel
theorem dX6_ofTable_5 : decode cX6_ofTable 5 = .ok (.invokevirtual 174, 3) := by decide +kernel
theorem dX6_ofTable_8 : decode cX6_ofTable 8 = .ok (.ifCond .ne 13, 3) := by decide +kernel
theorem dX6_ofTable_11 : decode cX6_ofTable 11 = .ok (.new 177, 3) := by decide +kernel
theorem dX6_ofTable_14 : decode cX6_ofTable 14 = .ok (.dup, 1) := by decide +kernel
theorem dX6_ofTable_15 : decode cX6_ofTable 15 = .ok (.ldc 179, 2) := by decide +kernel
theorem dX6_ofTable_17 : decode cX6_ofTable 17 = .ok (.invokespecial 181, 3) := by decide +kernel
theorem dX6_ofTable_20 : decode cX6_ofTable 20 = .ok (.athrow, 1) := by decide +kernel
theorem dX6_ofTable_21 : decode cX6_ofTable 21 = .ok (.iload_n 2, 1) := by decide +kernel
theorem dX6_ofTable_22 : decode cX6_ofTable 22 = .ok (.lookupswitch 52 #[(0, 26), (1, 35)], 26) := by decide +kernel
theorem dX6_ofTable_48 : decode cX6_ofTable 48 = .ok (.aload_n 0, 1) := by decide +kernel
theorem dX6_ofTable_49 : decode cX6_ofTable 49 = .ok (.getfield 19, 3) := by decide +kernel
theorem dX6_ofTable_52 : decode cX6_ofTable 52 = .ok (.iload_n 1, 1) := by decide +kernel
theorem dX6_ofTable_53 : decode cX6_ofTable 53 = .ok (.invokevirtual 182, 3) := by decide +kernel
theorem dX6_ofTable_56 : decode cX6_ofTable 56 = .ok (.ireturn, 1) := by decide +kernel
theorem dX6_ofTable_57 : decode cX6_ofTable 57 = .ok (.aload_n 0, 1) := by decide +kernel
theorem dX6_ofTable_58 : decode cX6_ofTable 58 = .ok (.getfield 19, 3) := by decide +kernel
theorem dX6_ofTable_61 : decode cX6_ofTable 61 = .ok (.iload_n 1, 1) := by decide +kernel
theorem dX6_ofTable_62 : decode cX6_ofTable 62 = .ok (.invokevirtual 185, 3) := by decide +kernel
theorem dX6_ofTable_65 : decode cX6_ofTable 65 = .ok (.ifCond .eq 7, 3) := by decide +kernel
theorem dX6_ofTable_68 : decode cX6_ofTable 68 = .ok (.iconst 1, 1) := by decide +kernel
theorem dX6_ofTable_69 : decode cX6_ofTable 69 = .ok (.goto 4, 3) := by decide +kernel
theorem dX6_ofTable_72 : decode cX6_ofTable 72 = .ok (.iconst 0, 1) := by decide +kernel
theorem dX6_ofTable_73 : decode cX6_ofTable 73 = .ok (.ireturn, 1) := by decide +kernel
theorem dX6_ofTable_74 : decode cX6_ofTable 74 = .ok (.new 55, 3) := by decide +kernel
theorem dX6_ofTable_77 : decode cX6_ofTable 77 = .ok (.dup, 1) := by decide +kernel
theorem dX6_ofTable_78 : decode cX6_ofTable 78 = .ok (.ldc 188, 2) := by decide +kernel
theorem dX6_ofTable_80 : decode cX6_ofTable 80 = .ok (.invokespecial 59, 3) := by decide +kernel
theorem dX6_ofTable_83 : decode cX6_ofTable 83 = .ok (.athrow, 1) := by decide +kernel
set_option maxRecDepth 20000 in
theorem ggX6_house_X0_count : GoodIn wsX6_house wsX0_count := goodIn_r _ [12, 13, 140, 141, 142, 143] (by decide +kernel) (by decide +kernel)
set_option maxRecDepth 20000 in
theorem gX6_house_X0_count : GoodIn wsX6_house (wsV RX6 37 RX0 yX0_count wsX0_count) := goodIn_app (goodIn_of _ (by decide +kernel)) ggX6_house_X0_count
set_option maxRecDepth 20000 in
theorem ggX6_house_X5_count : GoodIn wsX6_house wsX5_count := goodIn_r _ [18, 19, 144, 145, 146] (by decide +kernel) (by decide +kernel)
set_option maxRecDepth 20000 in
theorem gX6_house_X5_count : GoodIn wsX6_house (wsV RX6 81 RX5 yX5_count wsX5_count) := goodIn_app (goodIn_of _ (by decide +kernel)) ggX6_house_X5_count
set_option maxRecDepth 20000 in
theorem ggX6_house_X5_countStruck : GoodIn wsX6_house wsX5_countStruck := goodIn_r _ [23, 24, 25, 26, 27, 28, 29, 30, 31, 144, 145, 146] (by decide +kernel) (by decide +kernel)
set_option maxRecDepth 20000 in
theorem gX6_house_X5_countStruck : GoodIn wsX6_house (wsV RX6 228 RX5 yX5_countStruck wsX5_countStruck) := goodIn_app (goodIn_of _ (by decide +kernel)) ggX6_house_X5_countStruck
set_option maxRecDepth 20000 in
theorem ggX6_house_X0_barNow : GoodIn wsX6_house wsX0_barNow := goodIn_r _ [35, 36, 140, 141, 142, 143] (by decide +kernel) (by decide +kernel)
set_option maxRecDepth 20000 in
theorem gX6_house_X0_barNow : GoodIn wsX6_house (wsV RX6 231 RX0 yX0_barNow wsX0_barNow) := goodIn_app (goodIn_of _ (by decide +kernel)) ggX6_house_X0_barNow
set_option maxRecDepth 20000 in
theorem ggX6_house_X2_countInForce : GoodIn wsX6_house wsX2_countInForce := goodIn_r _ [41, 42, 43, 44, 40, 45, 46, 47, 48, 49, 50, 51, 52, 53, 54, 55, 56, 57, 26, 27, 28, 29, 30, 31, 147, 148, 149, 150, 151, 152, 153, 154] (by decide +kernel) (by decide +kernel)
set_option maxRecDepth 20000 in
theorem gX6_house_X2_countInForce : GoodIn wsX6_house (wsV RX6 234 RX2 yX2_countInForce wsX2_countInForce) := goodIn_app (goodIn_of _ (by decide +kernel)) ggX6_house_X2_countInForce
set_option maxRecDepth 20000 in
theorem ggX6_house_X2_countLeaks : GoodIn wsX6_house wsX2_countLeaks := goodIn_r _ [61, 42, 43, 44, 40, 45, 46, 47, 48, 49, 50, 51, 52, 53, 54, 55, 56, 62, 63, 64, 65, 66, 67, 68, 69, 70, 71, 72, 73, 74, 75, 76, 77, 78, 79, 80, 81, 82, 83, 9, 10, 11, 12, 13, 84, 85, 86, 87, 88, 89, 90, 91, 92, 93, 94, 95, 96, 57, 26, 27, 28, 29, 30, 31, 147, 148, 149, 150, 151, 152, 153, 154, 155, 140, 141, 142, 143] (by decide +kernel) (by decide +kernel)
set_option maxRecDepth 20000 in
theorem gX6_house_X2_countLeaks : GoodIn wsX6_house (wsV RX6 237 RX2 yX2_countLeaks wsX2_countLeaks) := goodIn_app (goodIn_of _ (by decide +kernel)) ggX6_house_X2_countLeaks
set_option maxRecDepth 20000 in
theorem ggX6_house_X2_repair : GoodIn wsX6_house wsX2_repair := goodIn_r _ [100, 101, 147, 148, 149, 150, 151, 152, 153, 154] (by decide +kernel) (by decide +kernel)
set_option maxRecDepth 20000 in
theorem gX6_house_X2_repair : GoodIn wsX6_house (wsV RX6 202 RX2 yX2_repair wsX2_repair) := goodIn_app (goodIn_of _ (by decide +kernel)) ggX6_house_X2_repair
set_option maxRecDepth 20000 in
theorem ggX6_house_X2_today : GoodIn wsX6_house wsX2_today := goodIn_r _ [105, 51, 147, 148, 149, 150, 151, 152, 153, 154] (by decide +kernel) (by decide +kernel)
set_option maxRecDepth 20000 in
theorem gX6_house_X2_today : GoodIn wsX6_house (wsV RX6 110 RX2 yX2_today wsX2_today) := goodIn_app (goodIn_of _ (by decide +kernel)) ggX6_house_X2_today
set_option maxRecDepth 20000 in
theorem ggX6_house_X4_people : GoodIn wsX6_house wsX4_people := goodIn_r _ [110, 111, 156, 157, 158, 159, 160, 161, 162, 163, 164] (by decide +kernel) (by decide +kernel)
set_option maxRecDepth 20000 in
theorem gX6_house_X4_people : GoodIn wsX6_house (wsV RX6 120 RX4 yX4_people wsX4_people) := goodIn_app (goodIn_of _ (by decide +kernel)) ggX6_house_X4_people
set_option maxRecDepth 20000 in
theorem ggX6_house_X4_askers : GoodIn wsX6_house wsX4_askers := goodIn_r _ [115, 116, 156, 157, 158, 159, 160, 161, 162, 163, 164] (by decide +kernel) (by decide +kernel)
set_option maxRecDepth 20000 in
theorem gX6_house_X4_askers : GoodIn wsX6_house (wsV RX6 128 RX4 yX4_askers wsX4_askers) := goodIn_app (goodIn_of _ (by decide +kernel)) ggX6_house_X4_askers
set_option maxRecDepth 20000 in
theorem ggX6_house_X4_leastNow : GoodIn wsX6_house wsX4_leastNow := goodIn_r _ [120, 121, 156, 157, 158, 159, 160, 161, 162, 163, 164] (by decide +kernel) (by decide +kernel)
set_option maxRecDepth 20000 in
theorem gX6_house_X4_leastNow : GoodIn wsX6_house (wsV RX6 241 RX4 yX4_leastNow wsX4_leastNow) := goodIn_app (goodIn_of _ (by decide +kernel)) ggX6_house_X4_leastNow
set_option maxRecDepth 20000 in
theorem ggX6_house_X4_toldEver : GoodIn wsX6_house wsX4_toldEver := goodIn_r _ [125, 126, 127, 128, 109, 129, 156, 157, 158, 159, 160, 161, 162, 163, 164] (by decide +kernel) (by decide +kernel)
set_option maxRecDepth 20000 in
theorem gX6_house_X4_toldEver : GoodIn wsX6_house (wsV RX6 244 RX4 yX4_toldEver wsX4_toldEver) := goodIn_app (goodIn_of _ (by decide +kernel)) ggX6_house_X4_toldEver
set_option maxRecDepth 20000 in
theorem ggX6_house_X4_refusedEver : GoodIn wsX6_house wsX4_refusedEver := goodIn_r _ [133, 134, 127, 128, 109, 129, 156, 157, 158, 159, 160, 161, 162, 163, 164] (by decide +kernel) (by decide +kernel)
set_option maxRecDepth 20000 in
theorem gX6_house_X4_refusedEver : GoodIn wsX6_house (wsV RX6 247 RX4 yX4_refusedEver wsX4_refusedEver) := goodIn_app (goodIn_of _ (by decide +kernel)) ggX6_house_X4_refusedEver

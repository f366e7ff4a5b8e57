theorem dX3_init_21 : decode cX3_init 21 = .ok (.putfield 16, 3) := by decide +kernel
theorem dX3_init_24 : decode cX3_init 24 = .ok (.return_, 1) := by decide +kernel
theorem dX3_forgetAll_0 : decode cX3_forgetAll 0 = .ok (.aload_n 0, 1) := by decide +kernel
theorem dX3_forgetAll_1 : decode cX3_forgetAll 1 = .ok (.iconst 0, 1) := by decide +kernel
theorem dX3_forgetAll_2 : decode cX3_forgetAll 2 = .ok (.putfield 20, 3) := by decide +kernel
theorem dX3_forgetAll_5 : decode cX3_forgetAll 5 = .ok (.return_, 1) := by decide +kernel
set_option maxRecDepth 20000 in
theorem ggX3_add_X3_firstOfRest : GoodIn wsX3_add wsX3_firstOfRest := goodIn_r _ [8, 2, 3, 9, 10, 11, 12, 13, 14, 7, 15, 1, 16, 17, 18] (by decide +kernel) (by decide +kernel)
set_option maxRecDepth 20000 in
theorem gX3_add_X3_firstOfRest : GoodIn wsX3_add (wsV RX3 24 RX3 yX3_firstOfRest wsX3_firstOfRest) := goodIn_app (goodIn_of _ (by decide +kernel)) ggX3_add_X3_firstOfRest
set_option maxRecDepth 20000 in
theorem ggX3_add_X6_contains : GoodIn wsX3_add wsX6_contains := goodIn_r _ [11] (by decide +kernel) (by decide +kernel)
set_option maxRecDepth 20000 in
theorem gX3_add_X6_contains_n28 : GoodIn wsX3_add (wsX6_contains) := ggX3_add_X6_contains
set_option maxRecDepth 20000 in
theorem ggX3_add_X3_clearAt : GoodIn wsX3_add wsX3_clearAt := goodIn_r _ [15, 1, 16, 17, 18] (by decide +kernel) (by decide +kernel)
set_option maxRecDepth 20000 in
theorem gX3_add_X3_clearAt : GoodIn wsX3_add (wsV RX3 32 RX3 yX3_clearAt wsX3_clearAt) := goodIn_app (goodIn_of _ (by decide +kernel)) ggX3_add_X3_clearAt
theorem dX3_add_0 : decode cX3_add 0 = .ok (.aload_n 0, 1) := by decide +kernel
theorem dX3_add_1 : decode cX3_add 1 = .ok (.iload_n 1, 1) := by decide +kernel
theorem dX3_add_2 : decode cX3_add 2 = .ok (.invokevirtual 24, 3) := by decide +kernel
theorem dX3_add_5 : decode cX3_add 5 = .ok (.istore_n 2, 1) := by decide +kernel
theorem dX3_add_6 : decode cX3_add 6 = .ok (.iload_n 2, 1) := by decide +kernel
theorem dX3_add_7 : decode cX3_add 7 = .ok (.iconst (-1), 1) := by decide +kernel
theorem dX3_add_8 : decode cX3_add 8 = .ok (.if_icmp .ne 4, 3) := by decide +kernel
theorem dX3_add_11 : decode cX3_add 11 = .ok (.return_, 1) := by decide +kernel
theorem dX3_add_12 : decode cX3_add 12 = .ok (.iconst 0, 1) := by decide +kernel
theorem dX3_add_13 : decode cX3_add 13 = .ok (.istore_n 3, 1) := by decide +kernel
theorem dX3_add_14 : decode cX3_add 14 = .ok (.iload_n 3, 1) := by decide +kernel
theorem dX3_add_15 : decode cX3_add 15 = .ok (.bipush 8, 2) := by decide +kernel
theorem dX3_add_17 : decode cX3_add 17 = .ok (.if_icmp .ge 23, 3) := by decide +kernel
theorem dX3_add_20 : decode cX3_add 20 = .ok (.aload_n 0, 1) := by decide +kernel
theorem dX3_add_21 : decode cX3_add 21 = .ok (.getfield 11, 3) := by decide +kernel
theorem dX3_add_24 : decode cX3_add 24 = .ok (.iload_n 2, 1) := by decide +kernel
theorem dX3_add_25 : decode cX3_add 25 = .ok (.aaload, 1) := by decide +kernel
theorem dX3_add_26 : decode cX3_add 26 = .ok (.iload_n 3, 1) := by decide +kernel
theorem dX3_add_27 : decode cX3_add 27 = .ok (.aload_n 0, 1) := by decide +kernel
theorem dX3_add_28 : decode cX3_add 28 = .ok (.getfield 16, 3) := by decide +kernel
theorem dX3_add_31 : decode cX3_add 31 = .ok (.iload_n 3, 1) := by decide +kernel
theorem dX3_add_32 : decode cX3_add 32 = .ok (.iaload, 1) := by decide +kernel
theorem dX3_add_33 : decode cX3_add 33 = .ok (.iastore, 1) := by decide +kernel
theorem dX3_add_34 : decode cX3_add 34 = .ok (.iinc 3 1, 3) := by decide +kernel
theorem dX3_add_37 : decode cX3_add 37 = .ok (.goto (-23), 3) := by decide +kernel
theorem dX3_add_40 : decode cX3_add 40 = .ok (.iconst 0, 1) := by decide +kernel
theorem dX3_add_41 : decode cX3_add 41 = .ok (.istore_n 3, 1) := by decide +kernel
theorem dX3_add_42 : decode cX3_add 42 = .ok (.iload_n 3, 1) := by decide +kernel
theorem dX3_add_43 : decode cX3_add 43 = .ok (.bipush 8, 2) := by decide +kernel
theorem dX3_add_45 : decode cX3_add 45 = .ok (.if_icmp .ge 31, 3) := by decide +kernel
theorem dX3_add_48 : decode cX3_add 48 = .ok (.aload_n 0, 1) := by decide +kernel
theorem dX3_add_49 : decode cX3_add 49 = .ok (.getfield 20, 3) := by decide +kernel
theorem dX3_add_52 : decode cX3_add 52 = .ok (.iload_n 3, 1) := by decide +kernel
theorem dX3_add_53 : decode cX3_add 53 = .ok (.invokestatic 28, 3) := by decide +kernel
theorem dX3_add_56 : decode cX3_add 56 = .ok (.ifCond .eq 14, 3) := by decide +kernel
theorem dX3_add_59 : decode cX3_add 59 = .ok (.aload_n 0, 1) := by decide +kernel
theorem dX3_add_60 : decode cX3_add 60 = .ok (.aload_n 0, 1) := by decide +kernel
theorem dX3_add_61 : decode cX3_add 61 = .ok (.getfield 11, 3) := by decide +kernel
theorem dX3_add_64 : decode cX3_add 64 = .ok (.iload_n 3, 1) := by decide +kernel
theorem dX3_add_65 : decode cX3_add 65 = .ok (.aaload, 1) := by decide +kernel
theorem dX3_add_66 : decode cX3_add 66 = .ok (.iload_n 2, 1) := by decide +kernel
theorem dX3_add_67 : decode cX3_add 67 = .ok (.invokevirtual 32, 3) := by decide +kernel
theorem dX3_add_70 : decode cX3_add 70 = .ok (.iinc 3 1, 3) := by decide +kernel
theorem dX3_add_73 : decode cX3_add 73 = .ok (.goto (-31), 3) := by decide +kernel
theorem dX3_add_76 : decode cX3_add 76 = .ok (.aload_n 0, 1) := by decide +kernel
theorem dX3_add_77 : decode cX3_add 77 = .ok (.dup, 1) := by decide +kernel
theorem dX3_add_78 : decode cX3_add 78 = .ok (.getfield 20, 3) := by decide +kernel
theorem dX3_add_81 : decode cX3_add 81 = .ok (.iconst 1, 1) := by decide +kernel
theorem dX3_add_82 : decode cX3_add 82 = .ok (.iload_n 2, 1) := by decide +kernel
theorem dX3_add_83 : decode cX3_add 83 = .ok (.ishl, 1) := by decide +kernel
theorem dX3_add_84 : decode cX3_add 84 = .ok (.ior, 1) := by decide +kernel
theorem dX3_add_85 : decode cX3_add 85 = .ok (.putfield 20, 3) := by decide +kernel
theorem dX3_add_88 : decode cX3_add 88 = .ok (.return_, 1) := by decide +kernel
set_option maxRecDepth 20000 in
theorem ggX3_holds_X3_firstOfRest : GoodIn wsX3_holds wsX3_firstOfRest := goodIn_r _ [5, 6, 7, 8, 9, 10, 11, 12, 13, 4, 14, 15, 16, 17, 18] (by decide +kernel) (by decide +kernel)
set_option maxRecDepth 20000 in
theorem gX3_holds_X3_firstOfRest : GoodIn wsX3_holds (wsV RX3 24 RX3 yX3_firstOfRest wsX3_firstOfRest) := goodIn_app (goodIn_of _ (by decide +kernel)) ggX3_holds_X3_firstOfRest
theorem dX3_holds_0 : decode cX3_holds 0 = .ok (.aload_n 0, 1) := by decide +kernel
theorem dX3_holds_1 : decode cX3_holds 1 = .ok (.iload_n 1, 1) := by decide +kernel
theorem dX3_holds_2 : decode cX3_holds 2 = .ok (.invokevirtual 24, 3) := by decide +kernel
theorem dX3_holds_5 : decode cX3_holds 5 = .ok (.iconst (-1), 1) := by decide +kernel
theorem dX3_holds_6 : decode cX3_holds 6 = .ok (.if_icmp .ne 7, 3) := by decide +kernel
theorem dX3_holds_9 : decode cX3_holds 9 = .ok (.iconst 1, 1) := by decide +kernel
theorem dX3_holds_10 : decode cX3_holds 10 = .ok (.goto 4, 3) := by decide +kernel
theorem dX3_holds_13 : decode cX3_holds 13 = .ok (.iconst 0, 1) := by decide +kernel
theorem dX3_holds_14 : decode cX3_holds 14 = .ok (.ireturn, 1) := by decide +kernel
set_option maxRecDepth 20000 in
theorem ggX3_alone_X6_contains : GoodIn wsX3_alone wsX6_contains := goodIn_r _ [5] (by decide +kernel) (by decide +kernel)
set_option maxRecDepth 20000 in
theorem gX3_alone_X6_contains_n28 : GoodIn wsX3_alone (wsX6_contains) := ggX3_alone_X6_contains
set_option maxRecDepth 20000 in
theorem ggX3_alone_X3_isAlone : GoodIn wsX3_alone wsX3_isAlone := goodIn_r _ [9] (by decide +kernel) (by decide +kernel)
set_option maxRecDepth 20000 in
theorem gX3_alone_X3_isAlone : GoodIn wsX3_alone (va_wsS RX3 41 yX3_isAlone wsX3_isAlone) := goodIn_app (goodIn_of _ (by decide +kernel)) ggX3_alone_X3_isAlone
theorem dX3_alone_0 : decode cX3_alone 0 = .ok (.iconst 0, 1) := by decide +kernel
theorem dX3_alone_1 : decode cX3_alone 1 = .ok (.istore_n 1, 1) := by decide +kernel
theorem dX3_alone_2 : decode cX3_alone 2 = .ok (.iconst 0, 1) := by decide +kernel
theorem dX3_alone_3 : decode cX3_alone 3 = .ok (.istore_n 2, 1) := by decide +kernel
theorem dX3_alone_4 : decode cX3_alone 4 = .ok (.iload_n 2, 1) := by decide +kernel
theorem dX3_alone_5 : decode cX3_alone 5 = .ok (.bipush 8, 2) := by decide +kernel
theorem dX3_alone_7 : decode cX3_alone 7 = .ok (.if_icmp .ge 38, 3) := by decide +kernel
theorem dX3_alone_10 : decode cX3_alone 10 = .ok (.aload_n 0, 1) := by decide +kernel
theorem dX3_alone_11 : decode cX3_alone 11 = .ok (.getfield 20, 3) := by decide +kernel
theorem dX3_alone_14 : decode cX3_alone 14 = .ok (.iload_n 2, 1) := by decide +kernel
theorem dX3_alone_15 : decode cX3_alone 15 = .ok (.invokestatic 28, 3) := by decide +kernel
theorem dX3_alone_18 : decode cX3_alone 18 = .ok (.ifCond .eq 21, 3) := by decide +kernel
theorem dX3_alone_21 : decode cX3_alone 21 = .ok (.aload_n 0, 1) := by decide +kernel
theorem dX3_alone_22 : decode cX3_alone 22 = .ok (.getfield 11, 3) := by decide +kernel
theorem dX3_alone_25 : decode cX3_alone 25 = .ok (.iload_n 2, 1) := by decide +kernel
theorem dX3_alone_26 : decode cX3_alone 26 = .ok (.aaload, 1) := by decide +kernel
theorem dX3_alone_27 : decode cX3_alone 27 = .ok (.invokestatic 41, 3) := by decide +kernel
theorem dX3_alone_30 : decode cX3_alone 30 = .ok (.ifCond .eq 9, 3) := by decide +kernel
theorem dX3_alone_33 : decode cX3_alone 33 = .ok (.iload_n 1, 1) := by decide +kernel
theorem dX3_alone_34 : decode cX3_alone 34 = .ok (.iconst 1, 1) := by decide +kernel
theorem dX3_alone_35 : decode cX3_alone 35 = .ok (.iload_n 2, 1) := by decide +kernel
theorem dX3_alone_36 : decode cX3_alone 36 = .ok (.ishl, 1) := by decide +kernel
theorem dX3_alone_37 : decode cX3_alone 37 = .ok (.ior, 1) := by decide +kernel
theorem dX3_alone_38 : decode cX3_alone 38 = .ok (.istore_n 1, 1) := by decide +kernel
theorem dX3_alone_39 : decode cX3_alone 39 = .ok (.iinc 2 1, 3) := by decide +kernel
theorem dX3_alone_42 : decode cX3_alone 42 = .ok (.goto (-38), 3) := by decide +kernel
theorem dX3_alone_45 : decode cX3_alone 45 = .ok (.iload_n 1, 1) := by decide +kernel
theorem dX3_alone_46 : decode cX3_alone 46 = .ok (.ireturn, 1) := by decide +kernel
theorem dX3_isAlone_0 : decode cX3_isAlone 0 = .ok (.iconst 0, 1) := by decide +kernel
theorem dX3_isAlone_1 : decode cX3_isAlone 1 = .ok (.istore_n 1, 1) := by decide +kernel
theorem dX3_isAlone_2 : decode cX3_isAlone 2 = .ok (.iconst 0, 1) := by decide +kernel
theorem dX3_isAlone_3 : decode cX3_isAlone 3 = .ok (.istore_n 2, 1) := by decide +kernel
theorem dX3_isAlone_4 : decode cX3_isAlone 4 = .ok (.iload_n 2, 1) := by decide +kernel
theorem dX3_isAlone_5 : decode cX3_isAlone 5 = .ok (.aload_n 0, 1) := by decide +kernel
theorem dX3_isAlone_6 : decode cX3_isAlone 6 = .ok (.arraylength, 1) := by decide +kernel
theorem dX3_isAlone_7 : decode cX3_isAlone 7 = .ok (.if_icmp .ge 18, 3) := by decide +kernel
theorem dX3_isAlone_10 : decode cX3_isAlone 10 = .ok (.aload_n 0, 1) := by decide +kernel
theorem dX3_isAlone_11 : decode cX3_isAlone 11 = .ok (.iload_n 2, 1) := by decide +kernel
theorem dX3_isAlone_12 : decode cX3_isAlone 12 = .ok (.iaload, 1) := by decide +kernel
theorem dX3_isAlone_13 : decode cX3_isAlone 13 = .ok (.ifCond .eq 6, 3) := by decide +kernel
theorem dX3_isAlone_16 : decode cX3_isAlone 16 = .ok (.iinc 1 1, 3) := by decide +kernel
theorem dX3_isAlone_19 : decode cX3_isAlone 19 = .ok (.iinc 2 1, 3) := by decide +kernel
theorem dX3_isAlone_22 : decode cX3_isAlone 22 = .ok (.goto (-18), 3) := by decide +kernel
theorem dX3_isAlone_25 : decode cX3_isAlone 25 = .ok (.iload_n 1, 1) := by decide +kernel
theorem dX3_isAlone_26 : decode cX3_isAlone 26 = .ok (.iconst 1, 1) := by decide +kernel
theorem dX3_isAlone_27 : decode cX3_isAlone 27 = .ok (.if_icmp .ne 7, 3) := by decide +kernel
theorem dX3_isAlone_30 : decode cX3_isAlone 30 = .ok (.iconst 1, 1) := by decide +kernel
theorem dX3_isAlone_31 : decode cX3_isAlone 31 = .ok (.goto 4, 3) := by decide +kernel
theorem dX3_isAlone_34 : decode cX3_isAlone 34 = .ok (.iconst 0, 1) := by decide +kernel
theorem dX3_isAlone_35 : decode cX3_isAlone 35 = .ok (.ireturn, 1) := by decide +kernel
set_option maxRecDepth 20000 in
theorem ggX3_firstOfRest_X6_contains : GoodIn wsX3_firstOfRest wsX6_contains := goodIn_r _ [5] (by decide +kernel) (by decide +kernel)
set_option maxRecDepth 20000 in
theorem gX3_firstOfRest_X6_contains_n28 : GoodIn wsX3_firstOfRest (wsX6_contains) := ggX3_firstOfRest_X6_contains
set_option maxRecDepth 20000 in
theorem ggX3_firstOfRest_X3_clearAt : GoodIn wsX3_firstOfRest wsX3_clearAt := goodIn_r _ [10, 11, 12, 13, 14] (by decide +kernel) (by decide +kernel)
set_option maxRecDepth 20000 in
theorem gX3_firstOfRest_X3_clearAt : GoodIn wsX3_firstOfRest (wsV RX3 32 RX3 yX3_clearAt wsX3_clearAt) := goodIn_app (goodIn_of _ (by decide +kernel)) ggX3_firstOfRest_X3_clearAt
theorem dX3_firstOfRest_0 : decode cX3_firstOfRest 0 = .ok (.iconst 0, 1) := by decide +kernel
theorem dX3_firstOfRest_1 : decode cX3_firstOfRest 1 = .ok (.istore_n 2, 1) := by decide +kernel
theorem dX3_firstOfRest_2 : decode cX3_firstOfRest 2 = .ok (.iload_n 2, 1) := by decide +kernel
theorem dX3_firstOfRest_3 : decode cX3_firstOfRest 3 = .ok (.bipush 8, 2) := by decide +kernel
theorem dX3_firstOfRest_5 : decode cX3_firstOfRest 5 = .ok (.if_icmp .ge 28, 3) := by decide +kernel
theorem dX3_firstOfRest_8 : decode cX3_firstOfRest 8 = .ok (.aload_n 0, 1) := by decide +kernel
theorem dX3_firstOfRest_9 : decode cX3_firstOfRest 9 = .ok (.getfield 16, 3) := by decide +kernel
theorem dX3_firstOfRest_12 : decode cX3_firstOfRest 12 = .ok (.iload_n 2, 1) := by decide +kernel
theorem dX3_firstOfRest_13 : decode cX3_firstOfRest 13 = .ok (.iload_n 1, 1) := by decide +kernel
theorem dX3_firstOfRest_14 : decode cX3_firstOfRest 14 = .ok (.iload_n 2, 1) := by decide +kernel
theorem dX3_firstOfRest_15 : decode cX3_firstOfRest 15 = .ok (.invokestatic 28, 3) := by decide +kernel
theorem dX3_firstOfRest_18 : decode cX3_firstOfRest 18 = .ok (.ifCond .eq 7, 3) := by decide +kernel
theorem dX3_firstOfRest_21 : decode cX3_firstOfRest 21 = .ok (.iconst 1, 1) := by decide +kernel
theorem dX3_firstOfRest_22 : decode cX3_firstOfRest 22 = .ok (.goto 4, 3) := by decide +kernel
theorem dX3_firstOfRest_25 : decode cX3_firstOfRest 25 = .ok (.iconst 0, 1) := by decide +kernel
theorem dX3_firstOfRest_26 : decode cX3_firstOfRest 26 = .ok (.iastore, 1) := by decide +kernel
theorem dX3_firstOfRest_27 : decode cX3_firstOfRest 27 = .ok (.iinc 2 1, 3) := by decide +kernel
theorem dX3_firstOfRest_30 : decode cX3_firstOfRest 30 = .ok (.goto (-28), 3) := by decide +kernel
theorem dX3_firstOfRest_33 : decode cX3_firstOfRest 33 = .ok (.iconst 0, 1) := by decide +kernel
theorem dX3_firstOfRest_34 : decode cX3_firstOfRest 34 = .ok (.istore_n 2, 1) := by decide +kernel
theorem dX3_firstOfRest_35 : decode cX3_firstOfRest 35 = .ok (.iload_n 2, 1) := by decide +kernel
theorem dX3_firstOfRest_36 : decode cX3_firstOfRest 36 = .ok (.bipush 8, 2) := by decide +kernel
theorem dX3_firstOfRest_38 : decode cX3_firstOfRest 38 = .ok (.if_icmp .ge 29, 3) := by decide +kernel
theorem dX3_firstOfRest_41 : decode cX3_firstOfRest 41 = .ok (.aload_n 0, 1) := by decide +kernel
theorem dX3_firstOfRest_42 : decode cX3_firstOfRest 42 = .ok (.getfield 20, 3) := by decide +kernel
theorem dX3_firstOfRest_45 : decode cX3_firstOfRest 45 = .ok (.iload_n 2, 1) := by decide +kernel
theorem dX3_firstOfRest_46 : decode cX3_firstOfRest 46 = .ok (.invokestatic 28, 3) := by decide +kernel
theorem dX3_firstOfRest_49 : decode cX3_firstOfRest 49 = .ok (.ifCond .eq 12, 3) := by decide +kernel
theorem dX3_firstOfRest_52 : decode cX3_firstOfRest 52 = .ok (.aload_n 0, 1) := by decide +kernel
theorem dX3_firstOfRest_53 : decode cX3_firstOfRest 53 = .ok (.aload_n 0, 1) := by decide +kernel
theorem dX3_firstOfRest_54 : decode cX3_firstOfRest 54 = .ok (.getfield 16, 3) := by decide +kernel
theorem dX3_firstOfRest_57 : decode cX3_firstOfRest 57 = .ok (.iload_n 2, 1) := by decide +kernel
theorem dX3_firstOfRest_58 : decode cX3_firstOfRest 58 = .ok (.invokevirtual 32, 3) := by decide +kernel
theorem dX3_firstOfRest_61 : decode cX3_firstOfRest 61 = .ok (.iinc 2 1, 3) := by decide +kernel
theorem dX3_firstOfRest_64 : decode cX3_firstOfRest 64 = .ok (.goto (-29), 3) := by decide +kernel
theorem dX3_firstOfRest_67 : decode cX3_firstOfRest 67 = .ok (.iconst 0, 1) := by decide +kernel
theorem dX3_firstOfRest_68 : decode cX3_firstOfRest 68 = .ok (.istore_n 2, 1) := by decide +kernel
theorem dX3_firstOfRest_69 : decode cX3_firstOfRest 69 = .ok (.iload_n 2, 1) := by decide +kernel
theorem dX3_firstOfRest_70 : decode cX3_firstOfRest 70 = .ok (.bipush 8, 2) := by decide +kernel
theorem dX3_firstOfRest_72 : decode cX3_firstOfRest 72 = .ok (.if_icmp .ge 20, 3) := by decide +kernel
theorem dX3_firstOfRest_75 : decode cX3_firstOfRest 75 = .ok (.aload_n 0, 1) := by decide +kernel
theorem dX3_firstOfRest_76 : decode cX3_firstOfRest 76 = .ok (.getfield 16, 3) := by decide +kernel
theorem dX3_firstOfRest_79 : decode cX3_firstOfRest 79 = .ok (.iload_n 2, 1) := by decide +kernel
theorem dX3_firstOfRest_80 : decode cX3_firstOfRest 80 = .ok (.iaload, 1) := by decide +kernel
theorem dX3_firstOfRest_81 : decode cX3_firstOfRest 81 = .ok (.ifCond .eq 5, 3) := by decide +kernel
theorem dX3_firstOfRest_84 : decode cX3_firstOfRest 84 = .ok (.iload_n 2, 1) := by decide +kernel
theorem dX3_firstOfRest_85 : decode cX3_firstOfRest 85 = .ok (.ireturn, 1) := by decide +kernel
theorem dX3_firstOfRest_86 : decode cX3_firstOfRest 86 = .ok (.iinc 2 1, 3) := by decide +kernel
theorem dX3_firstOfRest_89 : decode cX3_firstOfRest 89 = .ok (.goto (-20), 3) := by decide +kernel
theorem dX3_firstOfRest_92 : decode cX3_firstOfRest 92 = .ok (.iconst (-1), 1) := by decide +kernel
theorem dX3_firstOfRest_93 : decode cX3_firstOfRest 93 = .ok (.ireturn, 1) := by decide +kernel
theorem dX3_clearAt_0 : decode cX3_clearAt 0 = .ok (.aload_n 0, 1) := by decide +kernel
theorem dX3_clearAt_1 : decode cX3_clearAt 1 = .ok (.getfield 11, 3) := by decide +kernel
theorem dX3_clearAt_4 : decode cX3_clearAt 4 = .ok (.iload_n 2, 1) := by decide +kernel
theorem dX3_clearAt_5 : decode cX3_clearAt 5 = .ok (.aaload, 1) := by decide +kernel
theorem dX3_clearAt_6 : decode cX3_clearAt 6 = .ok (.astore_n 3, 1) := by decide +kernel
theorem dX3_clearAt_7 : decode cX3_clearAt 7 = .ok (.aload_n 3, 1) := by decide +kernel
theorem dX3_clearAt_8 : decode cX3_clearAt 8 = .ok (.iload_n 2, 1) := by decide +kernel
theorem dX3_clearAt_9 : decode cX3_clearAt 9 = .ok (.iaload, 1) := by decide +kernel
theorem dX3_clearAt_10 : decode cX3_clearAt 10 = .ok (.istore 4, 2) := by decide +kernel
theorem dX3_clearAt_12 : decode cX3_clearAt 12 = .ok (.aload_n 1, 1) := by decide +kernel
theorem dX3_clearAt_13 : decode cX3_clearAt 13 = .ok (.iload_n 2, 1) := by decide +kernel
theorem dX3_clearAt_14 : decode cX3_clearAt 14 = .ok (.iaload, 1) := by decide +kernel
theorem dX3_clearAt_15 : decode cX3_clearAt 15 = .ok (.istore 5, 2) := by decide +kernel
theorem dX3_clearAt_17 : decode cX3_clearAt 17 = .ok (.iload 5, 2) := by decide +kernel
theorem dX3_clearAt_19 : decode cX3_clearAt 19 = .ok (.ifCond .ne 4, 3) := by decide +kernel
theorem dX3_clearAt_22 : decode cX3_clearAt 22 = .ok (.return_, 1) := by decide +kernel
theorem dX3_clearAt_23 : decode cX3_clearAt 23 = .ok (.iconst 0, 1) := by decide +kernel
theorem dX3_clearAt_24 : decode cX3_clearAt 24 = .ok (.istore 6, 2) := by decide +kernel
theorem dX3_clearAt_26 : decode cX3_clearAt 26 = .ok (.iload 6, 2) := by decide +kernel
theorem dX3_clearAt_28 : decode cX3_clearAt 28 = .ok (.bipush 8, 2) := by decide +kernel
theorem dX3_clearAt_30 : decode cX3_clearAt 30 = .ok (.if_icmp .ge 32, 3) := by decide +kernel
theorem dX3_clearAt_33 : decode cX3_clearAt 33 = .ok (.aload_n 1, 1) := by decide +kernel
theorem dX3_clearAt_34 : decode cX3_clearAt 34 = .ok (.iload 6, 2) := by decide +kernel
theorem dX3_clearAt_36 : decode cX3_clearAt 36 = .ok (.aload_n 1, 1) := by decide +kernel
theorem dX3_clearAt_37 : decode cX3_clearAt 37 = .ok (.iload 6, 2) := by decide +kernel
theorem dX3_clearAt_39 : decode cX3_clearAt 39 = .ok (.iaload, 1) := by decide +kernel
theorem dX3_clearAt_40 : decode cX3_clearAt 40 = .ok (.iload 4, 2) := by decide +kernel
theorem dX3_clearAt_42 : decode cX3_clearAt 42 = .ok (.imul, 1) := by decide +kernel
theorem dX3_clearAt_43 : decode cX3_clearAt 43 = .ok (.aload_n 3, 1) := by decide +kernel
theorem dX3_clearAt_44 : decode cX3_clearAt 44 = .ok (.iload 6, 2) := by decide +kernel
theorem dX3_clearAt_46 : decode cX3_clearAt 46 = .ok (.iaload, 1) := by decide +kernel
theorem dX3_clearAt_47 : decode cX3_clearAt 47 = .ok (.iload 5, 2) := by decide +kernel
theorem dX3_clearAt_49 : decode cX3_clearAt 49 = .ok (.imul, 1) := by decide +kernel
theorem dX3_clearAt_50 : decode cX3_clearAt 50 = .ok (.isub, 1) := by decide +kernel
theorem dX3_clearAt_51 : decode cX3_clearAt 51 = .ok (.sipush 1009, 3) := by decide +kernel
theorem dX3_clearAt_54 : decode cX3_clearAt 54 = .ok (.irem, 1) := by decide +kernel
theorem dX3_clearAt_55 : decode cX3_clearAt 55 = .ok (.iastore, 1) := by decide +kernel
theorem dX3_clearAt_56 : decode cX3_clearAt 56 = .ok (.iinc 6 1, 3) := by decide +kernel
theorem dX3_clearAt_59 : decode cX3_clearAt 59 = .ok (.goto (-33), 3) := by decide +kernel
theorem dX3_clearAt_62 : decode cX3_clearAt 62 = .ok (.return_, 1) := by decide +kernel
set_option maxRecDepth 20000 in
theorem ggX4_init_X1_init : GoodIn wsX4_init wsX1_init := goodIn_r _ [19, 20, 2, 3, 4, 21, 37] (by decide +kernel) (by decide +kernel)
set_option maxRecDepth 20000 in
theorem gX4_init_X1_init_n17 : GoodIn wsX4_init (wsX1_init) := ggX4_init_X1_init
set_option maxRecDepth 20000 in
theorem ggX4_init_X3_init : GoodIn wsX4_init wsX3_init := goodIn_r _ [23, 24, 2, 3, 25, 4, 26, 27, 38, 39, 40] (by decide +kernel) (by decide +kernel)
set_option maxRecDepth 20000 in
theorem gX4_init_X3_init_n33 : GoodIn wsX4_init (wsX3_init) := ggX4_init_X3_init
theorem dX4_init_0 : decode cX4_init 0 = .ok (.aload_n 0, 1) := by decide +kernel
theorem dX4_init_1 : decode cX4_init 1 = .ok (.invokespecial 3, 3) := by decide +kernel
theorem dX4_init_4 : decode cX4_init 4 = .ok (.aload_n 0, 1) := by decide +kernel
theorem dX4_init_5 : decode cX4_init 5 = .ok (.bipush 8, 2) := by decide +kernel
theorem dX4_init_7 : decode cX4_init 7 = .ok (.newarray .int, 2) := by decide +kernel
theorem dX4_init_9 : decode cX4_init 9 = .ok (.putfield 9, 3) := by decide +kernel
theorem dX4_init_12 : decode cX4_init 12 = .ok (.aload_n 0, 1) := by decide +kernel
theorem dX4_init_13 : decode cX4_init 13 = .ok (.new 15, 3) := by decide +kernel
theorem dX4_init_16 : decode cX4_init 16 = .ok (.dup, 1) := by decide +kernel
theorem dX4_init_17 : decode cX4_init 17 = .ok (.invokespecial 17, 3) := by decide +kernel
theorem dX4_init_20 : decode cX4_init 20 = .ok (.putfield 18, 3) := by decide +kernel
theorem dX4_init_23 : decode cX4_init 23 = .ok (.aload_n 0, 1) := by decide +kernel
theorem dX4_init_24 : decode cX4_init 24 = .ok (.sipush 256, 3) := by decide +kernel
theorem dX4_init_27 : decode cX4_init 27 = .ok (.newarray .int, 2) := by decide +kernel
theorem dX4_init_29 : decode cX4_init 29 = .ok (.putfield 22, 3) := by decide +kernel
theorem dX4_init_32 : decode cX4_init 32 = .ok (.aload_n 0, 1) := by decide +kernel
theorem dX4_init_33 : decode cX4_init 33 = .ok (.iconst 4, 1) := by decide +kernel
theorem dX4_init_34 : decode cX4_init 34 = .ok (.newarray .int, 2) := by decide +kernel
theorem dX4_init_36 : decode cX4_init 36 = .ok (.putfield 25, 3) := by decide +kernel
theorem dX4_init_39 : decode cX4_init 39 = .ok (.aload_n 0, 1) := by decide +kernel
theorem dX4_init_40 : decode cX4_init 40 = .ok (.iconst 4, 1) := by decide +kernel
theorem dX4_init_41 : decode cX4_init 41 = .ok (.newarray .int, 2) := by decide +kernel
theorem dX4_init_43 : decode cX4_init 43 = .ok (.putfield 28, 3) := by decide +kernel
theorem dX4_init_46 : decode cX4_init 46 = .ok (.aload_n 0, 1) := by decide +kernel
theorem dX4_init_47 : decode cX4_init 47 = .ok (.new 31, 3) := by decide +kernel
theorem dX4_init_50 : decode cX4_init 50 = .ok (.dup, 1) := by decide +kernel
theorem dX4_init_51 : decode cX4_init 51 = .ok (.invokespecial 33, 3) := by decide +kernel
theorem dX4_init_54 : decode cX4_init 54 = .ok (.putfield 34, 3) := by decide +kernel
theorem dX4_init_57 : decode cX4_init 57 = .ok (.aload_n 0, 1) := by decide +kernel
theorem dX4_init_58 : decode cX4_init 58 = .ok (.iconst 2, 1) := by decide +kernel
theorem dX4_init_59 : decode cX4_init 59 = .ok (.putfield 38, 3) := by decide +kernel
theorem dX4_init_62 : decode cX4_init 62 = .ok (.return_, 1) := by decide +kernel
theorem dX4_people_0 : decode cX4_people 0 = .ok (.aload_n 0, 1) := by decide +kernel
theorem dX4_people_1 : decode cX4_people 1 = .ok (.getfield 42, 3) := by decide +kernel
theorem dX4_people_4 : decode cX4_people 4 = .ok (.ireturn, 1) := by decide +kernel
theorem dX4_everybody_0 : decode cX4_everybody 0 = .ok (.iconst 1, 1) := by decide +kernel
theorem dX4_everybody_1 : decode cX4_everybody 1 = .ok (.aload_n 0, 1) := by decide +kernel
theorem dX4_everybody_2 : decode cX4_everybody 2 = .ok (.getfield 42, 3) := by decide +kernel
theorem dX4_everybody_5 : decode cX4_everybody 5 = .ok (.ishl, 1) := by decide +kernel
theorem dX4_everybody_6 : decode cX4_everybody 6 = .ok (.iconst 1, 1) := by decide +kernel
theorem dX4_everybody_7 : decode cX4_everybody 7 = .ok (.isub, 1) := by decide +kernel
theorem dX4_everybody_8 : decode cX4_everybody 8 = .ok (.ireturn, 1) := by decide +kernel
theorem dX4_askers_0 : decode cX4_askers 0 = .ok (.aload_n 0, 1) := by decide +kernel
theorem dX4_askers_1 : decode cX4_askers 1 = .ok (.getfield 45, 3) := by decide +kernel
theorem dX4_askers_4 : decode cX4_askers 4 = .ok (.ireturn, 1) := by decide +kernel
theorem dX4_leastNow_0 : decode cX4_leastNow 0 = .ok (.aload_n 0, 1) := by decide +kernel
theorem dX4_leastNow_1 : decode cX4_leastNow 1 = .ok (.getfield 38, 3) := by decide +kernel
theorem dX4_leastNow_4 : decode cX4_leastNow 4 = .ok (.ireturn, 1) := by decide +kernel
theorem dX4_knowsAsker_0 : decode cX4_knowsAsker 0 = .ok (.iload_n 1, 1) := by decide +kernel
theorem dX4_knowsAsker_1 : decode cX4_knowsAsker 1 = .ok (.ifCond .lt 15, 3) := by decide +kernel
theorem dX4_knowsAsker_4 : decode cX4_knowsAsker 4 = .ok (.iload_n 1, 1) := by decide +kernel
theorem dX4_knowsAsker_5 : decode cX4_knowsAsker 5 = .ok (.aload_n 0, 1) := by decide +kernel
theorem dX4_knowsAsker_6 : decode cX4_knowsAsker 6 = .ok (.getfield 45, 3) := by decide +kernel
theorem dX4_knowsAsker_9 : decode cX4_knowsAsker 9 = .ok (.if_icmp .ge 7, 3) := by decide +kernel
theorem dX4_knowsAsker_12 : decode cX4_knowsAsker 12 = .ok (.iconst 1, 1) := by decide +kernel
theorem dX4_knowsAsker_13 : decode cX4_knowsAsker 13 = .ok (.goto 4, 3) := by decide +kernel
theorem dX4_knowsAsker_16 : decode cX4_knowsAsker 16 = .ok (.iconst 0, 1) := by decide +kernel
theorem dX4_knowsAsker_17 : decode cX4_knowsAsker 17 = .ok (.ireturn, 1) := by decide +kernel
set_option maxRecDepth 20000 in
theorem ggX4_knowsPeople_X4_everybody : GoodIn wsX4_knowsPeople wsX4_everybody := goodIn_r _ [5, 6, 7, 8, 9, 10, 11, 12, 13, 14, 15] (by decide +kernel) (by decide +kernel)
set_option maxRecDepth 20000 in
theorem gX4_knowsPeople_X4_everybody : GoodIn wsX4_knowsPeople (wsV RX4 48 RX4 yX4_everybody wsX4_everybody) := goodIn_app (goodIn_of _ (by decide +kernel)) ggX4_knowsPeople_X4_everybody
theorem dX4_knowsPeople_0 : decode cX4_knowsPeople 0 = .ok (.iload_n 1, 1) := by decide +kernel
theorem dX4_knowsPeople_1 : decode cX4_knowsPeople 1 = .ok (.ifCond .lt 15, 3) := by decide +kernel
theorem dX4_knowsPeople_4 : decode cX4_knowsPeople 4 = .ok (.iload_n 1, 1) := by decide +kernel
theorem dX4_knowsPeople_5 : decode cX4_knowsPeople 5 = .ok (.aload_n 0, 1) := by decide +kernel
theorem dX4_knowsPeople_6 : decode cX4_knowsPeople 6 = .ok (.invokevirtual 48, 3) := by decide +kernel
theorem dX4_knowsPeople_9 : decode cX4_knowsPeople 9 = .ok (.if_icmp .gt 7, 3) := by decide +kernel
theorem dX4_knowsPeople_12 : decode cX4_knowsPeople 12 = .ok (.iconst 1, 1) := by decide +kernel
theorem dX4_knowsPeople_13 : decode cX4_knowsPeople 13 = .ok (.goto 4, 3) := by decide +kernel
theorem dX4_knowsPeople_16 : decode cX4_knowsPeople 16 = .ok (.iconst 0, 1) := by decide +kernel
theorem dX4_knowsPeople_17 : decode cX4_knowsPeople 17 = .ok (.ireturn, 1) := by decide +kernel
theorem dX4_addPerson_0 : decode cX4_addPerson 0 = .ok (.aload_n 0, 1) := by decide +kernel
theorem dX4_addPerson_1 : decode cX4_addPerson 1 = .ok (.getfield 9, 3) := by decide +kernel
theorem dX4_addPerson_4 : decode cX4_addPerson 4 = .ok (.aload_n 0, 1) := by decide +kernel
theorem dX4_addPerson_5 : decode cX4_addPerson 5 = .ok (.getfield 42, 3) := by decide +kernel
theorem dX4_addPerson_8 : decode cX4_addPerson 8 = .ok (.iload_n 1, 1) := by decide +kernel
theorem dX4_addPerson_9 : decode cX4_addPerson 9 = .ok (.iastore, 1) := by decide +kernel
theorem dX4_addPerson_10 : decode cX4_addPerson 10 = .ok (.aload_n 0, 1) := by decide +kernel
theorem dX4_addPerson_11 : decode cX4_addPerson 11 = .ok (.dup, 1) := by decide +kernel
theorem dX4_addPerson_12 : decode cX4_addPerson 12 = .ok (.getfield 42, 3) := by decide +kernel
theorem dX4_addPerson_15 : decode cX4_addPerson 15 = .ok (.iconst 1, 1) := by decide +kernel
theorem dX4_addPerson_16 : decode cX4_addPerson 16 = .ok (.iadd, 1) := by decide +kernel
theorem dX4_addPerson_17 : decode cX4_addPerson 17 = .ok (.putfield 42, 3) := by decide +kernel
theorem dX4_addPerson_20 : decode cX4_addPerson 20 = .ok (.aload_n 0, 1) := by decide +kernel
theorem dX4_addPerson_21 : decode cX4_addPerson 21 = .ok (.getfield 42, 3) := by decide +kernel
theorem dX4_addPerson_24 : decode cX4_addPerson 24 = .ok (.iconst 1, 1) := by decide +kernel
theorem dX4_addPerson_25 : decode cX4_addPerson 25 = .ok (.isub, 1) := by decide +kernel
theorem dX4_addPerson_26 : decode cX4_addPerson 26 = .ok (.ireturn, 1) := by decide +kernel
theorem dX4_addAsker_0 : decode cX4_addAsker 0 = .ok (.aload_n 0, 1) := by decide +kernel
theorem dX4_addAsker_1 : decode cX4_addAsker 1 = .ok (.dup, 1) := by decide +kernel
theorem dX4_addAsker_2 : decode cX4_addAsker 2 = .ok (.getfield 45, 3) := by decide +kernel
theorem dX4_addAsker_5 : decode cX4_addAsker 5 = .ok (.iconst 1, 1) := by decide +kernel
theorem dX4_addAsker_6 : decode cX4_addAsker 6 = .ok (.iadd, 1) := by decide +kernel
theorem dX4_addAsker_7 : decode cX4_addAsker 7 = .ok (.putfield 45, 3) := by decide +kernel
theorem dX4_addAsker_10 : decode cX4_addAsker 10 = .ok (.aload_n 0, 1) := by decide +kernel
theorem dX4_addAsker_11 : decode cX4_addAsker 11 = .ok (.getfield 45, 3) := by decide +kernel
theorem dX4_addAsker_14 : decode cX4_addAsker 14 = .ok (.iconst 1, 1) := by decide +kernel
theorem dX4_addAsker_15 : decode cX4_addAsker 15 = .ok (.isub, 1) := by decide +kernel
theorem dX4_addAsker_16 : decode cX4_addAsker 16 = .ok (.ireturn, 1) := by decide +kernel
set_option maxRecDepth 20000 in
theorem ggX4_tell_J6_bitCount_0f7a4 : GoodIn wsX4_tell wsJ6_bitCount_0f7a4 := goodIn_r _ [8, 9, 10, 11] (by decide +kernel) (by decide +kernel)
set_option maxRecDepth 20000 in
theorem gX4_tell_J6_bitCount_0f7a4 : GoodIn wsX4_tell (va_wsS RX4 52 yJ6_bitCount_0f7a4 wsJ6_bitCount_0f7a4) := goodIn_app (goodIn_of _ (by decide +kernel)) ggX4_tell_J6_bitCount_0f7a4
set_option maxRecDepth 20000 in
theorem ggX4_tell_X4_givenAwayWith : GoodIn wsX4_tell wsX4_givenAwayWith := goodIn_r _ [16, 17, 18, 19, 20, 15, 21, 22, 23, 24, 25, 26, 27, 28, 29, 30, 31, 32, 33, 34, 35, 36, 37, 38, 39, 3, 40, 41, 42, 43, 44, 45, 46, 47, 48, 49, 50, 51, 52, 53, 54, 55, 56, 57, 58, 59, 60, 61, 62, 63, 64, 65, 66, 73, 74, 75, 76, 77, 78, 79, 80, 81, 82, 83, 84, 85] (by decide +kernel) (by decide +kernel)
set_option maxRecDepth 20000 in
theorem gX4_tell_X4_givenAwayWith : GoodIn wsX4_tell (wsV RX4 58 RX4 yX4_givenAwayWith wsX4_givenAwayWith) := goodIn_app (goodIn_of _ (by decide +kernel)) ggX4_tell_X4_givenAwayWith
set_option maxRecDepth 20000 in
theorem ggX4_tell_X4_sumOf : GoodIn wsX4_tell wsX4_sumOf := goodIn_r _ [70, 71, 72, 33, 34, 35, 73, 74, 75, 76, 77, 78, 79, 80, 81] (by decide +kernel) (by decide +kernel)
set_option maxRecDepth 20000 in
theorem gX4_tell_X4_sumOf : GoodIn wsX4_tell (wsV RX4 62 RX4 yX4_sumOf wsX4_sumOf) := goodIn_app (goodIn_of _ (by decide +kernel)) ggX4_tell_X4_sumOf
theorem dX4_tell_0 : decode cX4_tell 0 = .ok (.iload_n 2, 1) := by decide +kernel
theorem dX4_tell_1 : decode cX4_tell 1 = .ok (.invokestatic 52, 3) := by decide +kernel
theorem dX4_tell_4 : decode cX4_tell 4 = .ok (.aload_n 0, 1) := by decide +kernel
theorem dX4_tell_5 : decode cX4_tell 5 = .ok (.getfield 38, 3) := by decide +kernel
theorem dX4_tell_8 : decode cX4_tell 8 = .ok (.if_icmp .lt 12, 3) := by decide +kernel
theorem dX4_tell_11 : decode cX4_tell 11 = .ok (.aload_n 0, 1) := by decide +kernel
theorem dX4_tell_12 : decode cX4_tell 12 = .ok (.iload_n 1, 1) := by decide +kernel
theorem dX4_tell_13 : decode cX4_tell 13 = .ok (.iload_n 2, 1) := by decide +kernel
theorem dX4_tell_14 : decode cX4_tell 14 = .ok (.invokevirtual 58, 3) := by decide +kernel
theorem dX4_tell_17 : decode cX4_tell 17 = .ok (.ifCond .eq 15, 3) := by decide +kernel
theorem dX4_tell_20 : decode cX4_tell 20 = .ok (.aload_n 0, 1) := by decide +kernel
theorem dX4_tell_21 : decode cX4_tell 21 = .ok (.getfield 28, 3) := by decide +kernel
theorem dX4_tell_24 : decode cX4_tell 24 = .ok (.iload_n 1, 1) := by decide +kernel
theorem dX4_tell_25 : decode cX4_tell 25 = .ok (.dup2, 1) := by decide +kernel
theorem dX4_tell_26 : decode cX4_tell 26 = .ok (.iaload, 1) := by decide +kernel
theorem dX4_tell_27 : decode cX4_tell 27 = .ok (.iconst 1, 1) := by decide +kernel
theorem dX4_tell_28 : decode cX4_tell 28 = .ok (.iadd, 1) := by decide +kernel
theorem dX4_tell_29 : decode cX4_tell 29 = .ok (.iastore, 1) := by decide +kernel
theorem dX4_tell_30 : decode cX4_tell 30 = .ok (.iconst (-1), 1) := by decide +kernel
theorem dX4_tell_31 : decode cX4_tell 31 = .ok (.ireturn, 1) := by decide +kernel
theorem dX4_tell_32 : decode cX4_tell 32 = .ok (.aload_n 0, 1) := by decide +kernel
theorem dX4_tell_33 : decode cX4_tell 33 = .ok (.getfield 22, 3) := by decide +kernel
theorem dX4_tell_36 : decode cX4_tell 36 = .ok (.iload_n 2, 1) := by decide +kernel
theorem dX4_tell_37 : decode cX4_tell 37 = .ok (.dup2, 1) := by decide +kernel
theorem dX4_tell_38 : decode cX4_tell 38 = .ok (.iaload, 1) := by decide +kernel
theorem dX4_tell_39 : decode cX4_tell 39 = .ok (.iconst 1, 1) := by decide +kernel
theorem dX4_tell_40 : decode cX4_tell 40 = .ok (.iload_n 1, 1) := by decide +kernel
theorem dX4_tell_41 : decode cX4_tell 41 = .ok (.ishl, 1) := by decide +kernel
theorem dX4_tell_42 : decode cX4_tell 42 = .ok (.ior, 1) := by decide +kernel
theorem dX4_tell_43 : decode cX4_tell 43 = .ok (.iastore, 1) := by decide +kernel
theorem dX4_tell_44 : decode cX4_tell 44 = .ok (.aload_n 0, 1) := by decide +kernel
theorem dX4_tell_45 : decode cX4_tell 45 = .ok (.getfield 25, 3) := by decide +kernel
theorem dX4_tell_48 : decode cX4_tell 48 = .ok (.iload_n 1, 1) := by decide +kernel
theorem dX4_tell_49 : decode cX4_tell 49 = .ok (.dup2, 1) := by decide +kernel
theorem dX4_tell_50 : decode cX4_tell 50 = .ok (.iaload, 1) := by decide +kernel
theorem dX4_tell_51 : decode cX4_tell 51 = .ok (.iconst 1, 1) := by decide +kernel
theorem dX4_tell_52 : decode cX4_tell 52 = .ok (.iadd, 1) := by decide +kernel
theorem dX4_tell_53 : decode cX4_tell 53 = .ok (.iastore, 1) := by decide +kernel
theorem dX4_tell_54 : decode cX4_tell 54 = .ok (.aload_n 0, 1) := by decide +kernel
theorem dX4_tell_55 : decode cX4_tell 55 = .ok (.iload_n 2, 1) := by decide +kernel
theorem dX4_tell_56 : decode cX4_tell 56 = .ok (.invokevirtual 62, 3) := by decide +kernel
theorem dX4_tell_59 : decode cX4_tell 59 = .ok (.ireturn, 1) := by decide +kernel
set_option maxRecDepth 20000 in
theorem ggX4_letTalk_X4_givenAwayByTalk : GoodIn wsX4_letTalk wsX4_givenAwayByTalk := goodIn_r _ [7, 8, 9, 10, 11, 6, 12, 2, 13, 14, 15, 16, 17, 18, 19, 20, 21, 22, 23, 24, 25, 26, 27, 28, 29, 30, 31, 32, 33, 34, 35, 36, 37, 38, 39, 40, 41, 42, 43, 44, 45, 46, 47, 48, 49, 50, 51, 52, 53, 54, 55, 56, 57, 62, 63, 64, 65, 66, 67, 68, 69, 70, 71, 72, 73, 74] (by decide +kernel) (by decide +kernel)
set_option maxRecDepth 20000 in
theorem gX4_letTalk_X4_givenAwayByTalk : GoodIn wsX4_letTalk (wsV RX4 65 RX4 yX4_givenAwayByTalk wsX4_givenAwayByTalk) := goodIn_app (goodIn_of _ (by decide +kernel)) ggX4_letTalk_X4_givenAwayByTalk
set_option maxRecDepth 20000 in
theorem ggX4_letTalk_X1_link : GoodIn wsX4_letTalk wsX1_link := goodIn_r _ [61, 22, 71] (by decide +kernel) (by decide +kernel)
set_option maxRecDepth 20000 in
theorem gX4_letTalk_X1_link : GoodIn wsX4_letTalk (wsV RX4 68 RX1 yX1_link wsX1_link) := goodIn_app (goodIn_of _ (by decide +kernel)) ggX4_letTalk_X1_link
theorem dX4_letTalk_0 : decode cX4_letTalk 0 = .ok (.aload_n 0, 1) := by decide +kernel
theorem dX4_letTalk_1 : decode cX4_letTalk 1 = .ok (.iload_n 1, 1) := by decide +kernel
theorem dX4_letTalk_2 : decode cX4_letTalk 2 = .ok (.iload_n 2, 1) := by decide +kernel
theorem dX4_letTalk_3 : decode cX4_letTalk 3 = .ok (.invokevirtual 65, 3) := by decide +kernel
theorem dX4_letTalk_6 : decode cX4_letTalk 6 = .ok (.ifCond .eq 15, 3) := by decide +kernel
theorem dX4_letTalk_9 : decode cX4_letTalk 9 = .ok (.aload_n 0, 1) := by decide +kernel
theorem dX4_letTalk_10 : decode cX4_letTalk 10 = .ok (.getfield 28, 3) := by decide +kernel
theorem dX4_letTalk_13 : decode cX4_letTalk 13 = .ok (.iload_n 1, 1) := by decide +kernel
theorem dX4_letTalk_14 : decode cX4_letTalk 14 = .ok (.dup2, 1) := by decide +kernel
theorem dX4_letTalk_15 : decode cX4_letTalk 15 = .ok (.iaload, 1) := by decide +kernel
theorem dX4_letTalk_16 : decode cX4_letTalk 16 = .ok (.iconst 1, 1) := by decide +kernel
theorem dX4_letTalk_17 : decode cX4_letTalk 17 = .ok (.iadd, 1) := by decide +kernel
theorem dX4_letTalk_18 : decode cX4_letTalk 18 = .ok (.iastore, 1) := by decide +kernel
theorem dX4_letTalk_19 : decode cX4_letTalk 19 = .ok (.iconst 0, 1) := by decide +kernel
theorem dX4_letTalk_20 : decode cX4_letTalk 20 = .ok (.ireturn, 1) := by decide +kernel
theorem dX4_letTalk_21 : decode cX4_letTalk 21 = .ok (.aload_n 0, 1) := by decide +kernel
theorem dX4_letTalk_22 : decode cX4_letTalk 22 = .ok (.getfield 18, 3) := by decide +kernel
theorem dX4_letTalk_25 : decode cX4_letTalk 25 = .ok (.iload_n 1, 1) := by decide +kernel
theorem dX4_letTalk_26 : decode cX4_letTalk 26 = .ok (.iload_n 2, 1) := by decide +kernel
theorem dX4_letTalk_27 : decode cX4_letTalk 27 = .ok (.invokevirtual 68, 3) := by decide +kernel
theorem dX4_letTalk_30 : decode cX4_letTalk 30 = .ok (.iconst 1, 1) := by decide +kernel
theorem dX4_letTalk_31 : decode cX4_letTalk 31 = .ok (.ireturn, 1) := by decide +kernel
set_option maxRecDepth 20000 in
theorem ggX4_circle_X1_reach : GoodIn wsX4_circle wsX1_reach := goodIn_r _ [6, 7, 8, 9, 5, 10, 11, 12, 13, 14, 24] (by decide +kernel) (by decide +kernel)
set_option maxRecDepth 20000 in
theorem gX4_circle_X1_reach : GoodIn wsX4_circle (wsV RX4 72 RX1 yX1_reach wsX1_reach) := goodIn_app (goodIn_of _ (by decide +kernel)) ggX4_circle_X1_reach
theorem dX4_circle_0 : decode cX4_circle 0 = .ok (.aload_n 0, 1) := by decide +kernel
theorem dX4_circle_1 : decode cX4_circle 1 = .ok (.getfield 18, 3) := by decide +kernel
theorem dX4_circle_4 : decode cX4_circle 4 = .ok (.iload_n 1, 1) := by decide +kernel
theorem dX4_circle_5 : decode cX4_circle 5 = .ok (.iconst 4, 1) := by decide +kernel
theorem dX4_circle_6 : decode cX4_circle 6 = .ok (.invokevirtual 72, 3) := by decide +kernel
theorem dX4_circle_9 : decode cX4_circle 9 = .ok (.ireturn, 1) := by decide +kernel
set_option maxRecDepth 20000 in
theorem ggX4_toldEver_X4_total : GoodIn wsX4_toldEver wsX4_total := goodIn_r _ [5] (by decide +kernel) (by decide +kernel)
set_option maxRecDepth 20000 in
theorem gX4_toldEver_X4_total : GoodIn wsX4_toldEver (va_wsS RX4 85 yX4_total wsX4_total) := goodIn_app (goodIn_of _ (by decide +kernel)) ggX4_toldEver_X4_total
theorem dX4_toldEver_0 : decode cX4_toldEver 0 = .ok (.aload_n 0, 1) := by decide +kernel
theorem dX4_toldEver_1 : decode cX4_toldEver 1 = .ok (.getfield 25, 3) := by decide +kernel
theorem dX4_toldEver_4 : decode cX4_toldEver 4 = .ok (.invokestatic 85, 3) := by decide +kernel
theorem dX4_toldEver_7 : decode cX4_toldEver 7 = .ok (.ireturn, 1) := by decide +kernel
set_option maxRecDepth 20000 in
theorem ggX4_refusedEver_X4_total : GoodIn wsX4_refusedEver wsX4_total := goodIn_r _ [5] (by decide +kernel) (by decide +kernel)
set_option maxRecDepth 20000 in
theorem gX4_refusedEver_X4_total : GoodIn wsX4_refusedEver (va_wsS RX4 85 yX4_total wsX4_total) := goodIn_app (goodIn_of _ (by decide +kernel)) ggX4_refusedEver_X4_total
theorem dX4_refusedEver_0 : decode cX4_refusedEver 0 = .ok (.aload_n 0, 1) := by decide +kernel
theorem dX4_refusedEver_1 : decode cX4_refusedEver 1 = .ok (.getfield 28, 3) := by decide +kernel
theorem dX4_refusedEver_4 : decode cX4_refusedEver 4 = .ok (.invokestatic 85, 3) := by decide +kernel
theorem dX4_refusedEver_7 : decode cX4_refusedEver 7 = .ok (.ireturn, 1) := by decide +kernel
set_option maxRecDepth 20000 in
theorem ggX4_givenAwayWith_X4_circle : GoodIn wsX4_givenAwayWith wsX4_circle := goodIn_r _ [6, 7, 8, 9, 10, 11, 12, 13, 14, 15, 16, 17, 18, 19, 20, 53, 54, 55, 56, 57, 58, 59, 60, 61, 62] (by decide +kernel) (by decide +kernel)
set_option maxRecDepth 20000 in
theorem gX4_givenAwayWith_X4_circle : GoodIn wsX4_givenAwayWith (wsV RX4 75 RX4 yX4_circle wsX4_circle) := goodIn_app (goodIn_of _ (by decide +kernel)) ggX4_givenAwayWith_X4_circle
set_option maxRecDepth 20000 in
theorem ggX4_givenAwayWith_X4_fillSpan : GoodIn wsX4_givenAwayWith wsX4_fillSpan := goodIn_r _ [24, 1, 25, 26, 27, 28, 29, 30, 31, 32, 33, 34, 35, 36, 37, 38, 39, 40, 41, 18, 19, 20, 42, 43, 44, 45, 53, 54, 55, 56, 57, 58, 59, 60, 61, 63, 64, 65] (by decide +kernel) (by decide +kernel)
set_option maxRecDepth 20000 in
theorem gX4_givenAwayWith_X4_fillSpan : GoodIn wsX4_givenAwayWith (wsV RX4 78 RX4 yX4_fillSpan wsX4_fillSpan) := goodIn_app (goodIn_of _ (by decide +kernel)) ggX4_givenAwayWith_X4_fillSpan
set_option maxRecDepth 20000 in
theorem ggX4_givenAwayWith_X3_add : GoodIn wsX4_givenAwayWith wsX3_add := goodIn_r _ [35, 36, 37, 31, 38, 39, 40, 29, 41, 18, 19, 20, 42, 43, 44, 45, 63, 64, 65] (by decide +kernel) (by decide +kernel)
set_option maxRecDepth 20000 in
theorem gX4_givenAwayWith_X3_add : GoodIn wsX4_givenAwayWith (wsV RX4 93 RX3 yX3_add wsX3_add) := goodIn_app (goodIn_of _ (by decide +kernel)) ggX4_givenAwayWith_X3_add
set_option maxRecDepth 20000 in
theorem ggX4_givenAwayWith_X3_alone : GoodIn wsX4_givenAwayWith wsX3_alone := goodIn_r _ [49, 31, 36, 18, 19, 20, 50, 51, 29, 52, 63, 64, 65] (by decide +kernel) (by decide +kernel)
set_option maxRecDepth 20000 in
theorem gX4_givenAwayWith_X3_alone : GoodIn wsX4_givenAwayWith (wsV RX4 96 RX3 yX3_alone wsX3_alone) := goodIn_app (goodIn_of _ (by decide +kernel)) ggX4_givenAwayWith_X3_alone
theorem dX4_givenAwayWith_0 : decode cX4_givenAwayWith 0 = .ok (.aload_n 0, 1) := by decide +kernel
theorem dX4_givenAwayWith_1 : decode cX4_givenAwayWith 1 = .ok (.aload_n 0, 1) := by decide +kernel
theorem dX4_givenAwayWith_2 : decode cX4_givenAwayWith 2 = .ok (.iload_n 1, 1) := by decide +kernel
theorem dX4_givenAwayWith_3 : decode cX4_givenAwayWith 3 = .ok (.invokevirtual 75, 3) := by decide +kernel
theorem dX4_givenAwayWith_6 : decode cX4_givenAwayWith 6 = .ok (.invokevirtual 78, 3) := by decide +kernel
theorem dX4_givenAwayWith_9 : decode cX4_givenAwayWith 9 = .ok (.aload_n 0, 1) := by decide +kernel
theorem dX4_givenAwayWith_10 : decode cX4_givenAwayWith 10 = .ok (.getfield 34, 3) := by decide +kernel
theorem dX4_givenAwayWith_13 : decode cX4_givenAwayWith 13 = .ok (.iload_n 2, 1) := by decide +kernel
theorem dX4_givenAwayWith_14 : decode cX4_givenAwayWith 14 = .ok (.invokevirtual 93, 3) := by decide +kernel
theorem dX4_givenAwayWith_17 : decode cX4_givenAwayWith 17 = .ok (.aload_n 0, 1) := by decide +kernel
theorem dX4_givenAwayWith_18 : decode cX4_givenAwayWith 18 = .ok (.getfield 34, 3) := by decide +kernel
theorem dX4_givenAwayWith_21 : decode cX4_givenAwayWith 21 = .ok (.invokevirtual 96, 3) := by decide +kernel
theorem dX4_givenAwayWith_24 : decode cX4_givenAwayWith 24 = .ok (.ireturn, 1) := by decide +kernel
set_option maxRecDepth 20000 in
theorem ggX4_givenAwayByTalk_X4_circle : GoodIn wsX4_givenAwayByTalk wsX4_circle := goodIn_r _ [6, 7, 8, 9, 10, 11, 12, 13, 14, 15, 16, 17, 18, 19, 20, 53, 54, 55, 56, 57, 58, 59, 60, 61, 62] (by decide +kernel) (by decide +kernel)
set_option maxRecDepth 20000 in
theorem gX4_givenAwayByTalk_X4_circle : GoodIn wsX4_givenAwayByTalk (wsV RX4 75 RX4 yX4_circle wsX4_circle) := goodIn_app (goodIn_of _ (by decide +kernel)) ggX4_givenAwayByTalk_X4_circle
set_option maxRecDepth 20000 in
theorem ggX4_givenAwayByTalk_X4_fillSpan : GoodIn wsX4_givenAwayByTalk wsX4_fillSpan := goodIn_r _ [24, 1, 25, 26, 27, 28, 29, 30, 31, 32, 33, 34, 35, 36, 37, 38, 39, 40, 41, 18, 19, 20, 42, 43, 44, 45, 53, 54, 55, 56, 57, 58, 59, 60, 61, 63, 64, 65] (by decide +kernel) (by decide +kernel)
set_option maxRecDepth 20000 in
theorem gX4_givenAwayByTalk_X4_fillSpan : GoodIn wsX4_givenAwayByTalk (wsV RX4 78 RX4 yX4_fillSpan wsX4_fillSpan) := goodIn_app (goodIn_of _ (by decide +kernel)) ggX4_givenAwayByTalk_X4_fillSpan
set_option maxRecDepth 20000 in
theorem ggX4_givenAwayByTalk_X3_alone : GoodIn wsX4_givenAwayByTalk wsX3_alone := goodIn_r _ [49, 31, 36, 18, 19, 20, 50, 51, 29, 52, 63, 64, 65] (by decide +kernel) (by decide +kernel)
set_option maxRecDepth 20000 in
theorem gX4_givenAwayByTalk_X3_alone : GoodIn wsX4_givenAwayByTalk (wsV RX4 96 RX3 yX3_alone wsX3_alone) := goodIn_app (goodIn_of _ (by decide +kernel)) ggX4_givenAwayByTalk_X3_alone
theorem dX4_givenAwayByTalk_0 : decode cX4_givenAwayByTalk 0 = .ok (.aload_n 0, 1) := by decide +kernel
theorem dX4_givenAwayByTalk_1 : decode cX4_givenAwayByTalk 1 = .ok (.aload_n 0, 1) := by decide +kernel
theorem dX4_givenAwayByTalk_2 : decode cX4_givenAwayByTalk 2 = .ok (.iload_n 1, 1) := by decide +kernel
theorem dX4_givenAwayByTalk_3 : decode cX4_givenAwayByTalk 3 = .ok (.invokevirtual 75, 3) := by decide +kernel
theorem dX4_givenAwayByTalk_6 : decode cX4_givenAwayByTalk 6 = .ok (.aload_n 0, 1) := by decide +kernel
theorem dX4_givenAwayByTalk_7 : decode cX4_givenAwayByTalk 7 = .ok (.iload_n 2, 1) := by decide +kernel
theorem dX4_givenAwayByTalk_8 : decode cX4_givenAwayByTalk 8 = .ok (.invokevirtual 75, 3) := by decide +kernel
theorem dX4_givenAwayByTalk_11 : decode cX4_givenAwayByTalk 11 = .ok (.ior, 1) := by decide +kernel
theorem dX4_givenAwayByTalk_12 : decode cX4_givenAwayByTalk 12 = .ok (.invokevirtual 78, 3) := by decide +kernel
theorem dX4_givenAwayByTalk_15 : decode cX4_givenAwayByTalk 15 = .ok (.aload_n 0, 1) := by decide +kernel
theorem dX4_givenAwayByTalk_16 : decode cX4_givenAwayByTalk 16 = .ok (.getfield 34, 3) := by decide +kernel
theorem dX4_givenAwayByTalk_19 : decode cX4_givenAwayByTalk 19 = .ok (.invokevirtual 96, 3) := by decide +kernel
theorem dX4_givenAwayByTalk_22 : decode cX4_givenAwayByTalk 22 = .ok (.ireturn, 1) := by decide +kernel
set_option maxRecDepth 20000 in
theorem ggX4_areSound_X4_circle : GoodIn wsX4_areSound wsX4_circle := goodIn_r _ [7, 8, 9, 10, 11, 12, 13, 14, 15, 16, 17, 18, 19, 20, 21, 62, 63, 64, 65, 66, 67, 68, 69, 70, 71] (by decide +kernel) (by decide +kernel)
set_option maxRecDepth 20000 in
theorem gX4_areSound_X4_circle : GoodIn wsX4_areSound (wsV RX4 75 RX4 yX4_circle wsX4_circle) := goodIn_app (goodIn_of _ (by decide +kernel)) ggX4_areSound_X4_circle
set_option maxRecDepth 20000 in
theorem ggX4_areSound_X4_fillSpan : GoodIn wsX4_areSound wsX4_fillSpan := goodIn_r _ [25, 2, 26, 27, 28, 29, 30, 31, 32, 33, 34, 35, 36, 37, 38, 39, 40, 41, 42, 19, 20, 21, 43, 44, 45, 46, 62, 63, 64, 65, 66, 67, 68, 69, 70, 72, 73, 74] (by decide +kernel) (by decide +kernel)
set_option maxRecDepth 20000 in
theorem gX4_areSound_X4_fillSpan : GoodIn wsX4_areSound (wsV RX4 78 RX4 yX4_fillSpan wsX4_fillSpan) := goodIn_app (goodIn_of _ (by decide +kernel)) ggX4_areSound_X4_fillSpan
set_option maxRecDepth 20000 in
theorem ggX4_areSound_X3_alone : GoodIn wsX4_areSound wsX3_alone := goodIn_r _ [50, 32, 37, 19, 20, 21, 51, 52, 30, 53, 72, 73, 74] (by decide +kernel) (by decide +kernel)
set_option maxRecDepth 20000 in
theorem gX4_areSound_X3_alone : GoodIn wsX4_areSound (wsV RX4 96 RX3 yX3_alone wsX3_alone) := goodIn_app (goodIn_of _ (by decide +kernel)) ggX4_areSound_X3_alone
set_option maxRecDepth 20000 in
theorem ggX4_areSound_X4_spanHoldsAllTold : GoodIn wsX4_areSound wsX4_spanHoldsAllTold := goodIn_r _ [57, 26, 2, 19, 20, 21, 58, 59, 60, 30, 61, 39, 40, 41, 42, 38, 32, 43, 44, 45, 46, 37, 62, 63, 64, 65, 66, 67, 68, 69, 70, 72, 73, 74] (by decide +kernel) (by decide +kernel)
set_option maxRecDepth 20000 in
theorem gX4_areSound_X4_spanHoldsAllTold : GoodIn wsX4_areSound (wsV RX4 99 RX4 yX4_spanHoldsAllTold wsX4_spanHoldsAllTold) := goodIn_app (goodIn_of _ (by decide +kernel)) ggX4_areSound_X4_spanHoldsAllTold
theorem dX4_areSound_0 : decode cX4_areSound 0 = .ok (.iconst 0, 1) := by decide +kernel
theorem dX4_areSound_1 : decode cX4_areSound 1 = .ok (.istore_n 1, 1) := by decide +kernel
theorem dX4_areSound_2 : decode cX4_areSound 2 = .ok (.iload_n 1, 1) := by decide +kernel
theorem dX4_areSound_3 : decode cX4_areSound 3 = .ok (.aload_n 0, 1) := by decide +kernel
theorem dX4_areSound_4 : decode cX4_areSound 4 = .ok (.getfield 45, 3) := by decide +kernel
theorem dX4_areSound_7 : decode cX4_areSound 7 = .ok (.if_icmp .ge 38, 3) := by decide +kernel
theorem dX4_areSound_10 : decode cX4_areSound 10 = .ok (.aload_n 0, 1) := by decide +kernel
theorem dX4_areSound_11 : decode cX4_areSound 11 = .ok (.aload_n 0, 1) := by decide +kernel
theorem dX4_areSound_12 : decode cX4_areSound 12 = .ok (.iload_n 1, 1) := by decide +kernel
theorem dX4_areSound_13 : decode cX4_areSound 13 = .ok (.invokevirtual 75, 3) := by decide +kernel
theorem dX4_areSound_16 : decode cX4_areSound 16 = .ok (.invokevirtual 78, 3) := by decide +kernel
theorem dX4_areSound_19 : decode cX4_areSound 19 = .ok (.aload_n 0, 1) := by decide +kernel
theorem dX4_areSound_20 : decode cX4_areSound 20 = .ok (.getfield 34, 3) := by decide +kernel
theorem dX4_areSound_23 : decode cX4_areSound 23 = .ok (.invokevirtual 96, 3) := by decide +kernel
theorem dX4_areSound_26 : decode cX4_areSound 26 = .ok (.ifCond .ne 11, 3) := by decide +kernel
theorem dX4_areSound_29 : decode cX4_areSound 29 = .ok (.aload_n 0, 1) := by decide +kernel
theorem dX4_areSound_30 : decode cX4_areSound 30 = .ok (.iload_n 1, 1) := by decide +kernel
theorem dX4_areSound_31 : decode cX4_areSound 31 = .ok (.invokevirtual 99, 3) := by decide +kernel
theorem dX4_areSound_34 : decode cX4_areSound 34 = .ok (.ifCond .ne 5, 3) := by decide +kernel
theorem dX4_areSound_37 : decode cX4_areSound 37 = .ok (.iconst 0, 1) := by decide +kernel
theorem dX4_areSound_38 : decode cX4_areSound 38 = .ok (.ireturn, 1) := by decide +kernel
theorem dX4_areSound_39 : decode cX4_areSound 39 = .ok (.iinc 1 1, 3) := by decide +kernel
theorem dX4_areSound_42 : decode cX4_areSound 42 = .ok (.goto (-40), 3) := by decide +kernel
theorem dX4_areSound_45 : decode cX4_areSound 45 = .ok (.iconst 1, 1) := by decide +kernel
theorem dX4_areSound_46 : decode cX4_areSound 46 = .ok (.ireturn, 1) := by decide +kernel
set_option maxRecDepth 20000 in
theorem ggX4_spanHoldsAllTold_X6_contains : GoodIn wsX4_spanHoldsAllTold wsX6_contains := goodIn_r _ [5] (by decide +kernel) (by decide +kernel)
set_option maxRecDepth 20000 in
theorem gX4_spanHoldsAllTold_X6_contains_n102 : GoodIn wsX4_spanHoldsAllTold (wsX6_contains) := ggX4_spanHoldsAllTold_X6_contains
set_option maxRecDepth 20000 in
theorem ggX4_spanHoldsAllTold_X3_holds : GoodIn wsX4_spanHoldsAllTold wsX3_holds := goodIn_r _ [10, 11, 12, 13, 9, 14, 15, 16, 3, 4, 5, 17, 18, 19, 20, 21, 31, 32, 33] (by decide +kernel) (by decide +kernel)
set_option maxRecDepth 20000 in
theorem gX4_spanHoldsAllTold_X3_holds : GoodIn wsX4_spanHoldsAllTold (wsV RX4 89 RX3 yX3_holds wsX3_holds) := goodIn_app (goodIn_of _ (by decide +kernel)) ggX4_spanHoldsAllTold_X3_holds
theorem dX4_spanHoldsAllTold_0 : decode cX4_spanHoldsAllTold 0 = .ok (.iconst 0, 1) := by decide +kernel
theorem dX4_spanHoldsAllTold_1 : decode cX4_spanHoldsAllTold 1 = .ok (.istore_n 2, 1) := by decide +kernel
theorem dX4_spanHoldsAllTold_2 : decode cX4_spanHoldsAllTold 2 = .ok (.iload_n 2, 1) := by decide +kernel
theorem dX4_spanHoldsAllTold_3 : decode cX4_spanHoldsAllTold 3 = .ok (.aload_n 0, 1) := by decide +kernel
theorem dX4_spanHoldsAllTold_4 : decode cX4_spanHoldsAllTold 4 = .ok (.getfield 22, 3) := by decide +kernel
theorem dX4_spanHoldsAllTold_7 : decode cX4_spanHoldsAllTold 7 = .ok (.arraylength, 1) := by decide +kernel
theorem dX4_spanHoldsAllTold_8 : decode cX4_spanHoldsAllTold 8 = .ok (.if_icmp .ge 35, 3) := by decide +kernel
theorem dX4_spanHoldsAllTold_11 : decode cX4_spanHoldsAllTold 11 = .ok (.aload_n 0, 1) := by decide +kernel
theorem dX4_spanHoldsAllTold_12 : decode cX4_spanHoldsAllTold 12 = .ok (.getfield 22, 3) := by decide +kernel
theorem dX4_spanHoldsAllTold_15 : decode cX4_spanHoldsAllTold 15 = .ok (.iload_n 2, 1) := by decide +kernel
theorem dX4_spanHoldsAllTold_16 : decode cX4_spanHoldsAllTold 16 = .ok (.iaload, 1) := by decide +kernel
theorem dX4_spanHoldsAllTold_17 : decode cX4_spanHoldsAllTold 17 = .ok (.iload_n 1, 1) := by decide +kernel
theorem dX4_spanHoldsAllTold_18 : decode cX4_spanHoldsAllTold 18 = .ok (.invokestatic 102, 3) := by decide +kernel
theorem dX4_spanHoldsAllTold_21 : decode cX4_spanHoldsAllTold 21 = .ok (.ifCond .eq 16, 3) := by decide +kernel
theorem dX4_spanHoldsAllTold_24 : decode cX4_spanHoldsAllTold 24 = .ok (.aload_n 0, 1) := by decide +kernel
theorem dX4_spanHoldsAllTold_25 : decode cX4_spanHoldsAllTold 25 = .ok (.getfield 34, 3) := by decide +kernel
theorem dX4_spanHoldsAllTold_28 : decode cX4_spanHoldsAllTold 28 = .ok (.iload_n 2, 1) := by decide +kernel
theorem dX4_spanHoldsAllTold_29 : decode cX4_spanHoldsAllTold 29 = .ok (.invokevirtual 89, 3) := by decide +kernel
theorem dX4_spanHoldsAllTold_32 : decode cX4_spanHoldsAllTold 32 = .ok (.ifCond .ne 5, 3) := by decide +kernel
theorem dX4_spanHoldsAllTold_35 : decode cX4_spanHoldsAllTold 35 = .ok (.iconst 0, 1) := by decide +kernel
theorem dX4_spanHoldsAllTold_36 : decode cX4_spanHoldsAllTold 36 = .ok (.ireturn, 1) := by decide +kernel
theorem dX4_spanHoldsAllTold_37 : decode cX4_spanHoldsAllTold 37 = .ok (.iinc 2 1, 3) := by decide +kernel
theorem dX4_spanHoldsAllTold_40 : decode cX4_spanHoldsAllTold 40 = .ok (.goto (-38), 3) := by decide +kernel
theorem dX4_spanHoldsAllTold_43 : decode cX4_spanHoldsAllTold 43 = .ok (.iconst 1, 1) := by decide +kernel
theorem dX4_spanHoldsAllTold_44 : decode cX4_spanHoldsAllTold 44 = .ok (.ireturn, 1) := by decide +kernel
set_option maxRecDepth 20000 in
theorem ggX4_fillSpan_X3_forgetAll : GoodIn wsX4_fillSpan wsX3_forgetAll := goodIn_r _ [7, 8, 35, 36, 37] (by decide +kernel) (by decide +kernel)
set_option maxRecDepth 20000 in
theorem gX4_fillSpan_X3_forgetAll : GoodIn wsX4_fillSpan (wsV RX4 106 RX3 yX3_forgetAll wsX3_forgetAll) := goodIn_app (goodIn_of _ (by decide +kernel)) ggX4_fillSpan_X3_forgetAll
set_option maxRecDepth 20000 in
theorem ggX4_fillSpan_X3_add : GoodIn wsX4_fillSpan wsX3_add := goodIn_r _ [12, 13, 14, 8, 15, 16, 17, 6, 18, 19, 20, 21, 22, 23, 24, 25, 35, 36, 37] (by decide +kernel) (by decide +kernel)
set_option maxRecDepth 20000 in
theorem gX4_fillSpan_X3_add : GoodIn wsX4_fillSpan (wsV RX4 93 RX3 yX3_add wsX3_add) := goodIn_app (goodIn_of _ (by decide +kernel)) ggX4_fillSpan_X3_add
theorem dX4_fillSpan_0 : decode cX4_fillSpan 0 = .ok (.aload_n 0, 1) := by decide +kernel
theorem dX4_fillSpan_1 : decode cX4_fillSpan 1 = .ok (.getfield 34, 3) := by decide +kernel
theorem dX4_fillSpan_4 : decode cX4_fillSpan 4 = .ok (.invokevirtual 106, 3) := by decide +kernel
theorem dX4_fillSpan_7 : decode cX4_fillSpan 7 = .ok (.iconst 0, 1) := by decide +kernel
theorem dX4_fillSpan_8 : decode cX4_fillSpan 8 = .ok (.istore_n 2, 1) := by decide +kernel
theorem dX4_fillSpan_9 : decode cX4_fillSpan 9 = .ok (.iload_n 2, 1) := by decide +kernel
theorem dX4_fillSpan_10 : decode cX4_fillSpan 10 = .ok (.aload_n 0, 1) := by decide +kernel
theorem dX4_fillSpan_11 : decode cX4_fillSpan 11 = .ok (.getfield 22, 3) := by decide +kernel
theorem dX4_fillSpan_14 : decode cX4_fillSpan 14 = .ok (.arraylength, 1) := by decide +kernel
theorem dX4_fillSpan_15 : decode cX4_fillSpan 15 = .ok (.if_icmp .ge 28, 3) := by decide +kernel
theorem dX4_fillSpan_18 : decode cX4_fillSpan 18 = .ok (.aload_n 0, 1) := by decide +kernel
theorem dX4_fillSpan_19 : decode cX4_fillSpan 19 = .ok (.getfield 22, 3) := by decide +kernel
theorem dX4_fillSpan_22 : decode cX4_fillSpan 22 = .ok (.iload_n 2, 1) := by decide +kernel
theorem dX4_fillSpan_23 : decode cX4_fillSpan 23 = .ok (.iaload, 1) := by decide +kernel
theorem dX4_fillSpan_24 : decode cX4_fillSpan 24 = .ok (.iload_n 1, 1) := by decide +kernel
theorem dX4_fillSpan_25 : decode cX4_fillSpan 25 = .ok (.iand, 1) := by decide +kernel
theorem dX4_fillSpan_26 : decode cX4_fillSpan 26 = .ok (.ifCond .eq 11, 3) := by decide +kernel
theorem dX4_fillSpan_29 : decode cX4_fillSpan 29 = .ok (.aload_n 0, 1) := by decide +kernel
theorem dX4_fillSpan_30 : decode cX4_fillSpan 30 = .ok (.getfield 34, 3) := by decide +kernel
theorem dX4_fillSpan_33 : decode cX4_fillSpan 33 = .ok (.iload_n 2, 1) := by decide +kernel
theorem dX4_fillSpan_34 : decode cX4_fillSpan 34 = .ok (.invokevirtual 93, 3) := by decide +kernel
theorem dX4_fillSpan_37 : decode cX4_fillSpan 37 = .ok (.iinc 2 1, 3) := by decide +kernel
theorem dX4_fillSpan_40 : decode cX4_fillSpan 40 = .ok (.goto (-31), 3) := by decide +kernel
theorem dX4_fillSpan_43 : decode cX4_fillSpan 43 = .ok (.return_, 1) := by decide +kernel
set_option maxRecDepth 20000 in
theorem ggX4_sumOf_X6_contains : GoodIn wsX4_sumOf wsX6_contains := goodIn_r _ [5] (by decide +kernel) (by decide +kernel)
set_option maxRecDepth 20000 in
theorem gX4_sumOf_X6_contains_n102 : GoodIn wsX4_sumOf (wsX6_contains) := ggX4_sumOf_X6_contains
theorem dX4_sumOf_0 : decode cX4_sumOf 0 = .ok (.iconst 0, 1) := by decide +kernel
theorem dX4_sumOf_1 : decode cX4_sumOf 1 = .ok (.istore_n 2, 1) := by decide +kernel
theorem dX4_sumOf_2 : decode cX4_sumOf 2 = .ok (.iconst 0, 1) := by decide +kernel
theorem dX4_sumOf_3 : decode cX4_sumOf 3 = .ok (.istore_n 3, 1) := by decide +kernel
theorem dX4_sumOf_4 : decode cX4_sumOf 4 = .ok (.iload_n 3, 1) := by decide +kernel
theorem dX4_sumOf_5 : decode cX4_sumOf 5 = .ok (.aload_n 0, 1) := by decide +kernel
theorem dX4_sumOf_6 : decode cX4_sumOf 6 = .ok (.getfield 42, 3) := by decide +kernel
theorem dX4_sumOf_9 : decode cX4_sumOf 9 = .ok (.if_icmp .ge 26, 3) := by decide +kernel
theorem dX4_sumOf_12 : decode cX4_sumOf 12 = .ok (.iload_n 1, 1) := by decide +kernel
theorem dX4_sumOf_13 : decode cX4_sumOf 13 = .ok (.iload_n 3, 1) := by decide +kernel
theorem dX4_sumOf_14 : decode cX4_sumOf 14 = .ok (.invokestatic 102, 3) := by decide +kernel
theorem dX4_sumOf_17 : decode cX4_sumOf 17 = .ok (.ifCond .eq 12, 3) := by decide +kernel
theorem dX4_sumOf_20 : decode cX4_sumOf 20 = .ok (.iload_n 2, 1) := by decide +kernel
theorem dX4_sumOf_21 : decode cX4_sumOf 21 = .ok (.aload_n 0, 1) := by decide +kernel
theorem dX4_sumOf_22 : decode cX4_sumOf 22 = .ok (.getfield 9, 3) := by decide +kernel
theorem dX4_sumOf_25 : decode cX4_sumOf 25 = .ok (.iload_n 3, 1) := by decide +kernel
theorem dX4_sumOf_26 : decode cX4_sumOf 26 = .ok (.iaload, 1) := by decide +kernel
theorem dX4_sumOf_27 : decode cX4_sumOf 27 = .ok (.iadd, 1) := by decide +kernel
theorem dX4_sumOf_28 : decode cX4_sumOf 28 = .ok (.istore_n 2, 1) := by decide +kernel
theorem dX4_sumOf_29 : decode cX4_sumOf 29 = .ok (.iinc 3 1, 3) := by decide +kernel
theorem dX4_sumOf_32 : decode cX4_sumOf 32 = .ok (.goto (-28), 3) := by decide +kernel
theorem dX4_sumOf_35 : decode cX4_sumOf 35 = .ok (.iload_n 2, 1) := by decide +kernel
theorem dX4_sumOf_36 : decode cX4_sumOf 36 = .ok (.ireturn, 1) := by decide +kernel
theorem dX4_total_0 : decode cX4_total 0 = .ok (.iconst 0, 1) := by decide +kernel
theorem dX4_total_1 : decode cX4_total 1 = .ok (.istore_n 1, 1) := by decide +kernel
theorem dX4_total_2 : decode cX4_total 2 = .ok (.iconst 0, 1) := by decide +kernel
theorem dX4_total_3 : decode cX4_total 3 = .ok (.istore_n 2, 1) := by decide +kernel

set_option maxRecDepth 20000 in
theorem ggX0_init_X1_init : GoodIn wsX0_init wsX1_init := goodIn_r _ [12, 13, 2, 3, 8, 14, 15] (by decide +kernel) (by decide +kernel)
set_option maxRecDepth 20000 in
theorem gX0_init_X1_init_n11 : GoodIn wsX0_init (wsX1_init) := ggX0_init_X1_init
theorem dX0_init_0 : decode cX0_init 0 = .ok (.aload_n 0, 1) := by decide +kernel
theorem dX0_init_1 : decode cX0_init 1 = .ok (.invokespecial 3, 3) := by decide +kernel
theorem dX0_init_4 : decode cX0_init 4 = .ok (.aload_n 0, 1) := by decide +kernel
theorem dX0_init_5 : decode cX0_init 5 = .ok (.new 9, 3) := by decide +kernel
theorem dX0_init_8 : decode cX0_init 8 = .ok (.dup, 1) := by decide +kernel
theorem dX0_init_9 : decode cX0_init 9 = .ok (.invokespecial 11, 3) := by decide +kernel
theorem dX0_init_12 : decode cX0_init 12 = .ok (.putfield 12, 3) := by decide +kernel
theorem dX0_init_15 : decode cX0_init 15 = .ok (.aload_n 0, 1) := by decide +kernel
theorem dX0_init_16 : decode cX0_init 16 = .ok (.bipush 7, 2) := by decide +kernel
theorem dX0_init_18 : decode cX0_init 18 = .ok (.newarray .int, 2) := by decide +kernel
theorem dX0_init_20 : decode cX0_init 20 = .ok (.putfield 18, 3) := by decide +kernel
theorem dX0_init_23 : decode cX0_init 23 = .ok (.aload_n 0, 1) := by decide +kernel
theorem dX0_init_24 : decode cX0_init 24 = .ok (.iconst 1, 1) := by decide +kernel
theorem dX0_init_25 : decode cX0_init 25 = .ok (.putfield 22, 3) := by decide +kernel
theorem dX0_init_28 : decode cX0_init 28 = .ok (.return_, 1) := by decide +kernel
theorem dX0_count_0 : decode cX0_count 0 = .ok (.aload_n 0, 1) := by decide +kernel
theorem dX0_count_1 : decode cX0_count 1 = .ok (.getfield 26, 3) := by decide +kernel
theorem dX0_count_4 : decode cX0_count 4 = .ok (.ireturn, 1) := by decide +kernel
theorem dX0_knows_0 : decode cX0_knows 0 = .ok (.iload_n 1, 1) := by decide +kernel
theorem dX0_knows_1 : decode cX0_knows 1 = .ok (.ifCond .lt 15, 3) := by decide +kernel
theorem dX0_knows_4 : decode cX0_knows 4 = .ok (.iload_n 1, 1) := by decide +kernel
theorem dX0_knows_5 : decode cX0_knows 5 = .ok (.aload_n 0, 1) := by decide +kernel
theorem dX0_knows_6 : decode cX0_knows 6 = .ok (.getfield 26, 3) := by decide +kernel
theorem dX0_knows_9 : decode cX0_knows 9 = .ok (.if_icmp .ge 7, 3) := by decide +kernel
theorem dX0_knows_12 : decode cX0_knows 12 = .ok (.iconst 1, 1) := by decide +kernel
theorem dX0_knows_13 : decode cX0_knows 13 = .ok (.goto 4, 3) := by decide +kernel
theorem dX0_knows_16 : decode cX0_knows 16 = .ok (.iconst 0, 1) := by decide +kernel
theorem dX0_knows_17 : decode cX0_knows 17 = .ok (.ireturn, 1) := by decide +kernel
theorem dX0_barNow_0 : decode cX0_barNow 0 = .ok (.aload_n 0, 1) := by decide +kernel
theorem dX0_barNow_1 : decode cX0_barNow 1 = .ok (.getfield 22, 3) := by decide +kernel
theorem dX0_barNow_4 : decode cX0_barNow 4 = .ok (.ireturn, 1) := by decide +kernel
theorem dX0_addSource_0 : decode cX0_addSource 0 = .ok (.aload_n 0, 1) := by decide +kernel
theorem dX0_addSource_1 : decode cX0_addSource 1 = .ok (.dup, 1) := by decide +kernel
theorem dX0_addSource_2 : decode cX0_addSource 2 = .ok (.getfield 26, 3) := by decide +kernel
theorem dX0_addSource_5 : decode cX0_addSource 5 = .ok (.iconst 1, 1) := by decide +kernel
theorem dX0_addSource_6 : decode cX0_addSource 6 = .ok (.iadd, 1) := by decide +kernel
theorem dX0_addSource_7 : decode cX0_addSource 7 = .ok (.putfield 26, 3) := by decide +kernel
theorem dX0_addSource_10 : decode cX0_addSource 10 = .ok (.aload_n 0, 1) := by decide +kernel
theorem dX0_addSource_11 : decode cX0_addSource 11 = .ok (.getfield 26, 3) := by decide +kernel
theorem dX0_addSource_14 : decode cX0_addSource 14 = .ok (.iconst 1, 1) := by decide +kernel
theorem dX0_addSource_15 : decode cX0_addSource 15 = .ok (.isub, 1) := by decide +kernel
theorem dX0_addSource_16 : decode cX0_addSource 16 = .ok (.ireturn, 1) := by decide +kernel
set_option maxRecDepth 20000 in
theorem ggX0_tellKin_X1_link : GoodIn wsX0_tellKin wsX1_link := goodIn_r _ [6, 7, 34] (by decide +kernel) (by decide +kernel)
set_option maxRecDepth 20000 in
theorem gX0_tellKin_X1_link : GoodIn wsX0_tellKin (wsV RX0 29 RX1 yX1_link wsX1_link) := goodIn_app (goodIn_of _ (by decide +kernel)) ggX0_tellKin_X1_link
set_option maxRecDepth 20000 in
theorem ggX0_tellKin_X1_cut : GoodIn wsX0_tellKin wsX1_cut := goodIn_r _ [11, 7, 34] (by decide +kernel) (by decide +kernel)
set_option maxRecDepth 20000 in
theorem gX0_tellKin_X1_cut : GoodIn wsX0_tellKin (wsV RX0 33 RX1 yX1_cut wsX1_cut) := goodIn_app (goodIn_of _ (by decide +kernel)) ggX0_tellKin_X1_cut
set_option maxRecDepth 20000 in
theorem ggX0_tellKin_X0_findBarred : GoodIn wsX0_tellKin wsX0_findBarred := goodIn_r _ [16, 17, 1, 18, 19, 20, 21, 5, 22, 23, 24, 25, 26, 7, 27, 28, 29, 30, 31, 32, 33, 34] (by decide +kernel) (by decide +kernel)
set_option maxRecDepth 20000 in
theorem gX0_tellKin_X0_findBarred : GoodIn wsX0_tellKin (wsV RX0 36 RX0 yX0_findBarred wsX0_findBarred) := goodIn_app (goodIn_of _ (by decide +kernel)) ggX0_tellKin_X0_findBarred
theorem dX0_tellKin_0 : decode cX0_tellKin 0 = .ok (.iload_n 3, 1) := by decide +kernel
theorem dX0_tellKin_1 : decode cX0_tellKin 1 = .ok (.ifCond .eq 15, 3) := by decide +kernel
theorem dX0_tellKin_4 : decode cX0_tellKin 4 = .ok (.aload_n 0, 1) := by decide +kernel
theorem dX0_tellKin_5 : decode cX0_tellKin 5 = .ok (.getfield 12, 3) := by decide +kernel
theorem dX0_tellKin_8 : decode cX0_tellKin 8 = .ok (.iload_n 1, 1) := by decide +kernel
theorem dX0_tellKin_9 : decode cX0_tellKin 9 = .ok (.iload_n 2, 1) := by decide +kernel
theorem dX0_tellKin_10 : decode cX0_tellKin 10 = .ok (.invokevirtual 29, 3) := by decide +kernel
theorem dX0_tellKin_13 : decode cX0_tellKin 13 = .ok (.goto 12, 3) := by decide +kernel
theorem dX0_tellKin_16 : decode cX0_tellKin 16 = .ok (.aload_n 0, 1) := by decide +kernel
theorem dX0_tellKin_17 : decode cX0_tellKin 17 = .ok (.getfield 12, 3) := by decide +kernel
theorem dX0_tellKin_20 : decode cX0_tellKin 20 = .ok (.iload_n 1, 1) := by decide +kernel
theorem dX0_tellKin_21 : decode cX0_tellKin 21 = .ok (.iload_n 2, 1) := by decide +kernel
theorem dX0_tellKin_22 : decode cX0_tellKin 22 = .ok (.invokevirtual 33, 3) := by decide +kernel
theorem dX0_tellKin_25 : decode cX0_tellKin 25 = .ok (.aload_n 0, 1) := by decide +kernel
theorem dX0_tellKin_26 : decode cX0_tellKin 26 = .ok (.invokevirtual 36, 3) := by decide +kernel
theorem dX0_tellKin_29 : decode cX0_tellKin 29 = .ok (.return_, 1) := by decide +kernel
set_option maxRecDepth 20000 in
theorem ggX0_tellBar_X0_findBarred : GoodIn wsX0_tellBar wsX0_findBarred := goodIn_r _ [6, 7, 8, 1, 9, 10, 11, 12, 13, 14, 15, 16, 17, 18, 19, 20, 21, 22, 23, 24, 25, 26] (by decide +kernel) (by decide +kernel)
set_option maxRecDepth 20000 in
theorem gX0_tellBar_X0_findBarred : GoodIn wsX0_tellBar (wsV RX0 36 RX0 yX0_findBarred wsX0_findBarred) := goodIn_app (goodIn_of _ (by decide +kernel)) ggX0_tellBar_X0_findBarred
theorem dX0_tellBar_0 : decode cX0_tellBar 0 = .ok (.aload_n 0, 1) := by decide +kernel
theorem dX0_tellBar_1 : decode cX0_tellBar 1 = .ok (.iload_n 1, 1) := by decide +kernel
theorem dX0_tellBar_2 : decode cX0_tellBar 2 = .ok (.putfield 22, 3) := by decide +kernel
theorem dX0_tellBar_5 : decode cX0_tellBar 5 = .ok (.aload_n 0, 1) := by decide +kernel
theorem dX0_tellBar_6 : decode cX0_tellBar 6 = .ok (.invokevirtual 36, 3) := by decide +kernel
theorem dX0_tellBar_9 : decode cX0_tellBar 9 = .ok (.return_, 1) := by decide +kernel
set_option maxRecDepth 20000 in
theorem ggX0_kinOf_X1_nextTo : GoodIn wsX0_kinOf wsX1_nextTo := goodIn_r _ [6, 7, 12] (by decide +kernel) (by decide +kernel)
set_option maxRecDepth 20000 in
theorem gX0_kinOf_X1_nextTo : GoodIn wsX0_kinOf (wsV RX0 39 RX1 yX1_nextTo wsX1_nextTo) := goodIn_app (goodIn_of _ (by decide +kernel)) ggX0_kinOf_X1_nextTo
theorem dX0_kinOf_0 : decode cX0_kinOf 0 = .ok (.aload_n 0, 1) := by decide +kernel
theorem dX0_kinOf_1 : decode cX0_kinOf 1 = .ok (.getfield 12, 3) := by decide +kernel
theorem dX0_kinOf_4 : decode cX0_kinOf 4 = .ok (.iload_n 1, 1) := by decide +kernel
theorem dX0_kinOf_5 : decode cX0_kinOf 5 = .ok (.invokevirtual 39, 3) := by decide +kernel
theorem dX0_kinOf_8 : decode cX0_kinOf 8 = .ok (.ireturn, 1) := by decide +kernel
theorem dX0_within_0 : decode cX0_within 0 = .ok (.aload_n 0, 1) := by decide +kernel
theorem dX0_within_1 : decode cX0_within 1 = .ok (.getfield 18, 3) := by decide +kernel
theorem dX0_within_4 : decode cX0_within 4 = .ok (.iload_n 1, 1) := by decide +kernel
theorem dX0_within_5 : decode cX0_within 5 = .ok (.iaload, 1) := by decide +kernel
theorem dX0_within_6 : decode cX0_within 6 = .ok (.ireturn, 1) := by decide +kernel
set_option maxRecDepth 20000 in
theorem ggX0_firstPairWithin_X6_contains : GoodIn wsX0_firstPairWithin wsX6_contains := goodIn_r _ [5] (by decide +kernel) (by decide +kernel)
set_option maxRecDepth 20000 in
theorem gX0_firstPairWithin_X6_contains_n47 : GoodIn wsX0_firstPairWithin (wsX6_contains) := ggX0_firstPairWithin_X6_contains
theorem dX0_firstPairWithin_0 : decode cX0_firstPairWithin 0 = .ok (.iconst 0, 1) := by decide +kernel
theorem dX0_firstPairWithin_1 : decode cX0_firstPairWithin 1 = .ok (.istore_n 2, 1) := by decide +kernel
theorem dX0_firstPairWithin_2 : decode cX0_firstPairWithin 2 = .ok (.iload_n 2, 1) := by decide +kernel
theorem dX0_firstPairWithin_3 : decode cX0_firstPairWithin 3 = .ok (.aload_n 0, 1) := by decide +kernel
theorem dX0_firstPairWithin_4 : decode cX0_firstPairWithin 4 = .ok (.getfield 26, 3) := by decide +kernel
theorem dX0_firstPairWithin_7 : decode cX0_firstPairWithin 7 = .ok (.if_icmp .ge 67, 3) := by decide +kernel
theorem dX0_firstPairWithin_10 : decode cX0_firstPairWithin 10 = .ok (.iload_n 1, 1) := by decide +kernel
theorem dX0_firstPairWithin_11 : decode cX0_firstPairWithin 11 = .ok (.iload_n 2, 1) := by decide +kernel
theorem dX0_firstPairWithin_12 : decode cX0_firstPairWithin 12 = .ok (.invokestatic 47, 3) := by decide +kernel
theorem dX0_firstPairWithin_15 : decode cX0_firstPairWithin 15 = .ok (.ifCond .eq 14, 3) := by decide +kernel
theorem dX0_firstPairWithin_18 : decode cX0_firstPairWithin 18 = .ok (.iload_n 1, 1) := by decide +kernel
theorem dX0_firstPairWithin_19 : decode cX0_firstPairWithin 19 = .ok (.aload_n 0, 1) := by decide +kernel
theorem dX0_firstPairWithin_20 : decode cX0_firstPairWithin 20 = .ok (.getfield 18, 3) := by decide +kernel
theorem dX0_firstPairWithin_23 : decode cX0_firstPairWithin 23 = .ok (.iload_n 2, 1) := by decide +kernel
theorem dX0_firstPairWithin_24 : decode cX0_firstPairWithin 24 = .ok (.iaload, 1) := by decide +kernel
theorem dX0_firstPairWithin_25 : decode cX0_firstPairWithin 25 = .ok (.iand, 1) := by decide +kernel
theorem dX0_firstPairWithin_26 : decode cX0_firstPairWithin 26 = .ok (.goto 4, 3) := by decide +kernel
theorem dX0_firstPairWithin_29 : decode cX0_firstPairWithin 29 = .ok (.iconst 0, 1) := by decide +kernel
theorem dX0_firstPairWithin_30 : decode cX0_firstPairWithin 30 = .ok (.istore_n 3, 1) := by decide +kernel
theorem dX0_firstPairWithin_31 : decode cX0_firstPairWithin 31 = .ok (.iload_n 2, 1) := by decide +kernel
theorem dX0_firstPairWithin_32 : decode cX0_firstPairWithin 32 = .ok (.iconst 1, 1) := by decide +kernel
theorem dX0_firstPairWithin_33 : decode cX0_firstPairWithin 33 = .ok (.iadd, 1) := by decide +kernel
theorem dX0_firstPairWithin_34 : decode cX0_firstPairWithin 34 = .ok (.istore 4, 2) := by decide +kernel
theorem dX0_firstPairWithin_36 : decode cX0_firstPairWithin 36 = .ok (.iload 4, 2) := by decide +kernel
theorem dX0_firstPairWithin_38 : decode cX0_firstPairWithin 38 = .ok (.aload_n 0, 1) := by decide +kernel
theorem dX0_firstPairWithin_39 : decode cX0_firstPairWithin 39 = .ok (.getfield 26, 3) := by decide +kernel
theorem dX0_firstPairWithin_42 : decode cX0_firstPairWithin 42 = .ok (.if_icmp .ge 26, 3) := by decide +kernel
theorem dX0_firstPairWithin_45 : decode cX0_firstPairWithin 45 = .ok (.iload_n 3, 1) := by decide +kernel
theorem dX0_firstPairWithin_46 : decode cX0_firstPairWithin 46 = .ok (.iload 4, 2) := by decide +kernel
theorem dX0_firstPairWithin_48 : decode cX0_firstPairWithin 48 = .ok (.invokestatic 47, 3) := by decide +kernel
theorem dX0_firstPairWithin_51 : decode cX0_firstPairWithin 51 = .ok (.ifCond .eq 11, 3) := by decide +kernel
theorem dX0_firstPairWithin_54 : decode cX0_firstPairWithin 54 = .ok (.iload_n 2, 1) := by decide +kernel
theorem dX0_firstPairWithin_55 : decode cX0_firstPairWithin 55 = .ok (.bipush 10, 2) := by decide +kernel
theorem dX0_firstPairWithin_57 : decode cX0_firstPairWithin 57 = .ok (.imul, 1) := by decide +kernel
theorem dX0_firstPairWithin_58 : decode cX0_firstPairWithin 58 = .ok (.iload 4, 2) := by decide +kernel
theorem dX0_firstPairWithin_60 : decode cX0_firstPairWithin 60 = .ok (.iadd, 1) := by decide +kernel
theorem dX0_firstPairWithin_61 : decode cX0_firstPairWithin 61 = .ok (.ireturn, 1) := by decide +kernel
theorem dX0_firstPairWithin_62 : decode cX0_firstPairWithin 62 = .ok (.iinc 4 1, 3) := by decide +kernel
theorem dX0_firstPairWithin_65 : decode cX0_firstPairWithin 65 = .ok (.goto (-29), 3) := by decide +kernel
theorem dX0_firstPairWithin_68 : decode cX0_firstPairWithin 68 = .ok (.iinc 2 1, 3) := by decide +kernel
theorem dX0_firstPairWithin_71 : decode cX0_firstPairWithin 71 = .ok (.goto (-69), 3) := by decide +kernel
theorem dX0_firstPairWithin_74 : decode cX0_firstPairWithin 74 = .ok (.iconst (-1), 1) := by decide +kernel
theorem dX0_firstPairWithin_75 : decode cX0_firstPairWithin 75 = .ok (.ireturn, 1) := by decide +kernel
set_option maxRecDepth 20000 in
theorem ggX0_findBarred_X1_reach : GoodIn wsX0_findBarred wsX1_reach := goodIn_r _ [8, 9, 10, 11, 7, 12, 13, 14, 15, 16, 21] (by decide +kernel) (by decide +kernel)
set_option maxRecDepth 20000 in
theorem gX0_findBarred_X1_reach : GoodIn wsX0_findBarred (wsV RX0 51 RX1 yX1_reach wsX1_reach) := goodIn_app (goodIn_of _ (by decide +kernel)) ggX0_findBarred_X1_reach
theorem dX0_findBarred_0 : decode cX0_findBarred 0 = .ok (.iconst 0, 1) := by decide +kernel
theorem dX0_findBarred_1 : decode cX0_findBarred 1 = .ok (.istore_n 1, 1) := by decide +kernel
theorem dX0_findBarred_2 : decode cX0_findBarred 2 = .ok (.iload_n 1, 1) := by decide +kernel
theorem dX0_findBarred_3 : decode cX0_findBarred 3 = .ok (.aload_n 0, 1) := by decide +kernel
theorem dX0_findBarred_4 : decode cX0_findBarred 4 = .ok (.getfield 18, 3) := by decide +kernel
theorem dX0_findBarred_7 : decode cX0_findBarred 7 = .ok (.arraylength, 1) := by decide +kernel
theorem dX0_findBarred_8 : decode cX0_findBarred 8 = .ok (.if_icmp .ge 33, 3) := by decide +kernel
theorem dX0_findBarred_11 : decode cX0_findBarred 11 = .ok (.aload_n 0, 1) := by decide +kernel
theorem dX0_findBarred_12 : decode cX0_findBarred 12 = .ok (.getfield 18, 3) := by decide +kernel
theorem dX0_findBarred_15 : decode cX0_findBarred 15 = .ok (.iload_n 1, 1) := by decide +kernel
theorem dX0_findBarred_16 : decode cX0_findBarred 16 = .ok (.aload_n 0, 1) := by decide +kernel
theorem dX0_findBarred_17 : decode cX0_findBarred 17 = .ok (.getfield 12, 3) := by decide +kernel
theorem dX0_findBarred_20 : decode cX0_findBarred 20 = .ok (.iload_n 1, 1) := by decide +kernel
theorem dX0_findBarred_21 : decode cX0_findBarred 21 = .ok (.aload_n 0, 1) := by decide +kernel
theorem dX0_findBarred_22 : decode cX0_findBarred 22 = .ok (.getfield 22, 3) := by decide +kernel
theorem dX0_findBarred_25 : decode cX0_findBarred 25 = .ok (.invokevirtual 51, 3) := by decide +kernel
theorem dX0_findBarred_28 : decode cX0_findBarred 28 = .ok (.iconst 1, 1) := by decide +kernel
theorem dX0_findBarred_29 : decode cX0_findBarred 29 = .ok (.iload_n 1, 1) := by decide +kernel
theorem dX0_findBarred_30 : decode cX0_findBarred 30 = .ok (.ishl, 1) := by decide +kernel
theorem dX0_findBarred_31 : decode cX0_findBarred 31 = .ok (.iconst (-1), 1) := by decide +kernel
theorem dX0_findBarred_32 : decode cX0_findBarred 32 = .ok (.ixor, 1) := by decide +kernel
theorem dX0_findBarred_33 : decode cX0_findBarred 33 = .ok (.iand, 1) := by decide +kernel
theorem dX0_findBarred_34 : decode cX0_findBarred 34 = .ok (.iastore, 1) := by decide +kernel
theorem dX0_findBarred_35 : decode cX0_findBarred 35 = .ok (.iinc 1 1, 3) := by decide +kernel
theorem dX0_findBarred_38 : decode cX0_findBarred 38 = .ok (.goto (-36), 3) := by decide +kernel
theorem dX0_findBarred_41 : decode cX0_findBarred 41 = .ok (.return_, 1) := by decide +kernel
theorem dX1_init_0 : decode cX1_init 0 = .ok (.aload_n 0, 1) := by decide +kernel
theorem dX1_init_1 : decode cX1_init 1 = .ok (.invokespecial 3, 3) := by decide +kernel
theorem dX1_init_4 : decode cX1_init 4 = .ok (.aload_n 0, 1) := by decide +kernel
theorem dX1_init_5 : decode cX1_init 5 = .ok (.bipush 7, 2) := by decide +kernel
theorem dX1_init_7 : decode cX1_init 7 = .ok (.newarray .int, 2) := by decide +kernel
theorem dX1_init_9 : decode cX1_init 9 = .ok (.putfield 9, 3) := by decide +kernel
theorem dX1_init_12 : decode cX1_init 12 = .ok (.return_, 1) := by decide +kernel
theorem dX1_cutAll_0 : decode cX1_cutAll 0 = .ok (.iconst 0, 1) := by decide +kernel
theorem dX1_cutAll_1 : decode cX1_cutAll 1 = .ok (.istore_n 1, 1) := by decide +kernel
theorem dX1_cutAll_2 : decode cX1_cutAll 2 = .ok (.iload_n 1, 1) := by decide +kernel
theorem dX1_cutAll_3 : decode cX1_cutAll 3 = .ok (.aload_n 0, 1) := by decide +kernel
theorem dX1_cutAll_4 : decode cX1_cutAll 4 = .ok (.getfield 9, 3) := by decide +kernel
theorem dX1_cutAll_7 : decode cX1_cutAll 7 = .ok (.arraylength, 1) := by decide +kernel
theorem dX1_cutAll_8 : decode cX1_cutAll 8 = .ok (.if_icmp .ge 16, 3) := by decide +kernel
theorem dX1_cutAll_11 : decode cX1_cutAll 11 = .ok (.aload_n 0, 1) := by decide +kernel
theorem dX1_cutAll_12 : decode cX1_cutAll 12 = .ok (.getfield 9, 3) := by decide +kernel
theorem dX1_cutAll_15 : decode cX1_cutAll 15 = .ok (.iload_n 1, 1) := by decide +kernel
theorem dX1_cutAll_16 : decode cX1_cutAll 16 = .ok (.iconst 0, 1) := by decide +kernel
theorem dX1_cutAll_17 : decode cX1_cutAll 17 = .ok (.iastore, 1) := by decide +kernel
theorem dX1_cutAll_18 : decode cX1_cutAll 18 = .ok (.iinc 1 1, 3) := by decide +kernel
theorem dX1_cutAll_21 : decode cX1_cutAll 21 = .ok (.goto (-19), 3) := by decide +kernel
theorem dX1_cutAll_24 : decode cX1_cutAll 24 = .ok (.return_, 1) := by decide +kernel
theorem dX1_link_0 : decode cX1_link 0 = .ok (.aload_n 0, 1) := by decide +kernel
theorem dX1_link_1 : decode cX1_link 1 = .ok (.getfield 9, 3) := by decide +kernel
theorem dX1_link_4 : decode cX1_link 4 = .ok (.iload_n 1, 1) := by decide +kernel
theorem dX1_link_5 : decode cX1_link 5 = .ok (.dup2, 1) := by decide +kernel
theorem dX1_link_6 : decode cX1_link 6 = .ok (.iaload, 1) := by decide +kernel
theorem dX1_link_7 : decode cX1_link 7 = .ok (.iconst 1, 1) := by decide +kernel
theorem dX1_link_8 : decode cX1_link 8 = .ok (.iload_n 2, 1) := by decide +kernel
theorem dX1_link_9 : decode cX1_link 9 = .ok (.ishl, 1) := by decide +kernel
theorem dX1_link_10 : decode cX1_link 10 = .ok (.ior, 1) := by decide +kernel
theorem dX1_link_11 : decode cX1_link 11 = .ok (.iastore, 1) := by decide +kernel
theorem dX1_link_12 : decode cX1_link 12 = .ok (.aload_n 0, 1) := by decide +kernel
theorem dX1_link_13 : decode cX1_link 13 = .ok (.getfield 9, 3) := by decide +kernel
theorem dX1_link_16 : decode cX1_link 16 = .ok (.iload_n 2, 1) := by decide +kernel
theorem dX1_link_17 : decode cX1_link 17 = .ok (.dup2, 1) := by decide +kernel
theorem dX1_link_18 : decode cX1_link 18 = .ok (.iaload, 1) := by decide +kernel
theorem dX1_link_19 : decode cX1_link 19 = .ok (.iconst 1, 1) := by decide +kernel
theorem dX1_link_20 : decode cX1_link 20 = .ok (.iload_n 1, 1) := by decide +kernel
theorem dX1_link_21 : decode cX1_link 21 = .ok (.ishl, 1) := by decide +kernel
theorem dX1_link_22 : decode cX1_link 22 = .ok (.ior, 1) := by decide +kernel
theorem dX1_link_23 : decode cX1_link 23 = .ok (.iastore, 1) := by decide +kernel
theorem dX1_link_24 : decode cX1_link 24 = .ok (.return_, 1) := by decide +kernel
theorem dX1_cut_0 : decode cX1_cut 0 = .ok (.aload_n 0, 1) := by decide +kernel
theorem dX1_cut_1 : decode cX1_cut 1 = .ok (.getfield 9, 3) := by decide +kernel
theorem dX1_cut_4 : decode cX1_cut 4 = .ok (.iload_n 1, 1) := by decide +kernel
theorem dX1_cut_5 : decode cX1_cut 5 = .ok (.dup2, 1) := by decide +kernel
theorem dX1_cut_6 : decode cX1_cut 6 = .ok (.iaload, 1) := by decide +kernel
theorem dX1_cut_7 : decode cX1_cut 7 = .ok (.iconst 1, 1) := by decide +kernel
theorem dX1_cut_8 : decode cX1_cut 8 = .ok (.iload_n 2, 1) := by decide +kernel
theorem dX1_cut_9 : decode cX1_cut 9 = .ok (.ishl, 1) := by decide +kernel
theorem dX1_cut_10 : decode cX1_cut 10 = .ok (.iconst (-1), 1) := by decide +kernel
theorem dX1_cut_11 : decode cX1_cut 11 = .ok (.ixor, 1) := by decide +kernel
theorem dX1_cut_12 : decode cX1_cut 12 = .ok (.iand, 1) := by decide +kernel
theorem dX1_cut_13 : decode cX1_cut 13 = .ok (.iastore, 1) := by decide +kernel
theorem dX1_cut_14 : decode cX1_cut 14 = .ok (.aload_n 0, 1) := by decide +kernel
theorem dX1_cut_15 : decode cX1_cut 15 = .ok (.getfield 9, 3) := by decide +kernel
theorem dX1_cut_18 : decode cX1_cut 18 = .ok (.iload_n 2, 1) := by decide +kernel
theorem dX1_cut_19 : decode cX1_cut 19 = .ok (.dup2, 1) := by decide +kernel
theorem dX1_cut_20 : decode cX1_cut 20 = .ok (.iaload, 1) := by decide +kernel
theorem dX1_cut_21 : decode cX1_cut 21 = .ok (.iconst 1, 1) := by decide +kernel
theorem dX1_cut_22 : decode cX1_cut 22 = .ok (.iload_n 1, 1) := by decide +kernel
theorem dX1_cut_23 : decode cX1_cut 23 = .ok (.ishl, 1) := by decide +kernel
theorem dX1_cut_24 : decode cX1_cut 24 = .ok (.iconst (-1), 1) := by decide +kernel
theorem dX1_cut_25 : decode cX1_cut 25 = .ok (.ixor, 1) := by decide +kernel
theorem dX1_cut_26 : decode cX1_cut 26 = .ok (.iand, 1) := by decide +kernel
theorem dX1_cut_27 : decode cX1_cut 27 = .ok (.iastore, 1) := by decide +kernel
theorem dX1_cut_28 : decode cX1_cut 28 = .ok (.return_, 1) := by decide +kernel
theorem dX1_nextTo_0 : decode cX1_nextTo 0 = .ok (.aload_n 0, 1) := by decide +kernel
theorem dX1_nextTo_1 : decode cX1_nextTo 1 = .ok (.getfield 9, 3) := by decide +kernel
theorem dX1_nextTo_4 : decode cX1_nextTo 4 = .ok (.iload_n 1, 1) := by decide +kernel
theorem dX1_nextTo_5 : decode cX1_nextTo 5 = .ok (.iaload, 1) := by decide +kernel
theorem dX1_nextTo_6 : decode cX1_nextTo 6 = .ok (.ireturn, 1) := by decide +kernel
set_option maxRecDepth 20000 in
theorem ggX1_reach_X1_widened : GoodIn wsX1_reach wsX1_widened := goodIn_r _ [5, 6, 7, 8, 9, 10] (by decide +kernel) (by decide +kernel)
set_option maxRecDepth 20000 in
theorem gX1_reach_X1_widened : GoodIn wsX1_reach (wsV RX1 15 RX1 yX1_widened wsX1_widened) := goodIn_app (goodIn_of _ (by decide +kernel)) ggX1_reach_X1_widened
theorem dX1_reach_0 : decode cX1_reach 0 = .ok (.iconst 1, 1) := by decide +kernel
theorem dX1_reach_1 : decode cX1_reach 1 = .ok (.iload_n 1, 1) := by decide +kernel
theorem dX1_reach_2 : decode cX1_reach 2 = .ok (.ishl, 1) := by decide +kernel
theorem dX1_reach_3 : decode cX1_reach 3 = .ok (.istore_n 3, 1) := by decide +kernel
theorem dX1_reach_4 : decode cX1_reach 4 = .ok (.iconst 0, 1) := by decide +kernel
theorem dX1_reach_5 : decode cX1_reach 5 = .ok (.istore 4, 2) := by decide +kernel
theorem dX1_reach_7 : decode cX1_reach 7 = .ok (.iload 4, 2) := by decide +kernel
theorem dX1_reach_9 : decode cX1_reach 9 = .ok (.iload_n 2, 1) := by decide +kernel
theorem dX1_reach_10 : decode cX1_reach 10 = .ok (.if_icmp .ge 15, 3) := by decide +kernel
theorem dX1_reach_13 : decode cX1_reach 13 = .ok (.aload_n 0, 1) := by decide +kernel
theorem dX1_reach_14 : decode cX1_reach 14 = .ok (.iload_n 3, 1) := by decide +kernel
theorem dX1_reach_15 : decode cX1_reach 15 = .ok (.invokevirtual 15, 3) := by decide +kernel
theorem dX1_reach_18 : decode cX1_reach 18 = .ok (.istore_n 3, 1) := by decide +kernel
theorem dX1_reach_19 : decode cX1_reach 19 = .ok (.iinc 4 1, 3) := by decide +kernel
theorem dX1_reach_22 : decode cX1_reach 22 = .ok (.goto (-15), 3) := by decide +kernel
theorem dX1_reach_25 : decode cX1_reach 25 = .ok (.iload_n 3, 1) := by decide +kernel
theorem dX1_reach_26 : decode cX1_reach 26 = .ok (.ireturn, 1) := by decide +kernel
set_option maxRecDepth 20000 in
theorem ggX1_widened_X6_contains : GoodIn wsX1_widened wsX6_contains := goodIn_r _ [4] (by decide +kernel) (by decide +kernel)
set_option maxRecDepth 20000 in
theorem gX1_widened_X6_contains_n19 : GoodIn wsX1_widened (wsX6_contains) := ggX1_widened_X6_contains
theorem dX1_widened_0 : decode cX1_widened 0 = .ok (.iload_n 1, 1) := by decide +kernel
theorem dX1_widened_1 : decode cX1_widened 1 = .ok (.istore_n 2, 1) := by decide +kernel
theorem dX1_widened_2 : decode cX1_widened 2 = .ok (.iconst 0, 1) := by decide +kernel
theorem dX1_widened_3 : decode cX1_widened 3 = .ok (.istore_n 3, 1) := by decide +kernel
theorem dX1_widened_4 : decode cX1_widened 4 = .ok (.iload_n 3, 1) := by decide +kernel
theorem dX1_widened_5 : decode cX1_widened 5 = .ok (.aload_n 0, 1) := by decide +kernel
theorem dX1_widened_6 : decode cX1_widened 6 = .ok (.getfield 9, 3) := by decide +kernel
theorem dX1_widened_9 : decode cX1_widened 9 = .ok (.arraylength, 1) := by decide +kernel
theorem dX1_widened_10 : decode cX1_widened 10 = .ok (.if_icmp .ge 26, 3) := by decide +kernel
theorem dX1_widened_13 : decode cX1_widened 13 = .ok (.iload_n 1, 1) := by decide +kernel
theorem dX1_widened_14 : decode cX1_widened 14 = .ok (.iload_n 3, 1) := by decide +kernel
theorem dX1_widened_15 : decode cX1_widened 15 = .ok (.invokestatic 19, 3) := by decide +kernel
theorem dX1_widened_18 : decode cX1_widened 18 = .ok (.ifCond .eq 12, 3) := by decide +kernel
theorem dX1_widened_21 : decode cX1_widened 21 = .ok (.iload_n 2, 1) := by decide +kernel
theorem dX1_widened_22 : decode cX1_widened 22 = .ok (.aload_n 0, 1) := by decide +kernel
theorem dX1_widened_23 : decode cX1_widened 23 = .ok (.getfield 9, 3) := by decide +kernel
theorem dX1_widened_26 : decode cX1_widened 26 = .ok (.iload_n 3, 1) := by decide +kernel
theorem dX1_widened_27 : decode cX1_widened 27 = .ok (.iaload, 1) := by decide +kernel
theorem dX1_widened_28 : decode cX1_widened 28 = .ok (.ior, 1) := by decide +kernel
theorem dX1_widened_29 : decode cX1_widened 29 = .ok (.istore_n 2, 1) := by decide +kernel
theorem dX1_widened_30 : decode cX1_widened 30 = .ok (.iinc 3 1, 3) := by decide +kernel
theorem dX1_widened_33 : decode cX1_widened 33 = .ok (.goto (-29), 3) := by decide +kernel
theorem dX1_widened_36 : decode cX1_widened 36 = .ok (.iload_n 2, 1) := by decide +kernel
theorem dX1_widened_37 : decode cX1_widened 37 = .ok (.ireturn, 1) := by decide +kernel
set_option maxRecDepth 20000 in
theorem ggX2_init_X1_init : GoodIn wsX2_init wsX1_init := goodIn_r _ [13, 14, 2, 3, 4, 15, 24] (by decide +kernel) (by decide +kernel)
set_option maxRecDepth 20000 in
theorem gX2_init_X1_init_n23 : GoodIn wsX2_init (wsX1_init) := ggX2_init_X1_init
theorem dX2_init_0 : decode cX2_init 0 = .ok (.aload_n 0, 1) := by decide +kernel
theorem dX2_init_1 : decode cX2_init 1 = .ok (.invokespecial 3, 3) := by decide +kernel
theorem dX2_init_4 : decode cX2_init 4 = .ok (.aload_n 0, 1) := by decide +kernel
theorem dX2_init_5 : decode cX2_init 5 = .ok (.bipush 8, 2) := by decide +kernel
theorem dX2_init_7 : decode cX2_init 7 = .ok (.newarray .int, 2) := by decide +kernel
theorem dX2_init_9 : decode cX2_init 9 = .ok (.putfield 9, 3) := by decide +kernel
theorem dX2_init_12 : decode cX2_init 12 = .ok (.aload_n 0, 1) := by decide +kernel
theorem dX2_init_13 : decode cX2_init 13 = .ok (.bipush 8, 2) := by decide +kernel
theorem dX2_init_15 : decode cX2_init 15 = .ok (.newarray .int, 2) := by decide +kernel
theorem dX2_init_17 : decode cX2_init 17 = .ok (.putfield 15, 3) := by decide +kernel
theorem dX2_init_20 : decode cX2_init 20 = .ok (.aload_n 0, 1) := by decide +kernel
theorem dX2_init_21 : decode cX2_init 21 = .ok (.bipush 8, 2) := by decide +kernel
theorem dX2_init_23 : decode cX2_init 23 = .ok (.newarray .int, 2) := by decide +kernel
theorem dX2_init_25 : decode cX2_init 25 = .ok (.putfield 18, 3) := by decide +kernel
theorem dX2_init_28 : decode cX2_init 28 = .ok (.aload_n 0, 1) := by decide +kernel
theorem dX2_init_29 : decode cX2_init 29 = .ok (.new 21, 3) := by decide +kernel
theorem dX2_init_32 : decode cX2_init 32 = .ok (.dup, 1) := by decide +kernel
theorem dX2_init_33 : decode cX2_init 33 = .ok (.invokespecial 23, 3) := by decide +kernel
theorem dX2_init_36 : decode cX2_init 36 = .ok (.putfield 24, 3) := by decide +kernel
theorem dX2_init_39 : decode cX2_init 39 = .ok (.return_, 1) := by decide +kernel
theorem dX2_count_0 : decode cX2_count 0 = .ok (.aload_n 0, 1) := by decide +kernel
theorem dX2_count_1 : decode cX2_count 1 = .ok (.getfield 28, 3) := by decide +kernel
theorem dX2_count_4 : decode cX2_count 4 = .ok (.ireturn, 1) := by decide +kernel
theorem dX2_today_0 : decode cX2_today 0 = .ok (.aload_n 0, 1) := by decide +kernel
theorem dX2_today_1 : decode cX2_today 1 = .ok (.getfield 32, 3) := by decide +kernel
theorem dX2_today_4 : decode cX2_today 4 = .ok (.ireturn, 1) := by decide +kernel
theorem dX2_repair_0 : decode cX2_repair 0 = .ok (.aload_n 0, 1) := by decide +kernel
theorem dX2_repair_1 : decode cX2_repair 1 = .ok (.getfield 35, 3) := by decide +kernel
theorem dX2_repair_4 : decode cX2_repair 4 = .ok (.ireturn, 1) := by decide +kernel
set_option maxRecDepth 20000 in
theorem ggX2_isInForce_X6_contains : GoodIn wsX2_isInForce wsX6_contains := goodIn_r _ [6] (by decide +kernel) (by decide +kernel)
set_option maxRecDepth 20000 in
theorem gX2_isInForce_X6_contains_n41 : GoodIn wsX2_isInForce (wsX6_contains) := ggX2_isInForce_X6_contains
theorem dX2_isInForce_0 : decode cX2_isInForce 0 = .ok (.aload_n 0, 1) := by decide +kernel
theorem dX2_isInForce_1 : decode cX2_isInForce 1 = .ok (.getfield 32, 3) := by decide +kernel
theorem dX2_isInForce_4 : decode cX2_isInForce 4 = .ok (.aload_n 0, 1) := by decide +kernel
theorem dX2_isInForce_5 : decode cX2_isInForce 5 = .ok (.getfield 18, 3) := by decide +kernel
theorem dX2_isInForce_8 : decode cX2_isInForce 8 = .ok (.iload_n 1, 1) := by decide +kernel
theorem dX2_isInForce_9 : decode cX2_isInForce 9 = .ok (.iaload, 1) := by decide +kernel
theorem dX2_isInForce_10 : decode cX2_isInForce 10 = .ok (.if_icmp .gt 18, 3) := by decide +kernel
theorem dX2_isInForce_13 : decode cX2_isInForce 13 = .ok (.aload_n 0, 1) := by decide +kernel
theorem dX2_isInForce_14 : decode cX2_isInForce 14 = .ok (.getfield 38, 3) := by decide +kernel
theorem dX2_isInForce_17 : decode cX2_isInForce 17 = .ok (.iload_n 1, 1) := by decide +kernel
theorem dX2_isInForce_18 : decode cX2_isInForce 18 = .ok (.invokestatic 41, 3) := by decide +kernel
theorem dX2_isInForce_21 : decode cX2_isInForce 21 = .ok (.ifCond .ne 7, 3) := by decide +kernel
theorem dX2_isInForce_24 : decode cX2_isInForce 24 = .ok (.iconst 1, 1) := by decide +kernel
theorem dX2_isInForce_25 : decode cX2_isInForce 25 = .ok (.goto 4, 3) := by decide +kernel
theorem dX2_isInForce_28 : decode cX2_isInForce 28 = .ok (.iconst 0, 1) := by decide +kernel
theorem dX2_isInForce_29 : decode cX2_isInForce 29 = .ok (.ireturn, 1) := by decide +kernel
set_option maxRecDepth 20000 in
theorem ggX2_countInForce_X2_inForce : GoodIn wsX2_countInForce wsX2_inForce := goodIn_r _ [5, 6, 7, 8, 9, 4, 10, 11, 12, 13, 14, 15, 16, 24, 25, 26, 27, 28, 29, 30, 31] (by decide +kernel) (by decide +kernel)
set_option maxRecDepth 20000 in
theorem gX2_countInForce_X2_inForce : GoodIn wsX2_countInForce (wsV RX2 45 RX2 yX2_inForce wsX2_inForce) := goodIn_app (goodIn_of _ (by decide +kernel)) ggX2_countInForce_X2_inForce
set_option maxRecDepth 20000 in
theorem ggX2_countInForce_J6_bitCount_0f7a4 : GoodIn wsX2_countInForce wsJ6_bitCount_0f7a4 := goodIn_r _ [20, 21, 22, 23] (by decide +kernel) (by decide +kernel)
set_option maxRecDepth 20000 in
theorem gX2_countInForce_J6_bitCount_0f7a4 : GoodIn wsX2_countInForce (va_wsS RX2 49 yJ6_bitCount_0f7a4 wsJ6_bitCount_0f7a4) := goodIn_app (goodIn_of _ (by decide +kernel)) ggX2_countInForce_J6_bitCount_0f7a4
theorem dX2_countInForce_0 : decode cX2_countInForce 0 = .ok (.aload_n 0, 1) := by decide +kernel
theorem dX2_countInForce_1 : decode cX2_countInForce 1 = .ok (.invokevirtual 45, 3) := by decide +kernel
theorem dX2_countInForce_4 : decode cX2_countInForce 4 = .ok (.invokestatic 49, 3) := by decide +kernel
theorem dX2_countInForce_7 : decode cX2_countInForce 7 = .ok (.ireturn, 1) := by decide +kernel
theorem dX2_add_0 : decode cX2_add 0 = .ok (.aload_n 0, 1) := by decide +kernel
theorem dX2_add_1 : decode cX2_add 1 = .ok (.getfield 9, 3) := by decide +kernel
theorem dX2_add_4 : decode cX2_add 4 = .ok (.aload_n 0, 1) := by decide +kernel
theorem dX2_add_5 : decode cX2_add 5 = .ok (.getfield 28, 3) := by decide +kernel
theorem dX2_add_8 : decode cX2_add 8 = .ok (.iload_n 1, 1) := by decide +kernel
theorem dX2_add_9 : decode cX2_add 9 = .ok (.iload_n 2, 1) := by decide +kernel
theorem dX2_add_10 : decode cX2_add 10 = .ok (.invokestatic 55, 3) := by decide +kernel
theorem dX2_add_13 : decode cX2_add 13 = .ok (.iastore, 1) := by decide +kernel
theorem dX2_add_14 : decode cX2_add 14 = .ok (.aload_n 0, 1) := by decide +kernel
theorem dX2_add_15 : decode cX2_add 15 = .ok (.getfield 15, 3) := by decide +kernel
theorem dX2_add_18 : decode cX2_add 18 = .ok (.aload_n 0, 1) := by decide +kernel
theorem dX2_add_19 : decode cX2_add 19 = .ok (.getfield 28, 3) := by decide +kernel
theorem dX2_add_22 : decode cX2_add 22 = .ok (.iload_n 1, 1) := by decide +kernel
theorem dX2_add_23 : decode cX2_add 23 = .ok (.iload_n 2, 1) := by decide +kernel
theorem dX2_add_24 : decode cX2_add 24 = .ok (.invokestatic 61, 3) := by decide +kernel
theorem dX2_add_27 : decode cX2_add 27 = .ok (.iastore, 1) := by decide +kernel
theorem dX2_add_28 : decode cX2_add 28 = .ok (.aload_n 0, 1) := by decide +kernel
theorem dX2_add_29 : decode cX2_add 29 = .ok (.getfield 18, 3) := by decide +kernel
theorem dX2_add_32 : decode cX2_add 32 = .ok (.aload_n 0, 1) := by decide +kernel
theorem dX2_add_33 : decode cX2_add 33 = .ok (.getfield 28, 3) := by decide +kernel
theorem dX2_add_36 : decode cX2_add 36 = .ok (.aload_n 0, 1) := by decide +kernel
theorem dX2_add_37 : decode cX2_add 37 = .ok (.getfield 32, 3) := by decide +kernel
theorem dX2_add_40 : decode cX2_add 40 = .ok (.iload_n 3, 1) := by decide +kernel
theorem dX2_add_41 : decode cX2_add 41 = .ok (.iadd, 1) := by decide +kernel
theorem dX2_add_42 : decode cX2_add 42 = .ok (.iastore, 1) := by decide +kernel
theorem dX2_add_43 : decode cX2_add 43 = .ok (.aload_n 0, 1) := by decide +kernel
theorem dX2_add_44 : decode cX2_add 44 = .ok (.dup, 1) := by decide +kernel
theorem dX2_add_45 : decode cX2_add 45 = .ok (.getfield 28, 3) := by decide +kernel
theorem dX2_add_48 : decode cX2_add 48 = .ok (.iconst 1, 1) := by decide +kernel
theorem dX2_add_49 : decode cX2_add 49 = .ok (.iadd, 1) := by decide +kernel
theorem dX2_add_50 : decode cX2_add 50 = .ok (.putfield 28, 3) := by decide +kernel
theorem dX2_add_53 : decode cX2_add 53 = .ok (.aload_n 0, 1) := by decide +kernel
theorem dX2_add_54 : decode cX2_add 54 = .ok (.getfield 28, 3) := by decide +kernel
theorem dX2_add_57 : decode cX2_add 57 = .ok (.iconst 1, 1) := by decide +kernel
theorem dX2_add_58 : decode cX2_add 58 = .ok (.isub, 1) := by decide +kernel
theorem dX2_add_59 : decode cX2_add 59 = .ok (.ireturn, 1) := by decide +kernel
set_option maxRecDepth 20000 in
theorem ggX2_chained_X2_inForce : GoodIn wsX2_chained wsX2_inForce := goodIn_r _ [6, 7, 8, 9, 10, 5, 11, 12, 13, 14, 15, 16, 17, 42, 43, 44, 45, 46, 47, 48, 49] (by decide +kernel) (by decide +kernel)
set_option maxRecDepth 20000 in
theorem gX2_chained_X2_inForce : GoodIn wsX2_chained (wsV RX2 45 RX2 yX2_inForce wsX2_inForce) := goodIn_app (goodIn_of _ (by decide +kernel)) ggX2_chained_X2_inForce
set_option maxRecDepth 20000 in
theorem ggX2_chained_X2_layOut : GoodIn wsX2_chained wsX2_layOut := goodIn_r _ [21, 1, 7, 22, 23, 24, 25, 26, 27, 28, 29, 15, 16, 17, 30, 31, 32, 33, 42, 43, 44, 45, 46, 47, 48, 49, 50] (by decide +kernel) (by decide +kernel)
set_option maxRecDepth 20000 in
theorem gX2_chained_X2_layOut : GoodIn wsX2_chained (wsV RX2 71 RX2 yX2_layOut wsX2_layOut) := goodIn_app (goodIn_of _ (by decide +kernel)) ggX2_chained_X2_layOut
set_option maxRecDepth 20000 in
theorem ggX2_chained_X1_reach : GoodIn wsX2_chained wsX1_reach := goodIn_r _ [37, 38, 39, 40, 27, 41, 29, 15, 16, 17, 50] (by decide +kernel) (by decide +kernel)
set_option maxRecDepth 20000 in
theorem gX2_chained_X1_reach : GoodIn wsX2_chained (wsV RX2 75 RX1 yX1_reach wsX1_reach) := goodIn_app (goodIn_of _ (by decide +kernel)) ggX2_chained_X1_reach
theorem dX2_chained_0 : decode cX2_chained 0 = .ok (.aload_n 0, 1) := by decide +kernel
theorem dX2_chained_1 : decode cX2_chained 1 = .ok (.aload_n 0, 1) := by decide +kernel
theorem dX2_chained_2 : decode cX2_chained 2 = .ok (.invokevirtual 45, 3) := by decide +kernel
theorem dX2_chained_5 : decode cX2_chained 5 = .ok (.invokevirtual 71, 3) := by decide +kernel
theorem dX2_chained_8 : decode cX2_chained 8 = .ok (.aload_n 0, 1) := by decide +kernel
theorem dX2_chained_9 : decode cX2_chained 9 = .ok (.getfield 24, 3) := by decide +kernel
theorem dX2_chained_12 : decode cX2_chained 12 = .ok (.iload_n 1, 1) := by decide +kernel
theorem dX2_chained_13 : decode cX2_chained 13 = .ok (.bipush 7, 2) := by decide +kernel
theorem dX2_chained_15 : decode cX2_chained 15 = .ok (.invokevirtual 75, 3) := by decide +kernel
theorem dX2_chained_18 : decode cX2_chained 18 = .ok (.iconst 1, 1) := by decide +kernel
theorem dX2_chained_19 : decode cX2_chained 19 = .ok (.iload_n 1, 1) := by decide +kernel
theorem dX2_chained_20 : decode cX2_chained 20 = .ok (.ishl, 1) := by decide +kernel
theorem dX2_chained_21 : decode cX2_chained 21 = .ok (.iconst (-1), 1) := by decide +kernel
theorem dX2_chained_22 : decode cX2_chained 22 = .ok (.ixor, 1) := by decide +kernel
theorem dX2_chained_23 : decode cX2_chained 23 = .ok (.iand, 1) := by decide +kernel
theorem dX2_chained_24 : decode cX2_chained 24 = .ok (.ireturn, 1) := by decide +kernel
set_option maxRecDepth 20000 in
theorem ggX2_countLeaks_X2_inForce : GoodIn wsX2_countLeaks wsX2_inForce := goodIn_r _ [5, 6, 7, 8, 9, 4, 10, 11, 12, 13, 14, 15, 16, 64, 65, 66, 67, 68, 69, 70, 71] (by decide +kernel) (by decide +kernel)
set_option maxRecDepth 20000 in
theorem gX2_countLeaks_X2_inForce : GoodIn wsX2_countLeaks (wsV RX2 45 RX2 yX2_inForce wsX2_inForce) := goodIn_app (goodIn_of _ (by decide +kernel)) ggX2_countLeaks_X2_inForce
set_option maxRecDepth 20000 in
theorem ggX2_countLeaks_X2_leaksBy : GoodIn wsX2_countLeaks wsX2_leaksBy := goodIn_r _ [20, 21, 22, 23, 24, 4, 25, 6, 26, 27, 28, 29, 30, 31, 32, 33, 14, 15, 16, 34, 35, 36, 37, 38, 39, 40, 41, 42, 43, 44, 45, 46, 47, 48, 49, 50, 51, 52, 53, 54, 55, 56, 57, 58, 59, 60, 61, 62, 63, 64, 65, 66, 67, 68, 69, 70, 71, 72, 73, 74, 75, 76] (by decide +kernel) (by decide +kernel)
set_option maxRecDepth 20000 in
theorem gX2_countLeaks_X2_leaksBy : GoodIn wsX2_countLeaks (wsV RX2 81 RX2 yX2_leaksBy wsX2_leaksBy) := goodIn_app (goodIn_of _ (by decide +kernel)) ggX2_countLeaks_X2_leaksBy
theorem dX2_countLeaks_0 : decode cX2_countLeaks 0 = .ok (.aload_n 0, 1) := by decide +kernel
theorem dX2_countLeaks_1 : decode cX2_countLeaks 1 = .ok (.aload_n 0, 1) := by decide +kernel
theorem dX2_countLeaks_2 : decode cX2_countLeaks 2 = .ok (.invokevirtual 45, 3) := by decide +kernel
theorem dX2_countLeaks_5 : decode cX2_countLeaks 5 = .ok (.aload_n 1, 1) := by decide +kernel
theorem dX2_countLeaks_6 : decode cX2_countLeaks 6 = .ok (.invokevirtual 81, 3) := by decide +kernel
theorem dX2_countLeaks_9 : decode cX2_countLeaks 9 = .ok (.ireturn, 1) := by decide +kernel
set_option maxRecDepth 20000 in
theorem ggX2_findRepair_X2_inForce : GoodIn wsX2_findRepair wsX2_inForce := goodIn_r _ [6, 7, 8, 9, 10, 5, 11, 12, 13, 14, 15, 16, 17, 65, 66, 67, 68, 69, 70, 71, 72] (by decide +kernel) (by decide +kernel)
set_option maxRecDepth 20000 in
theorem gX2_findRepair_X2_inForce : GoodIn wsX2_findRepair (wsV RX2 45 RX2 yX2_inForce wsX2_inForce) := goodIn_app (goodIn_of _ (by decide +kernel)) ggX2_findRepair_X2_inForce
set_option maxRecDepth 20000 in
theorem ggX2_findRepair_J6_bitCount_0f7a4 : GoodIn wsX2_findRepair wsJ6_bitCount_0f7a4 := goodIn_r _ [21, 22, 23, 24] (by decide +kernel) (by decide +kernel)
set_option maxRecDepth 20000 in
theorem gX2_findRepair_J6_bitCount_0f7a4 : GoodIn wsX2_findRepair (va_wsS RX2 49 yJ6_bitCount_0f7a4 wsJ6_bitCount_0f7a4) := goodIn_app (goodIn_of _ (by decide +kernel)) ggX2_findRepair_J6_bitCount_0f7a4
set_option maxRecDepth 20000 in
theorem ggX2_findRepair_X2_leaksBy : GoodIn wsX2_findRepair wsX2_leaksBy := goodIn_r _ [28, 29, 30, 31, 32, 5, 33, 7, 34, 35, 36, 37, 38, 39, 40, 41, 15, 16, 17, 42, 43, 44, 45, 46, 47, 48, 49, 50, 51, 52, 53, 54, 55, 56, 57, 58, 59, 60, 61, 62, 63, 64, 18, 19, 20, 21, 22, 23, 24, 65, 66, 67, 68, 69, 70, 71, 72, 73, 74, 75, 76, 77] (by decide +kernel) (by decide +kernel)
set_option maxRecDepth 20000 in
theorem gX2_findRepair_X2_leaksBy : GoodIn wsX2_findRepair (wsV RX2 81 RX2 yX2_leaksBy wsX2_leaksBy) := goodIn_app (goodIn_of _ (by decide +kernel)) ggX2_findRepair_X2_leaksBy
theorem dX2_findRepair_0 : decode cX2_findRepair 0 = .ok (.aload_n 0, 1) := by decide +kernel
theorem dX2_findRepair_1 : decode cX2_findRepair 1 = .ok (.invokevirtual 45, 3) := by decide +kernel
theorem dX2_findRepair_4 : decode cX2_findRepair 4 = .ok (.istore_n 2, 1) := by decide +kernel
theorem dX2_findRepair_5 : decode cX2_findRepair 5 = .ok (.iload_n 2, 1) := by decide +kernel
theorem dX2_findRepair_6 : decode cX2_findRepair 6 = .ok (.istore_n 3, 1) := by decide +kernel
theorem dX2_findRepair_7 : decode cX2_findRepair 7 = .ok (.iconst 0, 1) := by decide +kernel
theorem dX2_findRepair_8 : decode cX2_findRepair 8 = .ok (.istore 4, 2) := by decide +kernel
theorem dX2_findRepair_10 : decode cX2_findRepair 10 = .ok (.iload 4, 2) := by decide +kernel
theorem dX2_findRepair_12 : decode cX2_findRepair 12 = .ok (.iload_n 2, 1) := by decide +kernel
theorem dX2_findRepair_13 : decode cX2_findRepair 13 = .ok (.if_icmp .ge 59, 3) := by decide +kernel
theorem dX2_findRepair_16 : decode cX2_findRepair 16 = .ok (.iload 4, 2) := by decide +kernel
theorem dX2_findRepair_18 : decode cX2_findRepair 18 = .ok (.iload_n 2, 1) := by decide +kernel
theorem dX2_findRepair_19 : decode cX2_findRepair 19 = .ok (.iconst (-1), 1) := by decide +kernel
theorem dX2_findRepair_20 : decode cX2_findRepair 20 = .ok (.ixor, 1) := by decide +kernel
theorem dX2_findRepair_21 : decode cX2_findRepair 21 = .ok (.iand, 1) := by decide +kernel
theorem dX2_findRepair_22 : decode cX2_findRepair 22 = .ok (.ifCond .ne 19, 3) := by decide +kernel
theorem dX2_findRepair_25 : decode cX2_findRepair 25 = .ok (.iload 4, 2) := by decide +kernel
theorem dX2_findRepair_27 : decode cX2_findRepair 27 = .ok (.invokestatic 49, 3) := by decide +kernel
theorem dX2_findRepair_30 : decode cX2_findRepair 30 = .ok (.iload_n 3, 1) := by decide +kernel
theorem dX2_findRepair_31 : decode cX2_findRepair 31 = .ok (.invokestatic 49, 3) := by decide +kernel
theorem dX2_findRepair_34 : decode cX2_findRepair 34 = .ok (.if_icmp .ge 7, 3) := by decide +kernel
theorem dX2_findRepair_37 : decode cX2_findRepair 37 = .ok (.iconst 1, 1) := by decide +kernel
theorem dX2_findRepair_38 : decode cX2_findRepair 38 = .ok (.goto 4, 3) := by decide +kernel
theorem dX2_findRepair_41 : decode cX2_findRepair 41 = .ok (.iconst 0, 1) := by decide +kernel
theorem dX2_findRepair_42 : decode cX2_findRepair 42 = .ok (.istore 5, 2) := by decide +kernel
theorem dX2_findRepair_44 : decode cX2_findRepair 44 = .ok (.iload 5, 2) := by decide +kernel
theorem dX2_findRepair_46 : decode cX2_findRepair 46 = .ok (.ifCond .eq 20, 3) := by decide +kernel
theorem dX2_findRepair_49 : decode cX2_findRepair 49 = .ok (.aload_n 0, 1) := by decide +kernel
theorem dX2_findRepair_50 : decode cX2_findRepair 50 = .ok (.iload_n 2, 1) := by decide +kernel
theorem dX2_findRepair_51 : decode cX2_findRepair 51 = .ok (.iload 4, 2) := by decide +kernel
theorem dX2_findRepair_53 : decode cX2_findRepair 53 = .ok (.iconst (-1), 1) := by decide +kernel
theorem dX2_findRepair_54 : decode cX2_findRepair 54 = .ok (.ixor, 1) := by decide +kernel
theorem dX2_findRepair_55 : decode cX2_findRepair 55 = .ok (.iand, 1) := by decide +kernel
theorem dX2_findRepair_56 : decode cX2_findRepair 56 = .ok (.aload_n 1, 1) := by decide +kernel
theorem dX2_findRepair_57 : decode cX2_findRepair 57 = .ok (.invokevirtual 81, 3) := by decide +kernel
theorem dX2_findRepair_60 : decode cX2_findRepair 60 = .ok (.ifCond .ne 6, 3) := by decide +kernel
theorem dX2_findRepair_63 : decode cX2_findRepair 63 = .ok (.iload 4, 2) := by decide +kernel
theorem dX2_findRepair_65 : decode cX2_findRepair 65 = .ok (.istore_n 3, 1) := by decide +kernel
theorem dX2_findRepair_66 : decode cX2_findRepair 66 = .ok (.iinc 4 1, 3) := by decide +kernel
theorem dX2_findRepair_69 : decode cX2_findRepair 69 = .ok (.goto (-59), 3) := by decide +kernel
theorem dX2_findRepair_72 : decode cX2_findRepair 72 = .ok (.aload_n 0, 1) := by decide +kernel
theorem dX2_findRepair_73 : decode cX2_findRepair 73 = .ok (.iload_n 3, 1) := by decide +kernel
theorem dX2_findRepair_74 : decode cX2_findRepair 74 = .ok (.putfield 35, 3) := by decide +kernel
theorem dX2_findRepair_77 : decode cX2_findRepair 77 = .ok (.return_, 1) := by decide +kernel
set_option maxRecDepth 20000 in
theorem ggX2_areSound_X2_inForce : GoodIn wsX2_areSound wsX2_inForce := goodIn_r _ [6, 7, 8, 9, 10, 5, 11, 12, 13, 14, 15, 16, 17, 65, 66, 67, 68, 69, 70, 71, 72] (by decide +kernel) (by decide +kernel)
set_option maxRecDepth 20000 in
theorem gX2_areSound_X2_inForce : GoodIn wsX2_areSound (wsV RX2 45 RX2 yX2_inForce wsX2_inForce) := goodIn_app (goodIn_of _ (by decide +kernel)) ggX2_areSound_X2_inForce
set_option maxRecDepth 20000 in
theorem ggX2_areSound_X2_leaksBy : GoodIn wsX2_areSound wsX2_leaksBy := goodIn_r _ [21, 22, 23, 24, 25, 5, 26, 7, 27, 28, 29, 30, 31, 32, 33, 34, 15, 16, 17, 35, 36, 37, 38, 39, 40, 41, 42, 43, 44, 45, 46, 47, 48, 49, 50, 51, 52, 53, 54, 55, 56, 57, 58, 59, 60, 61, 62, 63, 64, 65, 66, 67, 68, 69, 70, 71, 72, 73, 74, 75, 76, 77] (by decide +kernel) (by decide +kernel)
set_option maxRecDepth 20000 in
theorem gX2_areSound_X2_leaksBy : GoodIn wsX2_areSound (wsV RX2 81 RX2 yX2_leaksBy wsX2_leaksBy) := goodIn_app (goodIn_of _ (by decide +kernel)) ggX2_areSound_X2_leaksBy
theorem dX2_areSound_0 : decode cX2_areSound 0 = .ok (.aload_n 0, 1) := by decide +kernel
theorem dX2_areSound_1 : decode cX2_areSound 1 = .ok (.aload_n 0, 1) := by decide +kernel
theorem dX2_areSound_2 : decode cX2_areSound 2 = .ok (.invokevirtual 45, 3) := by decide +kernel
theorem dX2_areSound_5 : decode cX2_areSound 5 = .ok (.aload_n 0, 1) := by decide +kernel
theorem dX2_areSound_6 : decode cX2_areSound 6 = .ok (.getfield 35, 3) := by decide +kernel
theorem dX2_areSound_9 : decode cX2_areSound 9 = .ok (.iconst (-1), 1) := by decide +kernel
theorem dX2_areSound_10 : decode cX2_areSound 10 = .ok (.ixor, 1) := by decide +kernel
theorem dX2_areSound_11 : decode cX2_areSound 11 = .ok (.iand, 1) := by decide +kernel
theorem dX2_areSound_12 : decode cX2_areSound 12 = .ok (.aload_n 1, 1) := by decide +kernel
theorem dX2_areSound_13 : decode cX2_areSound 13 = .ok (.invokevirtual 81, 3) := by decide +kernel
theorem dX2_areSound_16 : decode cX2_areSound 16 = .ok (.ifCond .ne 7, 3) := by decide +kernel
theorem dX2_areSound_19 : decode cX2_areSound 19 = .ok (.iconst 1, 1) := by decide +kernel
theorem dX2_areSound_20 : decode cX2_areSound 20 = .ok (.goto 4, 3) := by decide +kernel
theorem dX2_areSound_23 : decode cX2_areSound 23 = .ok (.iconst 0, 1) := by decide +kernel
theorem dX2_areSound_24 : decode cX2_areSound 24 = .ok (.ireturn, 1) := by decide +kernel
set_option maxRecDepth 20000 in
theorem ggX2_inForce_X2_isInForce : GoodIn wsX2_inForce wsX2_isInForce := goodIn_r _ [6, 7, 8, 9, 10, 11, 12, 13, 14, 15, 16, 17, 18, 19, 20] (by decide +kernel) (by decide +kernel)
set_option maxRecDepth 20000 in
theorem gX2_inForce_X2_isInForce : GoodIn wsX2_inForce (wsV RX2 64 RX2 yX2_isInForce wsX2_isInForce) := goodIn_app (goodIn_of _ (by decide +kernel)) ggX2_inForce_X2_isInForce
theorem dX2_inForce_0 : decode cX2_inForce 0 = .ok (.iconst 0, 1) := by decide +kernel
theorem dX2_inForce_1 : decode cX2_inForce 1 = .ok (.istore_n 1, 1) := by decide +kernel
theorem dX2_inForce_2 : decode cX2_inForce 2 = .ok (.iconst 0, 1) := by decide +kernel
theorem dX2_inForce_3 : decode cX2_inForce 3 = .ok (.istore_n 2, 1) := by decide +kernel
theorem dX2_inForce_4 : decode cX2_inForce 4 = .ok (.iload_n 2, 1) := by decide +kernel
theorem dX2_inForce_5 : decode cX2_inForce 5 = .ok (.aload_n 0, 1) := by decide +kernel
theorem dX2_inForce_6 : decode cX2_inForce 6 = .ok (.getfield 28, 3) := by decide +kernel
theorem dX2_inForce_9 : decode cX2_inForce 9 = .ok (.if_icmp .ge 23, 3) := by decide +kernel
theorem dX2_inForce_12 : decode cX2_inForce 12 = .ok (.aload_n 0, 1) := by decide +kernel
theorem dX2_inForce_13 : decode cX2_inForce 13 = .ok (.iload_n 2, 1) := by decide +kernel
theorem dX2_inForce_14 : decode cX2_inForce 14 = .ok (.invokevirtual 64, 3) := by decide +kernel
theorem dX2_inForce_17 : decode cX2_inForce 17 = .ok (.ifCond .eq 9, 3) := by decide +kernel
theorem dX2_inForce_20 : decode cX2_inForce 20 = .ok (.iload_n 1, 1) := by decide +kernel
theorem dX2_inForce_21 : decode cX2_inForce 21 = .ok (.iconst 1, 1) := by decide +kernel
theorem dX2_inForce_22 : decode cX2_inForce 22 = .ok (.iload_n 2, 1) := by decide +kernel
theorem dX2_inForce_23 : decode cX2_inForce 23 = .ok (.ishl, 1) := by decide +kernel
theorem dX2_inForce_24 : decode cX2_inForce 24 = .ok (.ior, 1) := by decide +kernel
theorem dX2_inForce_25 : decode cX2_inForce 25 = .ok (.istore_n 1, 1) := by decide +kernel
theorem dX2_inForce_26 : decode cX2_inForce 26 = .ok (.iinc 2 1, 3) := by decide +kernel
theorem dX2_inForce_29 : decode cX2_inForce 29 = .ok (.goto (-25), 3) := by decide +kernel
theorem dX2_inForce_32 : decode cX2_inForce 32 = .ok (.iload_n 1, 1) := by decide +kernel
theorem dX2_inForce_33 : decode cX2_inForce 33 = .ok (.ireturn, 1) := by decide +kernel
set_option maxRecDepth 20000 in
theorem ggX2_layOut_X1_cutAll : GoodIn wsX2_layOut wsX1_cutAll := goodIn_r _ [9, 10, 26] (by decide +kernel) (by decide +kernel)
set_option maxRecDepth 20000 in
theorem gX2_layOut_X1_cutAll : GoodIn wsX2_layOut (wsV RX2 85 RX1 yX1_cutAll wsX1_cutAll) := goodIn_app (goodIn_of _ (by decide +kernel)) ggX2_layOut_X1_cutAll
set_option maxRecDepth 20000 in
theorem ggX2_layOut_X6_contains : GoodIn wsX2_layOut wsX6_contains := goodIn_r _ [13] (by decide +kernel) (by decide +kernel)
set_option maxRecDepth 20000 in
theorem gX2_layOut_X6_contains_n41 : GoodIn wsX2_layOut (wsX6_contains) := ggX2_layOut_X6_contains
set_option maxRecDepth 20000 in
theorem ggX2_layOut_X1_link : GoodIn wsX2_layOut wsX1_link := goodIn_r _ [17, 10, 26] (by decide +kernel) (by decide +kernel)
set_option maxRecDepth 20000 in
theorem gX2_layOut_X1_link : GoodIn wsX2_layOut (wsV RX2 88 RX1 yX1_link wsX1_link) := goodIn_app (goodIn_of _ (by decide +kernel)) ggX2_layOut_X1_link
theorem dX2_layOut_0 : decode cX2_layOut 0 = .ok (.aload_n 0, 1) := by decide +kernel
theorem dX2_layOut_1 : decode cX2_layOut 1 = .ok (.getfield 24, 3) := by decide +kernel
theorem dX2_layOut_4 : decode cX2_layOut 4 = .ok (.invokevirtual 85, 3) := by decide +kernel
theorem dX2_layOut_7 : decode cX2_layOut 7 = .ok (.iconst 0, 1) := by decide +kernel
theorem dX2_layOut_8 : decode cX2_layOut 8 = .ok (.istore_n 2, 1) := by decide +kernel
theorem dX2_layOut_9 : decode cX2_layOut 9 = .ok (.iload_n 2, 1) := by decide +kernel
theorem dX2_layOut_10 : decode cX2_layOut 10 = .ok (.aload_n 0, 1) := by decide +kernel
theorem dX2_layOut_11 : decode cX2_layOut 11 = .ok (.getfield 28, 3) := by decide +kernel
theorem dX2_layOut_14 : decode cX2_layOut 14 = .ok (.if_icmp .ge 36, 3) := by decide +kernel
theorem dX2_layOut_17 : decode cX2_layOut 17 = .ok (.iload_n 1, 1) := by decide +kernel
theorem dX2_layOut_18 : decode cX2_layOut 18 = .ok (.iload_n 2, 1) := by decide +kernel
theorem dX2_layOut_19 : decode cX2_layOut 19 = .ok (.invokestatic 41, 3) := by decide +kernel
theorem dX2_layOut_22 : decode cX2_layOut 22 = .ok (.ifCond .eq 22, 3) := by decide +kernel
theorem dX2_layOut_25 : decode cX2_layOut 25 = .ok (.aload_n 0, 1) := by decide +kernel
theorem dX2_layOut_26 : decode cX2_layOut 26 = .ok (.getfield 24, 3) := by decide +kernel
theorem dX2_layOut_29 : decode cX2_layOut 29 = .ok (.aload_n 0, 1) := by decide +kernel
theorem dX2_layOut_30 : decode cX2_layOut 30 = .ok (.getfield 9, 3) := by decide +kernel
theorem dX2_layOut_33 : decode cX2_layOut 33 = .ok (.iload_n 2, 1) := by decide +kernel
theorem dX2_layOut_34 : decode cX2_layOut 34 = .ok (.iaload, 1) := by decide +kernel
theorem dX2_layOut_35 : decode cX2_layOut 35 = .ok (.aload_n 0, 1) := by decide +kernel
theorem dX2_layOut_36 : decode cX2_layOut 36 = .ok (.getfield 15, 3) := by decide +kernel
theorem dX2_layOut_39 : decode cX2_layOut 39 = .ok (.iload_n 2, 1) := by decide +kernel
theorem dX2_layOut_40 : decode cX2_layOut 40 = .ok (.iaload, 1) := by decide +kernel
theorem dX2_layOut_41 : decode cX2_layOut 41 = .ok (.invokevirtual 88, 3) := by decide +kernel
theorem dX2_layOut_44 : decode cX2_layOut 44 = .ok (.iinc 2 1, 3) := by decide +kernel
theorem dX2_layOut_47 : decode cX2_layOut 47 = .ok (.goto (-38), 3) := by decide +kernel
theorem dX2_layOut_50 : decode cX2_layOut 50 = .ok (.return_, 1) := by decide +kernel
set_option maxRecDepth 20000 in
theorem ggX2_leaksBy_X2_layOut : GoodIn wsX2_leaksBy wsX2_layOut := goodIn_r _ [6, 1, 7, 8, 9, 10, 11, 12, 13, 14, 15, 16, 17, 18, 19, 20, 21, 22, 49, 50, 51, 52, 53, 54, 55, 56, 57] (by decide +kernel) (by decide +kernel)
set_option maxRecDepth 20000 in
theorem gX2_leaksBy_X2_layOut : GoodIn wsX2_leaksBy (wsV RX2 71 RX2 yX2_layOut wsX2_layOut) := goodIn_app (goodIn_of _ (by decide +kernel)) ggX2_leaksBy_X2_layOut
set_option maxRecDepth 20000 in
theorem ggX2_leaksBy_X0_count : GoodIn wsX2_leaksBy wsX0_count := goodIn_r _ [27, 28, 58, 59, 60, 61] (by decide +kernel) (by decide +kernel)
set_option maxRecDepth 20000 in
theorem gX2_leaksBy_X0_count : GoodIn wsX2_leaksBy (wsV RX2 92 RX0 yX0_count wsX0_count) := goodIn_app (goodIn_of _ (by decide +kernel)) ggX2_leaksBy_X0_count
set_option maxRecDepth 20000 in
theorem ggX2_leaksBy_X0_within : GoodIn wsX2_leaksBy wsX0_within := goodIn_r _ [32, 33, 58, 59, 60, 61] (by decide +kernel) (by decide +kernel)
set_option maxRecDepth 20000 in
theorem gX2_leaksBy_X0_within : GoodIn wsX2_leaksBy (wsV RX2 96 RX0 yX0_within wsX0_within) := goodIn_app (goodIn_of _ (by decide +kernel)) ggX2_leaksBy_X0_within
set_option maxRecDepth 20000 in
theorem ggX2_leaksBy_X1_reach : GoodIn wsX2_leaksBy wsX1_reach := goodIn_r _ [37, 38, 39, 40, 13, 41, 15, 16, 17, 18, 57] (by decide +kernel) (by decide +kernel)
set_option maxRecDepth 20000 in
theorem gX2_leaksBy_X1_reach : GoodIn wsX2_leaksBy (wsV RX2 75 RX1 yX1_reach wsX1_reach) := goodIn_app (goodIn_of _ (by decide +kernel)) ggX2_leaksBy_X1_reach
set_option maxRecDepth 20000 in
theorem ggX2_leaksBy_J6_bitCount_0f7a4 : GoodIn wsX2_leaksBy wsJ6_bitCount_0f7a4 := goodIn_r _ [45, 46, 47, 48] (by decide +kernel) (by decide +kernel)
set_option maxRecDepth 20000 in
theorem gX2_leaksBy_J6_bitCount_0f7a4 : GoodIn wsX2_leaksBy (va_wsS RX2 49 yJ6_bitCount_0f7a4 wsJ6_bitCount_0f7a4) := goodIn_app (goodIn_of _ (by decide +kernel)) ggX2_leaksBy_J6_bitCount_0f7a4
theorem dX2_leaksBy_0 : decode cX2_leaksBy 0 = .ok (.aload_n 0, 1) := by decide +kernel
theorem dX2_leaksBy_1 : decode cX2_leaksBy 1 = .ok (.iload_n 1, 1) := by decide +kernel
theorem dX2_leaksBy_2 : decode cX2_leaksBy 2 = .ok (.invokevirtual 71, 3) := by decide +kernel
theorem dX2_leaksBy_5 : decode cX2_leaksBy 5 = .ok (.iconst 0, 1) := by decide +kernel
theorem dX2_leaksBy_6 : decode cX2_leaksBy 6 = .ok (.istore_n 3, 1) := by decide +kernel
theorem dX2_leaksBy_7 : decode cX2_leaksBy 7 = .ok (.iconst 0, 1) := by decide +kernel
theorem dX2_leaksBy_8 : decode cX2_leaksBy 8 = .ok (.istore 4, 2) := by decide +kernel
theorem dX2_leaksBy_10 : decode cX2_leaksBy 10 = .ok (.iload 4, 2) := by decide +kernel
theorem dX2_leaksBy_12 : decode cX2_leaksBy 12 = .ok (.aload_n 2, 1) := by decide +kernel
theorem dX2_leaksBy_13 : decode cX2_leaksBy 13 = .ok (.invokevirtual 92, 3) := by decide +kernel
theorem dX2_leaksBy_16 : decode cX2_leaksBy 16 = .ok (.if_icmp .ge 47, 3) := by decide +kernel
theorem dX2_leaksBy_19 : decode cX2_leaksBy 19 = .ok (.aload_n 2, 1) := by decide +kernel
theorem dX2_leaksBy_20 : decode cX2_leaksBy 20 = .ok (.iload 4, 2) := by decide +kernel
theorem dX2_leaksBy_22 : decode cX2_leaksBy 22 = .ok (.invokevirtual 96, 3) := by decide +kernel
theorem dX2_leaksBy_25 : decode cX2_leaksBy 25 = .ok (.istore 5, 2) := by decide +kernel
theorem dX2_leaksBy_27 : decode cX2_leaksBy 27 = .ok (.iload 5, 2) := by decide +kernel
theorem dX2_leaksBy_29 : decode cX2_leaksBy 29 = .ok (.ifCond .eq 28, 3) := by decide +kernel
theorem dX2_leaksBy_32 : decode cX2_leaksBy 32 = .ok (.iload_n 3, 1) := by decide +kernel
theorem dX2_leaksBy_33 : decode cX2_leaksBy 33 = .ok (.aload_n 0, 1) := by decide +kernel
theorem dX2_leaksBy_34 : decode cX2_leaksBy 34 = .ok (.getfield 24, 3) := by decide +kernel
theorem dX2_leaksBy_37 : decode cX2_leaksBy 37 = .ok (.iload 4, 2) := by decide +kernel
theorem dX2_leaksBy_39 : decode cX2_leaksBy 39 = .ok (.bipush 7, 2) := by decide +kernel
theorem dX2_leaksBy_41 : decode cX2_leaksBy 41 = .ok (.invokevirtual 75, 3) := by decide +kernel
theorem dX2_leaksBy_44 : decode cX2_leaksBy 44 = .ok (.iload 5, 2) := by decide +kernel
theorem dX2_leaksBy_46 : decode cX2_leaksBy 46 = .ok (.iand, 1) := by decide +kernel
theorem dX2_leaksBy_47 : decode cX2_leaksBy 47 = .ok (.iload 4, 2) := by decide +kernel
theorem dX2_leaksBy_49 : decode cX2_leaksBy 49 = .ok (.iconst 1, 1) := by decide +kernel
theorem dX2_leaksBy_50 : decode cX2_leaksBy 50 = .ok (.iadd, 1) := by decide +kernel
theorem dX2_leaksBy_51 : decode cX2_leaksBy 51 = .ok (.ishr, 1) := by decide +kernel
theorem dX2_leaksBy_52 : decode cX2_leaksBy 52 = .ok (.invokestatic 49, 3) := by decide +kernel
theorem dX2_leaksBy_55 : decode cX2_leaksBy 55 = .ok (.iadd, 1) := by decide +kernel
theorem dX2_leaksBy_56 : decode cX2_leaksBy 56 = .ok (.istore_n 3, 1) := by decide +kernel
theorem dX2_leaksBy_57 : decode cX2_leaksBy 57 = .ok (.iinc 4 1, 3) := by decide +kernel
theorem dX2_leaksBy_60 : decode cX2_leaksBy 60 = .ok (.goto (-50), 3) := by decide +kernel
theorem dX2_leaksBy_63 : decode cX2_leaksBy 63 = .ok (.iload_n 3, 1) := by decide +kernel
theorem dX2_leaksBy_64 : decode cX2_leaksBy 64 = .ok (.ireturn, 1) := by decide +kernel
theorem dX3_init_0 : decode cX3_init 0 = .ok (.aload_n 0, 1) := by decide +kernel
theorem dX3_init_1 : decode cX3_init 1 = .ok (.invokespecial 3, 3) := by decide +kernel
theorem dX3_init_4 : decode cX3_init 4 = .ok (.aload_n 0, 1) := by decide +kernel
theorem dX3_init_5 : decode cX3_init 5 = .ok (.bipush 8, 2) := by decide +kernel
theorem dX3_init_7 : decode cX3_init 7 = .ok (.bipush 8, 2) := by decide +kernel
theorem dX3_init_9 : decode cX3_init 9 = .ok (.multianewarray 9 2, 4) := by decide +kernel
theorem dX3_init_13 : decode cX3_init 13 = .ok (.putfield 11, 3) := by decide +kernel
theorem dX3_init_16 : decode cX3_init 16 = .ok (.aload_n 0, 1) := by decide +kernel
theorem dX3_init_17 : decode cX3_init 17 = .ok (.bipush 8, 2) := by decide +kernel
theorem dX3_init_19 : decode cX3_init 19 = .ok (.newarray .int, 2) := by decide +kernel

theorem dJ8_newLength_cabcc_13 : decode cJ8_newLength_cabcc 13 = .ok (.iload_n 3, 1) := by decide +kernel
theorem dJ8_newLength_cabcc_14 : decode cJ8_newLength_cabcc 14 = .ok (.ldc 200, 2) := by decide +kernel
theorem dJ8_newLength_cabcc_16 : decode cJ8_newLength_cabcc 16 = .ok (.if_icmp .gt 5, 3) := by decide +kernel
theorem dJ8_newLength_cabcc_19 : decode cJ8_newLength_cabcc 19 = .ok (.iload_n 3, 1) := by decide +kernel
theorem dJ8_newLength_cabcc_20 : decode cJ8_newLength_cabcc 20 = .ok (.ireturn, 1) := by decide +kernel
theorem dJ8_newLength_cabcc_21 : decode cJ8_newLength_cabcc 21 = .ok (.iload_n 0, 1) := by decide +kernel
theorem dJ8_newLength_cabcc_22 : decode cJ8_newLength_cabcc 22 = .ok (.iload_n 1, 1) := by decide +kernel
theorem dJ8_newLength_cabcc_23 : decode cJ8_newLength_cabcc 23 = .ok (.invokestatic 201, 3) := by decide +kernel
theorem dJ8_newLength_cabcc_26 : decode cJ8_newLength_cabcc 26 = .ok (.ireturn, 1) := by decide +kernel
theorem dJ8_hugeLength_7cf53_0 : decode cJ8_hugeLength_7cf53 0 = .ok (.iload_n 0, 1) := by decide +kernel
theorem dJ8_hugeLength_7cf53_1 : decode cJ8_hugeLength_7cf53 1 = .ok (.iload_n 1, 1) := by decide +kernel
theorem dJ8_hugeLength_7cf53_2 : decode cJ8_hugeLength_7cf53 2 = .ok (.iadd, 1) := by decide +kernel
theorem dJ8_hugeLength_7cf53_3 : decode cJ8_hugeLength_7cf53 3 = .ok (.istore_n 2, 1) := by decide +kernel
theorem dJ8_hugeLength_7cf53_4 : decode cJ8_hugeLength_7cf53 4 = .ok (.iload_n 2, 1) := by decide +kernel
theorem dJ8_hugeLength_7cf53_5 : decode cJ8_hugeLength_7cf53 5 = .ok (.ifCond .ge 44, 3) := by decide +kernel
theorem dJ8_hugeLength_7cf53_8 : decode cJ8_hugeLength_7cf53 8 = .ok (.new 204, 3) := by decide +kernel
theorem dJ8_hugeLength_7cf53_11 : decode cJ8_hugeLength_7cf53 11 = .ok (.dup, 1) := by decide +kernel
theorem dJ8_hugeLength_7cf53_12 : decode cJ8_hugeLength_7cf53 12 = .ok (.new 89, 3) := by decide +kernel
theorem dJ8_hugeLength_7cf53_15 : decode cJ8_hugeLength_7cf53 15 = .ok (.dup, 1) := by decide +kernel
theorem dJ8_hugeLength_7cf53_16 : decode cJ8_hugeLength_7cf53 16 = .ok (.invokespecial 91, 3) := by decide +kernel
theorem dJ8_hugeLength_7cf53_19 : decode cJ8_hugeLength_7cf53 19 = .ok (.ldc 206, 2) := by decide +kernel
theorem dJ8_hugeLength_7cf53_21 : decode cJ8_hugeLength_7cf53 21 = .ok (.invokevirtual 94, 3) := by decide +kernel
theorem dJ8_hugeLength_7cf53_24 : decode cJ8_hugeLength_7cf53 24 = .ok (.iload_n 0, 1) := by decide +kernel
theorem dJ8_hugeLength_7cf53_25 : decode cJ8_hugeLength_7cf53 25 = .ok (.invokevirtual 98, 3) := by decide +kernel
theorem dJ8_hugeLength_7cf53_28 : decode cJ8_hugeLength_7cf53 28 = .ok (.ldc 208, 2) := by decide +kernel
theorem dJ8_hugeLength_7cf53_30 : decode cJ8_hugeLength_7cf53 30 = .ok (.invokevirtual 94, 3) := by decide +kernel
theorem dJ8_hugeLength_7cf53_33 : decode cJ8_hugeLength_7cf53 33 = .ok (.iload_n 1, 1) := by decide +kernel
theorem dJ8_hugeLength_7cf53_34 : decode cJ8_hugeLength_7cf53 34 = .ok (.invokevirtual 98, 3) := by decide +kernel
theorem dJ8_hugeLength_7cf53_37 : decode cJ8_hugeLength_7cf53 37 = .ok (.ldc 210, 2) := by decide +kernel
theorem dJ8_hugeLength_7cf53_39 : decode cJ8_hugeLength_7cf53 39 = .ok (.invokevirtual 94, 3) := by decide +kernel
theorem dJ8_hugeLength_7cf53_42 : decode cJ8_hugeLength_7cf53 42 = .ok (.invokevirtual 101, 3) := by decide +kernel
theorem dJ8_hugeLength_7cf53_45 : decode cJ8_hugeLength_7cf53 45 = .ok (.invokespecial 212, 3) := by decide +kernel
theorem dJ8_hugeLength_7cf53_48 : decode cJ8_hugeLength_7cf53 48 = .ok (.athrow, 1) := by decide +kernel
theorem dJ8_hugeLength_7cf53_49 : decode cJ8_hugeLength_7cf53 49 = .ok (.iload_n 2, 1) := by decide +kernel
theorem dJ8_hugeLength_7cf53_50 : decode cJ8_hugeLength_7cf53 50 = .ok (.ldc 200, 2) := by decide +kernel
theorem dJ8_hugeLength_7cf53_52 : decode cJ8_hugeLength_7cf53 52 = .ok (.if_icmp .gt 6, 3) := by decide +kernel
theorem dJ8_hugeLength_7cf53_55 : decode cJ8_hugeLength_7cf53 55 = .ok (.ldc 200, 2) := by decide +kernel
theorem dJ8_hugeLength_7cf53_57 : decode cJ8_hugeLength_7cf53 57 = .ok (.ireturn, 1) := by decide +kernel
theorem dJ8_hugeLength_7cf53_58 : decode cJ8_hugeLength_7cf53 58 = .ok (.iload_n 2, 1) := by decide +kernel
theorem dJ8_hugeLength_7cf53_59 : decode cJ8_hugeLength_7cf53 59 = .ok (.ireturn, 1) := by decide +kernel
theorem dJ3_checkIndex_8e157_0 : decode cJ3_checkIndex_8e157 0 = .ok (.iload_n 0, 1) := by decide +kernel
theorem dJ3_checkIndex_8e157_1 : decode cJ3_checkIndex_8e157 1 = .ok (.ifCond .lt 8, 3) := by decide +kernel
theorem dJ3_checkIndex_8e157_4 : decode cJ3_checkIndex_8e157 4 = .ok (.iload_n 0, 1) := by decide +kernel
theorem dJ3_checkIndex_8e157_5 : decode cJ3_checkIndex_8e157 5 = .ok (.iload_n 1, 1) := by decide +kernel
theorem dJ3_checkIndex_8e157_6 : decode cJ3_checkIndex_8e157 6 = .ok (.if_icmp .lt 10, 3) := by decide +kernel
theorem dJ3_checkIndex_8e157_9 : decode cJ3_checkIndex_8e157 9 = .ok (.aload_n 2, 1) := by decide +kernel
theorem dJ3_checkIndex_8e157_10 : decode cJ3_checkIndex_8e157 10 = .ok (.iload_n 0, 1) := by decide +kernel
theorem dJ3_checkIndex_8e157_11 : decode cJ3_checkIndex_8e157 11 = .ok (.iload_n 1, 1) := by decide +kernel
theorem dJ3_checkIndex_8e157_12 : decode cJ3_checkIndex_8e157 12 = .ok (.invokestatic 95, 3) := by decide +kernel
theorem dJ3_checkIndex_8e157_15 : decode cJ3_checkIndex_8e157 15 = .ok (.athrow, 1) := by decide +kernel
theorem dJ3_checkIndex_8e157_16 : decode cJ3_checkIndex_8e157 16 = .ok (.iload_n 0, 1) := by decide +kernel
theorem dJ3_checkIndex_8e157_17 : decode cJ3_checkIndex_8e157 17 = .ok (.ireturn, 1) := by decide +kernel
theorem dL_below_0 : decode cL_below 0 = .ok (.iload_n 0, 1) := by decide +kernel
theorem dL_below_1 : decode cL_below 1 = .ok (.ldc 7, 2) := by decide +kernel
theorem dL_below_3 : decode cL_below 3 = .ok (.iand, 1) := by decide +kernel
theorem dL_below_4 : decode cL_below 4 = .ok (.iload_n 1, 1) := by decide +kernel
theorem dL_below_5 : decode cL_below 5 = .ok (.irem, 1) := by decide +kernel
theorem dL_below_6 : decode cL_below 6 = .ok (.ireturn, 1) := by decide +kernel
theorem dL_cell_0 : decode cL_cell 0 = .ok (.iload_n 1, 1) := by decide +kernel
theorem dL_cell_1 : decode cL_cell 1 = .ok (.aload_n 0, 1) := by decide +kernel
theorem dL_cell_2 : decode cL_cell 2 = .ok (.arraylength, 1) := by decide +kernel
theorem dL_cell_3 : decode cL_cell 3 = .ok (.if_icmp .ge 9, 3) := by decide +kernel
theorem dL_cell_6 : decode cL_cell 6 = .ok (.aload_n 0, 1) := by decide +kernel
theorem dL_cell_7 : decode cL_cell 7 = .ok (.iload_n 1, 1) := by decide +kernel
theorem dL_cell_8 : decode cL_cell 8 = .ok (.iaload, 1) := by decide +kernel
theorem dL_cell_9 : decode cL_cell 9 = .ok (.goto 9, 3) := by decide +kernel
theorem dL_cell_12 : decode cL_cell 12 = .ok (.ldc 8, 2) := by decide +kernel
theorem dL_cell_14 : decode cL_cell 14 = .ok (.iload_n 1, 1) := by decide +kernel
theorem dL_cell_15 : decode cL_cell 15 = .ok (.iconst 3, 1) := by decide +kernel
theorem dL_cell_16 : decode cL_cell 16 = .ok (.iadd, 1) := by decide +kernel
theorem dL_cell_17 : decode cL_cell 17 = .ok (.imul, 1) := by decide +kernel
theorem dL_cell_18 : decode cL_cell 18 = .ok (.ireturn, 1) := by decide +kernel
set_option maxRecDepth 20000 in
theorem ggL_drawn_L_cell : GoodIn wsL_drawn wsL_cell := goodIn_r _ [4, 5] (by decide +kernel) (by decide +kernel)
set_option maxRecDepth 20000 in
theorem gL_drawn_L_cell : GoodIn wsL_drawn (va_wsS RL 9 yL_cell wsL_cell) := goodIn_app (goodIn_of _ (by decide +kernel)) ggL_drawn_L_cell
set_option maxRecDepth 20000 in
theorem ggL_drawn_L_below : GoodIn wsL_drawn wsL_below := goodIn_r _ [8, 9] (by decide +kernel) (by decide +kernel)
set_option maxRecDepth 20000 in
theorem gL_drawn_L_below : GoodIn wsL_drawn (va_wsS RL 15 yL_below wsL_below) := goodIn_app (goodIn_of _ (by decide +kernel)) ggL_drawn_L_below
theorem dL_drawn_0 : decode cL_drawn 0 = .ok (.aload_n 0, 1) := by decide +kernel
theorem dL_drawn_1 : decode cL_drawn 1 = .ok (.iload_n 1, 1) := by decide +kernel
theorem dL_drawn_2 : decode cL_drawn 2 = .ok (.bipush 24, 2) := by decide +kernel
theorem dL_drawn_4 : decode cL_drawn 4 = .ok (.irem, 1) := by decide +kernel
theorem dL_drawn_5 : decode cL_drawn 5 = .ok (.invokestatic 9, 3) := by decide +kernel
theorem dL_drawn_8 : decode cL_drawn 8 = .ok (.iload_n 1, 1) := by decide +kernel
theorem dL_drawn_9 : decode cL_drawn 9 = .ok (.bipush 24, 2) := by decide +kernel
theorem dL_drawn_11 : decode cL_drawn 11 = .ok (.idiv, 1) := by decide +kernel
theorem dL_drawn_12 : decode cL_drawn 12 = .ok (.bipush 8, 2) := by decide +kernel
theorem dL_drawn_14 : decode cL_drawn 14 = .ok (.irem, 1) := by decide +kernel
theorem dL_drawn_15 : decode cL_drawn 15 = .ok (.ishr, 1) := by decide +kernel
theorem dL_drawn_16 : decode cL_drawn 16 = .ok (.sipush 571, 3) := by decide +kernel
theorem dL_drawn_19 : decode cL_drawn 19 = .ok (.iload_n 1, 1) := by decide +kernel
theorem dL_drawn_20 : decode cL_drawn 20 = .ok (.imul, 1) := by decide +kernel
theorem dL_drawn_21 : decode cL_drawn 21 = .ok (.iadd, 1) := by decide +kernel
theorem dL_drawn_22 : decode cL_drawn 22 = .ok (.iload_n 2, 1) := by decide +kernel
theorem dL_drawn_23 : decode cL_drawn 23 = .ok (.invokestatic 15, 3) := by decide +kernel
theorem dL_drawn_26 : decode cL_drawn 26 = .ok (.ireturn, 1) := by decide +kernel
set_option maxRecDepth 20000 in
theorem ggL_isIn_L_rank : GoodIn wsL_isIn wsL_rank := goodIn_r _ [4, 5, 6, 7, 8, 9, 10, 11, 12, 13, 14, 15, 16, 17, 18, 19, 20, 21, 22, 23, 24, 25, 26, 27, 28, 29, 30, 31, 32, 33, 34, 35, 36, 37, 38, 39, 40, 41, 42, 43, 44, 45] (by decide +kernel) (by decide +kernel)
set_option maxRecDepth 20000 in
theorem gL_isIn_L_rank : GoodIn wsL_isIn (va_wsS RL 19 yL_rank wsL_rank) := goodIn_app (goodIn_of _ (by decide +kernel)) ggL_isIn_L_rank
theorem dL_isIn_0 : decode cL_isIn 0 = .ok (.aload_n 0, 1) := by decide +kernel
theorem dL_isIn_1 : decode cL_isIn 1 = .ok (.iconst (-1), 1) := by decide +kernel
theorem dL_isIn_2 : decode cL_isIn 2 = .ok (.invokestatic 19, 3) := by decide +kernel
theorem dL_isIn_5 : decode cL_isIn 5 = .ok (.aload_n 0, 1) := by decide +kernel
theorem dL_isIn_6 : decode cL_isIn 6 = .ok (.iload_n 1, 1) := by decide +kernel
theorem dL_isIn_7 : decode cL_isIn 7 = .ok (.invokestatic 19, 3) := by decide +kernel
theorem dL_isIn_10 : decode cL_isIn 10 = .ok (.if_icmp .ne 7, 3) := by decide +kernel
theorem dL_isIn_13 : decode cL_isIn 13 = .ok (.iconst 1, 1) := by decide +kernel
theorem dL_isIn_14 : decode cL_isIn 14 = .ok (.goto 4, 3) := by decide +kernel
theorem dL_isIn_17 : decode cL_isIn 17 = .ok (.iconst 0, 1) := by decide +kernel
theorem dL_isIn_18 : decode cL_isIn 18 = .ok (.ireturn, 1) := by decide +kernel
set_option maxRecDepth 20000 in
theorem ggL_rank_Jx4a65c_size_8abf5 : GoodIn wsL_rank wsJx4a65c_size_8abf5 := goodIn_r _ [9, 10, 38, 39, 40] (by decide +kernel) (by decide +kernel)
set_option maxRecDepth 20000 in
theorem gL_rank_Jx4a65c_size_8abf5_f23Jx4a65c : GoodIn wsL_rank (va_wsF RL 23 RJx4a65c ⟨"java/util/List", "size", "()I"⟩ yJx4a65c_size_8abf5 wsJx4a65c_size_8abf5) := goodIn_app (goodIn_of _ (by decide +kernel)) ggL_rank_Jx4a65c_size_8abf5
set_option maxRecDepth 20000 in
theorem ggL_rank_Jx4a65c_get_915e3 : GoodIn wsL_rank wsJx4a65c_get_915e3 := goodIn_r _ [14, 10, 15, 16, 17, 18, 19, 20, 21, 22, 23, 24, 25, 8, 26, 27, 38, 39, 40] (by decide +kernel) (by decide +kernel)
set_option maxRecDepth 20000 in
theorem gL_rank_Jx4a65c_get_915e3_f31Jx4a65c : GoodIn wsL_rank (va_wsF RL 31 RJx4a65c ⟨"java/util/List", "get", "(I)Ljava/lang/Object;"⟩ yJx4a65c_get_915e3 wsJx4a65c_get_915e3) := goodIn_app (goodIn_of _ (by decide +kernel)) ggL_rank_Jx4a65c_get_915e3
set_option maxRecDepth 20000 in
theorem ggL_rank_J6_intValue_8abf5 : GoodIn wsL_rank wsJ6_intValue_8abf5 := goodIn_r _ [32, 33, 41] (by decide +kernel) (by decide +kernel)
set_option maxRecDepth 20000 in
theorem gL_rank_J6_intValue_8abf5 : GoodIn wsL_rank (wsV RL 37 RJ6 yJ6_intValue_8abf5 wsJ6_intValue_8abf5) := goodIn_app (goodIn_of _ (by decide +kernel)) ggL_rank_J6_intValue_8abf5
set_option maxRecDepth 20000 in
theorem ggL_rank_J9_floorMod_f86c9 : GoodIn wsL_rank wsJ9_floorMod_f86c9 := goodIn_r _ [37] (by decide +kernel) (by decide +kernel)
set_option maxRecDepth 20000 in
theorem gL_rank_J9_floorMod_f86c9 : GoodIn wsL_rank (va_wsS RL 42 yJ9_floorMod_f86c9 wsJ9_floorMod_f86c9) := goodIn_app (goodIn_of _ (by decide +kernel)) ggL_rank_J9_floorMod_f86c9
theorem dL_rank_0 : decode cL_rank 0 = .ok (.aload_n 0, 1) := by decide +kernel
theorem dL_rank_1 : decode cL_rank 1 = .ok (.invokeinterface 23 1, 5) := by decide +kernel
theorem dL_rank_6 : decode cL_rank 6 = .ok (.iload_n 1, 1) := by decide +kernel
theorem dL_rank_7 : decode cL_rank 7 = .ok (.ifCond .ge 7, 3) := by decide +kernel
theorem dL_rank_10 : decode cL_rank 10 = .ok (.iconst 0, 1) := by decide +kernel
theorem dL_rank_11 : decode cL_rank 11 = .ok (.goto 4, 3) := by decide +kernel
theorem dL_rank_14 : decode cL_rank 14 = .ok (.iconst 1, 1) := by decide +kernel
theorem dL_rank_15 : decode cL_rank 15 = .ok (.iadd, 1) := by decide +kernel
theorem dL_rank_16 : decode cL_rank 16 = .ok (.istore_n 2, 1) := by decide +kernel
theorem dL_rank_17 : decode cL_rank 17 = .ok (.iload_n 2, 1) := by decide +kernel
theorem dL_rank_18 : decode cL_rank 18 = .ok (.bipush 8, 2) := by decide +kernel
theorem dL_rank_20 : decode cL_rank 20 = .ok (.multianewarray 29 2, 4) := by decide +kernel
theorem dL_rank_24 : decode cL_rank 24 = .ok (.astore_n 3, 1) := by decide +kernel
theorem dL_rank_25 : decode cL_rank 25 = .ok (.iconst 0, 1) := by decide +kernel
theorem dL_rank_26 : decode cL_rank 26 = .ok (.istore 4, 2) := by decide +kernel
theorem dL_rank_28 : decode cL_rank 28 = .ok (.iload 4, 2) := by decide +kernel
theorem dL_rank_30 : decode cL_rank 30 = .ok (.iload_n 2, 1) := by decide +kernel
theorem dL_rank_31 : decode cL_rank 31 = .ok (.if_icmp .ge 67, 3) := by decide +kernel
theorem dL_rank_34 : decode cL_rank 34 = .ok (.iconst 0, 1) := by decide +kernel
theorem dL_rank_35 : decode cL_rank 35 = .ok (.istore 5, 2) := by decide +kernel
theorem dL_rank_37 : decode cL_rank 37 = .ok (.iload 5, 2) := by decide +kernel
theorem dL_rank_39 : decode cL_rank 39 = .ok (.bipush 8, 2) := by decide +kernel
theorem dL_rank_41 : decode cL_rank 41 = .ok (.if_icmp .ge 51, 3) := by decide +kernel
theorem dL_rank_44 : decode cL_rank 44 = .ok (.aload_n 3, 1) := by decide +kernel
theorem dL_rank_45 : decode cL_rank 45 = .ok (.iload 4, 2) := by decide +kernel
theorem dL_rank_47 : decode cL_rank 47 = .ok (.aaload, 1) := by decide +kernel
theorem dL_rank_48 : decode cL_rank 48 = .ok (.iload 5, 2) := by decide +kernel
theorem dL_rank_50 : decode cL_rank 50 = .ok (.iload 4, 2) := by decide +kernel
theorem dL_rank_52 : decode cL_rank 52 = .ok (.aload_n 0, 1) := by decide +kernel
theorem dL_rank_53 : decode cL_rank 53 = .ok (.invokeinterface 23 1, 5) := by decide +kernel
theorem dL_rank_58 : decode cL_rank 58 = .ok (.if_icmp .ge 20, 3) := by decide +kernel
theorem dL_rank_61 : decode cL_rank 61 = .ok (.aload_n 0, 1) := by decide +kernel
theorem dL_rank_62 : decode cL_rank 62 = .ok (.iload 4, 2) := by decide +kernel
theorem dL_rank_64 : decode cL_rank 64 = .ok (.invokeinterface 31 2, 5) := by decide +kernel
theorem dL_rank_69 : decode cL_rank 69 = .ok (.checkcast 35, 3) := by decide +kernel
theorem dL_rank_72 : decode cL_rank 72 = .ok (.invokevirtual 37, 3) := by decide +kernel
theorem dL_rank_75 : decode cL_rank 75 = .ok (.goto 4, 3) := by decide +kernel
theorem dL_rank_78 : decode cL_rank 78 = .ok (.iload_n 1, 1) := by decide +kernel
theorem dL_rank_79 : decode cL_rank 79 = .ok (.iload 5, 2) := by decide +kernel
theorem dL_rank_81 : decode cL_rank 81 = .ok (.ishr, 1) := by decide +kernel
theorem dL_rank_82 : decode cL_rank 82 = .ok (.iconst 1, 1) := by decide +kernel
theorem dL_rank_83 : decode cL_rank 83 = .ok (.iand, 1) := by decide +kernel
theorem dL_rank_84 : decode cL_rank 84 = .ok (.i2l, 1) := by decide +kernel
theorem dL_rank_85 : decode cL_rank 85 = .ok (.lastore, 1) := by decide +kernel
theorem dL_rank_86 : decode cL_rank 86 = .ok (.iinc 5 1, 3) := by decide +kernel
theorem dL_rank_89 : decode cL_rank 89 = .ok (.goto (-52), 3) := by decide +kernel
theorem dL_rank_92 : decode cL_rank 92 = .ok (.iinc 4 1, 3) := by decide +kernel
theorem dL_rank_95 : decode cL_rank 95 = .ok (.goto (-67), 3) := by decide +kernel
theorem dL_rank_98 : decode cL_rank 98 = .ok (.iconst 0, 1) := by decide +kernel
theorem dL_rank_99 : decode cL_rank 99 = .ok (.istore 4, 2) := by decide +kernel
theorem dL_rank_101 : decode cL_rank 101 = .ok (.iconst 0, 1) := by decide +kernel
theorem dL_rank_102 : decode cL_rank 102 = .ok (.istore 5, 2) := by decide +kernel
theorem dL_rank_104 : decode cL_rank 104 = .ok (.iload 5, 2) := by decide +kernel
theorem dL_rank_106 : decode cL_rank 106 = .ok (.bipush 8, 2) := by decide +kernel
theorem dL_rank_108 : decode cL_rank 108 = .ok (.if_icmp .ge 151, 3) := by decide +kernel
theorem dL_rank_111 : decode cL_rank 111 = .ok (.iload 4, 2) := by decide +kernel
theorem dL_rank_113 : decode cL_rank 113 = .ok (.istore 6, 2) := by decide +kernel
theorem dL_rank_115 : decode cL_rank 115 = .ok (.iload 6, 2) := by decide +kernel
theorem dL_rank_117 : decode cL_rank 117 = .ok (.iload_n 2, 1) := by decide +kernel
theorem dL_rank_118 : decode cL_rank 118 = .ok (.if_icmp .ge 21, 3) := by decide +kernel
theorem dL_rank_121 : decode cL_rank 121 = .ok (.aload_n 3, 1) := by decide +kernel
theorem dL_rank_122 : decode cL_rank 122 = .ok (.iload 6, 2) := by decide +kernel
theorem dL_rank_124 : decode cL_rank 124 = .ok (.aaload, 1) := by decide +kernel
theorem dL_rank_125 : decode cL_rank 125 = .ok (.iload 5, 2) := by decide +kernel
theorem dL_rank_127 : decode cL_rank 127 = .ok (.laload, 1) := by decide +kernel
theorem dL_rank_128 : decode cL_rank 128 = .ok (.lconst 0, 1) := by decide +kernel
theorem dL_rank_129 : decode cL_rank 129 = .ok (.lcmp, 1) := by decide +kernel
theorem dL_rank_130 : decode cL_rank 130 = .ok (.ifCond .ne 9, 3) := by decide +kernel
theorem dL_rank_133 : decode cL_rank 133 = .ok (.iinc 6 1, 3) := by decide +kernel
theorem dL_rank_136 : decode cL_rank 136 = .ok (.goto (-21), 3) := by decide +kernel
theorem dL_rank_139 : decode cL_rank 139 = .ok (.iload 6, 2) := by decide +kernel
theorem dL_rank_141 : decode cL_rank 141 = .ok (.iload_n 2, 1) := by decide +kernel
theorem dL_rank_142 : decode cL_rank 142 = .ok (.if_icmp .ne 6, 3) := by decide +kernel
theorem dL_rank_145 : decode cL_rank 145 = .ok (.goto 108, 3) := by decide +kernel
theorem dL_rank_148 : decode cL_rank 148 = .ok (.aload_n 3, 1) := by decide +kernel
theorem dL_rank_149 : decode cL_rank 149 = .ok (.iload 6, 2) := by decide +kernel
theorem dL_rank_151 : decode cL_rank 151 = .ok (.aaload, 1) := by decide +kernel
theorem dL_rank_152 : decode cL_rank 152 = .ok (.astore 7, 2) := by decide +kernel
theorem dL_rank_154 : decode cL_rank 154 = .ok (.aload_n 3, 1) := by decide +kernel
theorem dL_rank_155 : decode cL_rank 155 = .ok (.iload 6, 2) := by decide +kernel
theorem dL_rank_157 : decode cL_rank 157 = .ok (.aload_n 3, 1) := by decide +kernel
theorem dL_rank_158 : decode cL_rank 158 = .ok (.iload 4, 2) := by decide +kernel
theorem dL_rank_160 : decode cL_rank 160 = .ok (.aaload, 1) := by decide +kernel
theorem dL_rank_161 : decode cL_rank 161 = .ok (.aastore, 1) := by decide +kernel
theorem dL_rank_162 : decode cL_rank 162 = .ok (.aload_n 3, 1) := by decide +kernel
theorem dL_rank_163 : decode cL_rank 163 = .ok (.iload 4, 2) := by decide +kernel
theorem dL_rank_165 : decode cL_rank 165 = .ok (.aload 7, 2) := by decide +kernel
theorem dL_rank_167 : decode cL_rank 167 = .ok (.aastore, 1) := by decide +kernel
theorem dL_rank_168 : decode cL_rank 168 = .ok (.iload 4, 2) := by decide +kernel
theorem dL_rank_170 : decode cL_rank 170 = .ok (.iconst 1, 1) := by decide +kernel
theorem dL_rank_171 : decode cL_rank 171 = .ok (.iadd, 1) := by decide +kernel
theorem dL_rank_172 : decode cL_rank 172 = .ok (.istore 8, 2) := by decide +kernel
theorem dL_rank_174 : decode cL_rank 174 = .ok (.iload 8, 2) := by decide +kernel
theorem dL_rank_176 : decode cL_rank 176 = .ok (.iload_n 2, 1) := by decide +kernel
theorem dL_rank_177 : decode cL_rank 177 = .ok (.if_icmp .ge 73, 3) := by decide +kernel
theorem dL_rank_180 : decode cL_rank 180 = .ok (.aload_n 3, 1) := by decide +kernel
theorem dL_rank_181 : decode cL_rank 181 = .ok (.iload 8, 2) := by decide +kernel
theorem dL_rank_183 : decode cL_rank 183 = .ok (.aaload, 1) := by decide +kernel
theorem dL_rank_184 : decode cL_rank 184 = .ok (.iload 5, 2) := by decide +kernel
theorem dL_rank_186 : decode cL_rank 186 = .ok (.laload, 1) := by decide +kernel
theorem dL_rank_187 : decode cL_rank 187 = .ok (.lstore 9, 2) := by decide +kernel
theorem dL_rank_189 : decode cL_rank 189 = .ok (.aload 7, 2) := by decide +kernel
theorem dL_rank_191 : decode cL_rank 191 = .ok (.iload 5, 2) := by decide +kernel
theorem dL_rank_193 : decode cL_rank 193 = .ok (.laload, 1) := by decide +kernel
theorem dL_rank_194 : decode cL_rank 194 = .ok (.lstore 11, 2) := by decide +kernel
theorem dL_rank_196 : decode cL_rank 196 = .ok (.iconst 0, 1) := by decide +kernel
theorem dL_rank_197 : decode cL_rank 197 = .ok (.istore 13, 2) := by decide +kernel
theorem dL_rank_199 : decode cL_rank 199 = .ok (.iload 13, 2) := by decide +kernel
theorem dL_rank_201 : decode cL_rank 201 = .ok (.bipush 8, 2) := by decide +kernel
theorem dL_rank_203 : decode cL_rank 203 = .ok (.if_icmp .ge 41, 3) := by decide +kernel
theorem dL_rank_206 : decode cL_rank 206 = .ok (.aload_n 3, 1) := by decide +kernel
theorem dL_rank_207 : decode cL_rank 207 = .ok (.iload 8, 2) := by decide +kernel
theorem dL_rank_209 : decode cL_rank 209 = .ok (.aaload, 1) := by decide +kernel
theorem dL_rank_210 : decode cL_rank 210 = .ok (.iload 13, 2) := by decide +kernel
theorem dL_rank_212 : decode cL_rank 212 = .ok (.aload_n 3, 1) := by decide +kernel
theorem dL_rank_213 : decode cL_rank 213 = .ok (.iload 8, 2) := by decide +kernel
theorem dL_rank_215 : decode cL_rank 215 = .ok (.aaload, 1) := by decide +kernel
theorem dL_rank_216 : decode cL_rank 216 = .ok (.iload 13, 2) := by decide +kernel
theorem dL_rank_218 : decode cL_rank 218 = .ok (.laload, 1) := by decide +kernel
theorem dL_rank_219 : decode cL_rank 219 = .ok (.lload 11, 2) := by decide +kernel
theorem dL_rank_221 : decode cL_rank 221 = .ok (.lmul, 1) := by decide +kernel
theorem dL_rank_222 : decode cL_rank 222 = .ok (.aload 7, 2) := by decide +kernel
theorem dL_rank_224 : decode cL_rank 224 = .ok (.iload 13, 2) := by decide +kernel
theorem dL_rank_226 : decode cL_rank 226 = .ok (.laload, 1) := by decide +kernel
theorem dL_rank_227 : decode cL_rank 227 = .ok (.lload 9, 2) := by decide +kernel
theorem dL_rank_229 : decode cL_rank 229 = .ok (.lmul, 1) := by decide +kernel
theorem dL_rank_230 : decode cL_rank 230 = .ok (.lsub, 1) := by decide +kernel
theorem dL_rank_231 : decode cL_rank 231 = .ok (.ldc2_w 40, 3) := by decide +kernel
theorem dL_rank_234 : decode cL_rank 234 = .ok (.invokestatic 42, 3) := by decide +kernel
theorem dL_rank_237 : decode cL_rank 237 = .ok (.lastore, 1) := by decide +kernel
theorem dL_rank_238 : decode cL_rank 238 = .ok (.iinc 13 1, 3) := by decide +kernel
theorem dL_rank_241 : decode cL_rank 241 = .ok (.goto (-42), 3) := by decide +kernel
theorem dL_rank_244 : decode cL_rank 244 = .ok (.iinc 8 1, 3) := by decide +kernel
theorem dL_rank_247 : decode cL_rank 247 = .ok (.goto (-73), 3) := by decide +kernel
theorem dL_rank_250 : decode cL_rank 250 = .ok (.iinc 4 1, 3) := by decide +kernel
theorem dL_rank_253 : decode cL_rank 253 = .ok (.iinc 5 1, 3) := by decide +kernel
theorem dL_rank_256 : decode cL_rank 256 = .ok (.goto (-152), 3) := by decide +kernel
theorem dL_rank_259 : decode cL_rank 259 = .ok (.iload 4, 2) := by decide +kernel
theorem dL_rank_261 : decode cL_rank 261 = .ok (.ireturn, 1) := by decide +kernel
set_option maxRecDepth 20000 in
theorem ggL_law_X6_init : GoodIn wsL_law wsX6_init := goodIn_r _ [10, 11, 12, 13, 14, 15, 16, 17, 18, 19, 20, 21, 22, 23, 24, 25, 26, 27, 28, 29, 30, 31, 32, 33, 34, 35, 36, 3, 37, 38, 39, 40, 41, 42, 43, 44, 45, 46, 47, 48, 49, 50, 51, 52, 53, 54, 55, 56, 57, 58, 59, 60, 61, 62, 63, 64, 65, 66, 67, 68, 69, 70, 71, 72, 73, 74, 626, 627, 628, 629, 618, 619, 620, 621, 622, 630, 631, 632, 633, 634, 635, 636, 637, 638, 639, 640, 641, 642, 643, 644, 645, 646, 647, 648, 649, 650, 651, 652, 653] (by decide +kernel) (by decide +kernel)
set_option maxRecDepth 20000 in
theorem gL_law_X6_init : GoodIn wsL_law (wsX6_init) := ggL_law_X6_init
set_option maxRecDepth 20000 in
theorem ggL_law_X6_source : GoodIn wsL_law wsX6_source := goodIn_ca (goodIn_r _ [78, 79, 80, 17, 81, 82, 83, 16, 84, 85, 86, 87, 88, 89, 618, 619, 620, 621, 622, 626, 627, 628, 629] (by decide +kernel) (by decide +kernel)) (goodIn_sub (fun _ h => List.mem_append_left _ (List.mem_append_left _ (List.mem_append_right _ h))) (by decide +kernel))
set_option maxRecDepth 20000 in
theorem gL_law_X6_source : GoodIn wsL_law (wsV RL 51 RX6 yX6_source wsX6_source) := goodIn_app (goodIn_of _ (by decide +kernel)) ggL_law_X6_source
set_option maxRecDepth 20000 in
theorem ggL_law_L_drawn : GoodIn wsL_law wsL_drawn := goodIn_r _ [93, 94, 95, 92, 96, 97, 98, 99, 100, 101] (by decide +kernel) (by decide +kernel)
set_option maxRecDepth 20000 in
theorem gL_law_L_drawn : GoodIn wsL_law (va_wsS RL 54 yL_drawn wsL_drawn) := goodIn_app (goodIn_of _ (by decide +kernel)) ggL_law_L_drawn
set_option maxRecDepth 20000 in
theorem ggL_law_X6_person : GoodIn wsL_law wsX6_person := goodIn_ca (goodIn_ca (goodIn_r _ [105, 106, 107, 79, 80, 29, 108, 109, 110, 28, 111, 112, 113, 114, 115, 116, 58, 618, 619, 620, 621, 622, 641, 642, 643, 644, 645, 646, 647, 648, 649] (by decide +kernel) (by decide +kernel)) (goodIn_sub (fun _ h => List.mem_append_left _ (List.mem_append_right _ h)) (by decide +kernel))) (goodIn_sub (fun _ h => List.mem_append_left _ (List.mem_append_left _ (List.mem_append_right _ h))) (by decide +kernel))
set_option maxRecDepth 20000 in
theorem gL_law_X6_person : GoodIn wsL_law (wsV RL 58 RX6 yX6_person wsX6_person) := goodIn_app (goodIn_of _ (by decide +kernel)) ggL_law_X6_person
set_option maxRecDepth 20000 in
theorem ggL_law_X6_asker : GoodIn wsL_law wsX6_asker := goodIn_ca (goodIn_r _ [120, 79, 80, 29, 121, 122, 123, 28, 124, 125, 126, 127, 128, 129, 618, 619, 620, 621, 622, 641, 642, 643, 644, 645, 646, 647, 648, 649] (by decide +kernel) (by decide +kernel)) (goodIn_sub (fun _ h => List.mem_append_left _ (List.mem_append_left _ (List.mem_append_right _ h))) (by decide +kernel))
set_option maxRecDepth 20000 in
theorem gL_law_X6_asker : GoodIn wsL_law (wsV RL 62 RX6 yX6_asker wsX6_asker) := goodIn_app (goodIn_of _ (by decide +kernel)) ggL_law_X6_asker
set_option maxRecDepth 20000 in
theorem ggL_law_Jx4a65c_init_da8c8 : GoodIn wsL_law wsJx4a65c_init_da8c8 := goodIn_r _ [132, 133, 134, 135, 136, 137, 138, 139, 140, 141, 142, 143, 144, 12, 13, 623, 624, 625] (by decide +kernel) (by decide +kernel)
set_option maxRecDepth 20000 in
theorem gL_law_Jx4a65c_init_da8c8 : GoodIn wsL_law (wsJx4a65c_init_da8c8) := ggL_law_Jx4a65c_init_da8c8
set_option maxRecDepth 20000 in
theorem ggL_law_X6_kin : GoodIn wsL_law wsX6_kin := goodIn_ca (goodIn_ca (goodIn_r _ [148, 106, 107, 17, 149, 150, 151, 2, 152, 153, 154, 155, 156, 157, 16, 158, 85, 159, 160, 161, 162, 36, 163, 164, 165, 35, 166, 42, 167, 168, 169, 170, 171, 172, 173, 174, 37, 38, 175, 176, 177, 178, 179, 180, 181, 182, 183, 184, 185, 186, 187, 188, 25, 21, 189, 190, 191, 24, 192, 193, 194, 195, 196, 197, 198, 199, 200, 201, 202, 203, 52, 204, 205, 206, 207, 208, 209, 210, 211, 212, 213, 214, 215, 54, 216, 217, 218, 219, 50, 51, 220, 221, 222, 223, 224, 225, 82, 83, 84, 226, 227, 228, 229, 230, 231, 232, 233, 20, 234, 235, 46, 236, 237, 238, 239, 240, 241, 242, 243, 244, 245, 618, 619, 620, 621, 622, 626, 627, 628, 629, 650, 633, 634, 635, 636, 637, 638, 639, 640, 630, 631, 632] (by decide +kernel) (by decide +kernel)) (goodIn_sub (fun _ h => List.mem_append_left _ (List.mem_append_right _ h)) (by decide +kernel))) (goodIn_sub (fun _ h => List.mem_append_right _ h) (by decide +kernel))
set_option maxRecDepth 20000 in
theorem gL_law_X6_kin : GoodIn wsL_law (wsV RL 70 RX6 yX6_kin wsX6_kin) := goodIn_app (goodIn_of _ (by decide +kernel)) ggL_law_X6_kin
set_option maxRecDepth 20000 in
theorem ggL_law_X6_bar : GoodIn wsL_law wsX6_bar := goodIn_ca (goodIn_r _ [249, 106, 107, 17, 250, 251, 252, 16, 253, 38, 171, 172, 173, 174, 37, 36, 175, 176, 177, 35, 178, 179, 180, 181, 182, 42, 183, 2, 184, 185, 186, 187, 188, 25, 21, 189, 190, 191, 24, 192, 193, 194, 195, 196, 197, 198, 199, 200, 201, 202, 203, 52, 204, 205, 206, 207, 208, 209, 210, 211, 212, 213, 214, 215, 54, 216, 217, 218, 219, 50, 51, 220, 221, 222, 223, 224, 164, 165, 166, 225, 82, 83, 84, 85, 226, 227, 228, 229, 230, 231, 232, 233, 20, 234, 235, 46, 236, 237, 238, 239, 240, 241, 242, 243, 244, 245, 618, 619, 620, 621, 622, 626, 627, 628, 629, 650, 633, 634, 635, 636, 637, 638, 639, 640, 630, 631, 632] (by decide +kernel) (by decide +kernel)) (goodIn_sub (fun _ h => List.mem_append_left _ (List.mem_append_right _ h)) (by decide +kernel))
set_option maxRecDepth 20000 in
theorem gL_law_X6_bar : GoodIn wsL_law (wsV RL 74 RX6 yX6_bar wsX6_bar) := goodIn_app (goodIn_of _ (by decide +kernel)) ggL_law_X6_bar
set_option maxRecDepth 20000 in
theorem ggL_law_X6_wouldJoin : GoodIn wsL_law wsX6_wouldJoin := goodIn_ca (goodIn_r _ [257, 17, 258, 259, 260, 2, 261, 153, 154, 21, 155, 156, 157, 16, 158, 85, 262, 263, 264, 20, 265, 235, 266, 267, 268, 269, 236, 183, 184, 270, 271, 272, 273, 46, 274, 243, 244, 245, 37, 618, 619, 620, 621, 622, 626, 627, 628, 629, 630, 631, 632] (by decide +kernel) (by decide +kernel)) (goodIn_sub (fun _ h => List.mem_append_right _ h) (by decide +kernel))
set_option maxRecDepth 20000 in
theorem gL_law_X6_wouldJoin : GoodIn wsL_law (wsV RL 77 RX6 yX6_wouldJoin wsX6_wouldJoin) := goodIn_app (goodIn_of _ (by decide +kernel)) ggL_law_X6_wouldJoin
set_option maxRecDepth 20000 in
theorem ggL_law_X6_join : GoodIn wsL_law wsX6_join := goodIn_ca (goodIn_ca (goodIn_r _ [278, 79, 80, 17, 21, 258, 259, 260, 2, 261, 153, 154, 155, 156, 157, 16, 158, 85, 262, 263, 264, 20, 265, 235, 266, 267, 268, 269, 236, 183, 184, 270, 271, 272, 273, 46, 274, 243, 244, 245, 37, 279, 280, 281, 282, 283, 284, 285, 286, 618, 619, 620, 621, 622, 626, 627, 628, 629, 630, 631, 632] (by decide +kernel) (by decide +kernel)) (goodIn_sub (fun _ h => List.mem_append_left _ (List.mem_append_left _ (List.mem_append_right _ h))) (by decide +kernel))) (goodIn_sub (fun _ h => List.mem_append_right _ h) (by decide +kernel))
set_option maxRecDepth 20000 in
theorem gL_law_X6_join : GoodIn wsL_law (wsV RL 80 RX6 yX6_join wsX6_join) := goodIn_app (goodIn_of _ (by decide +kernel)) ggL_law_X6_join
set_option maxRecDepth 20000 in
theorem ggL_law_X6_permit : GoodIn wsL_law wsX6_permit := goodIn_ca (goodIn_ca (goodIn_ca (goodIn_r _ [290, 106, 107, 79, 80, 25, 17, 149, 150, 151, 2, 152, 153, 154, 155, 156, 157, 16, 158, 85, 291, 292, 293, 24, 294, 198, 295, 296, 297, 298, 50, 299, 300, 301, 302, 51, 303, 304, 305, 52, 203, 189, 190, 191, 192, 193, 194, 195, 196, 197, 199, 200, 201, 202, 204, 183, 184, 205, 206, 207, 208, 209, 210, 211, 212, 213, 214, 215, 54, 216, 217, 218, 219, 220, 221, 222, 35, 223, 42, 224, 164, 165, 166, 225, 82, 83, 84, 226, 227, 228, 229, 37, 230, 176, 177, 178, 179, 180, 181, 182, 618, 619, 620, 621, 622, 626, 627, 628, 629, 633, 634, 635, 636, 637, 638, 639, 640, 650] (by decide +kernel) (by decide +kernel)) (goodIn_sub (fun _ h => List.mem_append_left _ (List.mem_append_right _ h)) (by decide +kernel))) (goodIn_sub (fun _ h => List.mem_append_left _ (List.mem_append_left _ (List.mem_append_right _ h))) (by decide +kernel))) (goodIn_sub (fun _ h => List.mem_append_right _ h) (by decide +kernel))
set_option maxRecDepth 20000 in
theorem gL_law_X6_permit : GoodIn wsL_law (wsV RL 83 RX6 yX6_permit wsX6_permit) := goodIn_app (goodIn_of _ (by decide +kernel)) ggL_law_X6_permit
set_option maxRecDepth 20000 in
theorem ggL_law_X6_talk : GoodIn wsL_law wsX6_talk := goodIn_ca (goodIn_ca (goodIn_r _ [309, 106, 107, 29, 310, 311, 312, 2, 313, 153, 154, 314, 315, 316, 28, 317, 125, 318, 319, 320, 321, 63, 60, 322, 323, 324, 325, 67, 326, 327, 328, 329, 330, 176, 177, 35, 178, 179, 180, 181, 182, 42, 183, 184, 331, 332, 333, 334, 61, 335, 336, 337, 66, 338, 339, 340, 341, 342, 343, 73, 74, 344, 345, 346, 347, 348, 349, 350, 351, 352, 353, 354, 355, 356, 357, 358, 359, 164, 165, 166, 618, 619, 620, 621, 622, 641, 642, 643, 644, 645, 646, 647, 648, 649, 650, 651, 652, 653] (by decide +kernel) (by decide +kernel)) (goodIn_sub (fun _ h => List.mem_append_left _ (List.mem_append_right _ h)) (by decide +kernel))) (goodIn_sub (fun _ h => List.mem_append_right _ h) (by decide +kernel))
set_option maxRecDepth 20000 in
theorem gL_law_X6_talk : GoodIn wsL_law (wsV RL 87 RX6 yX6_talk wsX6_talk) := goodIn_app (goodIn_of _ (by decide +kernel)) ggL_law_X6_talk
set_option maxRecDepth 20000 in
theorem ggL_law_X6_ask : GoodIn wsL_law wsX6_ask := goodIn_ca (goodIn_ca (goodIn_r _ [363, 29, 310, 311, 312, 2, 313, 153, 154, 314, 315, 316, 28, 317, 125, 364, 365, 366, 367, 106, 107, 368, 369, 370, 371, 372, 373, 374, 375, 376, 377, 378, 379, 112, 380, 381, 382, 383, 68, 63, 61, 62, 384, 206, 207, 208, 209, 210, 211, 385, 386, 387, 388, 67, 326, 327, 328, 329, 60, 330, 176, 177, 35, 178, 179, 180, 181, 182, 42, 183, 184, 331, 332, 333, 334, 335, 336, 337, 66, 338, 339, 340, 341, 342, 343, 73, 74, 344, 345, 346, 347, 348, 349, 350, 351, 352, 353, 354, 355, 356, 357, 358, 389, 390, 391, 392, 58, 618, 619, 620, 621, 622, 641, 642, 643, 644, 645, 646, 647, 648, 649, 650, 651, 652, 653] (by decide +kernel) (by decide +kernel)) (goodIn_sub (fun _ h => List.mem_append_right _ h) (by decide +kernel))) (goodIn_sub (fun _ h => List.mem_append_left _ (List.mem_append_right _ h)) (by decide +kernel))
set_option maxRecDepth 20000 in
theorem gL_law_X6_ask : GoodIn wsL_law (wsV RL 91 RX6 yX6_ask wsX6_ask) := goodIn_app (goodIn_of _ (by decide +kernel)) ggL_law_X6_ask
set_option maxRecDepth 20000 in
theorem ggL_law_Jx4a65c_add_9ea2d : GoodIn wsL_law wsJx4a65c_add_9ea2d := goodIn_r _ [396, 397, 398, 134, 399, 400, 401, 402, 6, 403, 404, 405, 406, 407, 408, 409, 410, 411, 133, 412, 304, 301, 305, 413, 414, 415, 416, 417, 418, 419, 420, 421, 422, 423, 424, 425, 426, 427, 428, 429, 430, 431, 432, 433, 434, 435, 436, 300, 302, 437, 438, 439, 440, 623, 624, 625] (by decide +kernel) (by decide +kernel)
set_option maxRecDepth 20000 in
theorem gL_law_Jx4a65c_add_9ea2d_f94Jx4a65c : GoodIn wsL_law (va_wsF RL 94 RJx4a65c ⟨"java/util/List", "add", "(Ljava/lang/Object;)Z"⟩ yJx4a65c_add_9ea2d wsJx4a65c_add_9ea2d) := goodIn_app (goodIn_of _ (by decide +kernel)) ggL_law_Jx4a65c_add_9ea2d
set_option maxRecDepth 20000 in
theorem ggL_law_Jx4a65c_iterator_32c93 : GoodIn wsL_law wsJx4a65c_iterator_32c93 := goodIn_r _ [444, 445, 446, 447, 448, 449, 450, 451, 452, 12, 13, 453, 454, 398, 455, 654, 655, 656, 657, 623, 624, 625] (by decide +kernel) (by decide +kernel)
set_option maxRecDepth 20000 in
theorem gL_law_Jx4a65c_iterator_32c93_f98Jx4a65c : GoodIn wsL_law (va_wsF RL 98 RJx4a65c ⟨"java/util/List", "iterator", "()Ljava/util/Iterator;"⟩ yJx4a65c_iterator_32c93 wsJx4a65c_iterator_32c93) := goodIn_app (goodIn_of _ (by decide +kernel)) ggL_law_Jx4a65c_iterator_32c93
set_option maxRecDepth 20000 in
theorem ggL_law_Jx35411_hasNext_aae02 : GoodIn wsL_law wsJx35411_hasNext_aae02 := goodIn_r _ [459, 460, 451, 654, 655, 656, 657, 623, 624, 625] (by decide +kernel) (by decide +kernel)
set_option maxRecDepth 20000 in
theorem gL_law_Jx35411_hasNext_aae02_f102Jx35411 : GoodIn wsL_law (va_wsF RL 102 RJx35411 ⟨"java/util/Iterator", "hasNext", "()Z"⟩ yJx35411_hasNext_aae02 wsJx35411_hasNext_aae02) := goodIn_app (goodIn_of _ (by decide +kernel)) ggL_law_Jx35411_hasNext_aae02
set_option maxRecDepth 20000 in
theorem ggL_law_Jx35411_next_0502b : GoodIn wsL_law wsJx35411_next_0502b := goodIn_r _ [464, 460, 451, 465, 453, 466, 467, 468, 447, 469, 454, 398, 455, 654, 655, 656, 657, 623, 624, 625] (by decide +kernel) (by decide +kernel)
set_option maxRecDepth 20000 in
theorem gL_law_Jx35411_next_0502b_f108Jx35411 : GoodIn wsL_law (va_wsF RL 108 RJx35411 ⟨"java/util/Iterator", "next", "()Ljava/lang/Object;"⟩ yJx35411_next_0502b wsJx35411_next_0502b) := goodIn_app (goodIn_of _ (by decide +kernel)) ggL_law_Jx35411_next_0502b
set_option maxRecDepth 20000 in
theorem ggL_law_J6_valueOf_2dffe : GoodIn wsL_law wsJ6_valueOf_2dffe := goodIn_r _ [472, 473, 474, 475, 476, 207, 477, 478, 479, 480, 481, 482, 483, 484, 485, 12, 13, 658] (by decide +kernel) (by decide +kernel)
set_option maxRecDepth 20000 in
theorem gL_law_J6_valueOf_2dffe : GoodIn wsL_law (va_wsS RL 112 yJ6_valueOf_2dffe wsJ6_valueOf_2dffe) := goodIn_app (goodIn_of _ (by decide +kernel)) ggL_law_J6_valueOf_2dffe
set_option maxRecDepth 20000 in
theorem ggL_law_L_isIn : GoodIn wsL_law wsL_isIn := goodIn_r _ [488, 489, 490, 92, 491, 492, 493, 494, 495, 496, 497, 498, 6, 499, 399, 500, 501, 502, 503, 504, 505, 506, 507, 508, 509, 510, 511, 512, 513, 514, 515, 134, 516, 517, 518, 207, 519, 480, 520, 521, 522, 523, 623, 624, 625, 658] (by decide +kernel) (by decide +kernel)
set_option maxRecDepth 20000 in
theorem gL_law_L_isIn : GoodIn wsL_law (va_wsS RL 116 yL_isIn wsL_isIn) := goodIn_app (goodIn_of _ (by decide +kernel)) ggL_law_L_isIn
set_option maxRecDepth 20000 in
theorem ggL_law_X6_ofTable : GoodIn wsL_law wsX6_ofTable := goodIn_ca (goodIn_ca (goodIn_r _ [527, 153, 154, 106, 107, 21, 262, 263, 264, 20, 265, 235, 270, 271, 272, 273, 46, 266, 267, 268, 269, 236, 183, 2, 184, 618, 619, 620, 621, 622, 630, 631, 632] (by decide +kernel) (by decide +kernel)) (goodIn_sub (fun _ h => List.mem_append_right _ h) (by decide +kernel))) (goodIn_sub (fun _ h => List.mem_append_left _ (List.mem_append_right _ h)) (by decide +kernel))
set_option maxRecDepth 20000 in
theorem gL_law_X6_ofTable : GoodIn wsL_law (wsV RL 120 RX6 yX6_ofTable wsX6_ofTable) := goodIn_app (goodIn_of _ (by decide +kernel)) ggL_law_X6_ofTable
set_option maxRecDepth 20000 in
theorem ggL_law_X6_ofSource : GoodIn wsL_law wsX6_ofSource := goodIn_ca (goodIn_ca (goodIn_r _ [531, 106, 107, 17, 25, 21, 149, 150, 151, 2, 152, 153, 154, 155, 156, 157, 16, 158, 85, 532, 533, 534, 535, 36, 536, 537, 538, 35, 539, 42, 540, 227, 228, 229, 37, 541, 542, 543, 24, 544, 54, 194, 195, 196, 197, 198, 199, 200, 201, 202, 203, 52, 204, 183, 184, 216, 217, 218, 219, 50, 51, 220, 221, 222, 223, 224, 164, 165, 166, 230, 176, 177, 178, 179, 180, 181, 182, 545, 546, 547, 20, 548, 235, 236, 46, 618, 619, 620, 621, 622, 626, 627, 628, 629, 650, 633, 634, 635, 636, 637, 638, 639, 640, 630, 631, 632] (by decide +kernel) (by decide +kernel)) (goodIn_sub (fun _ h => List.mem_append_left _ (List.mem_append_right _ h)) (by decide +kernel))) (goodIn_sub (fun _ h => List.mem_append_right _ h) (by decide +kernel))
set_option maxRecDepth 20000 in
theorem gL_law_X6_ofSource : GoodIn wsL_law (wsV RL 123 RX6 yX6_ofSource wsX6_ofSource) := goodIn_app (goodIn_of _ (by decide +kernel)) ggL_law_X6_ofSource
set_option maxRecDepth 20000 in
theorem ggL_law_X6_house : GoodIn wsL_law wsX6_house := goodIn_ca (goodIn_r _ [552, 106, 107, 17, 21, 25, 29, 553, 81, 82, 83, 16, 84, 85, 279, 280, 281, 20, 282, 235, 554, 238, 239, 240, 236, 241, 206, 207, 208, 209, 210, 211, 555, 556, 557, 558, 38, 559, 560, 561, 24, 562, 194, 195, 196, 197, 198, 199, 200, 201, 202, 203, 52, 204, 183, 2, 184, 205, 563, 564, 565, 566, 212, 213, 214, 215, 54, 216, 217, 218, 219, 50, 51, 220, 221, 222, 35, 223, 42, 224, 164, 165, 166, 225, 226, 227, 228, 229, 37, 230, 176, 177, 178, 179, 180, 181, 182, 567, 568, 569, 570, 193, 571, 572, 573, 574, 108, 109, 110, 28, 111, 112, 121, 122, 123, 124, 125, 575, 576, 577, 578, 68, 579, 580, 581, 582, 62, 583, 584, 585, 586, 587, 588, 589, 63, 618, 619, 620, 621, 622, 626, 627, 628, 629, 630, 631, 632, 633, 634, 635, 636, 637, 638, 639, 640, 650, 641, 642, 643, 644, 645, 646, 647, 648, 649] (by decide +kernel) (by decide +kernel)) (goodIn_sub (fun _ h => List.mem_append_left _ (List.mem_append_right _ h)) (by decide +kernel))
set_option maxRecDepth 20000 in
theorem gL_law_X6_house : GoodIn wsL_law (wsV RL 126 RX6 yX6_house wsX6_house) := goodIn_app (goodIn_of _ (by decide +kernel)) ggL_law_X6_house
set_option maxRecDepth 20000 in
theorem ggL_law_L_isShut : GoodIn wsL_law wsL_isShut := goodIn_r _ [592, 3] (by decide +kernel) (by decide +kernel)
set_option maxRecDepth 20000 in
theorem gL_law_L_isShut : GoodIn wsL_law (va_wsS RL 129 yL_isShut wsL_isShut) := goodIn_app (goodIn_of _ (by decide +kernel)) ggL_law_L_isShut
set_option maxRecDepth 20000 in
theorem ggL_law_J6_bitCount_0f7a4 : GoodIn wsL_law wsJ6_bitCount_0f7a4 := goodIn_r _ [208, 209, 210, 211] (by decide +kernel) (by decide +kernel)
set_option maxRecDepth 20000 in
theorem gL_law_J6_bitCount_0f7a4 : GoodIn wsL_law (va_wsS RL 133 yJ6_bitCount_0f7a4 wsJ6_bitCount_0f7a4) := goodIn_app (goodIn_of _ (by decide +kernel)) ggL_law_J6_bitCount_0f7a4
set_option maxRecDepth 20000 in
theorem ggL_law_X6_isSound : GoodIn wsL_law wsX6_isSound := goodIn_r _ [597, 29, 21, 17, 25, 598, 599, 600, 28, 601, 125, 67, 326, 327, 328, 329, 60, 330, 176, 177, 35, 178, 179, 180, 181, 182, 42, 183, 2, 184, 331, 332, 333, 334, 61, 335, 336, 337, 66, 338, 339, 340, 341, 342, 343, 73, 74, 344, 345, 346, 347, 348, 349, 350, 351, 352, 353, 354, 355, 356, 357, 358, 602, 603, 604, 605, 606, 607, 608, 609, 610, 611, 612, 20, 613, 235, 236, 46, 242, 243, 244, 16, 245, 85, 37, 614, 615, 616, 24, 617, 193, 194, 195, 196, 197, 198, 199, 200, 201, 202, 203, 52, 204, 212, 213, 214, 215, 54, 216, 217, 218, 219, 50, 51, 220, 221, 222, 223, 224, 164, 165, 166, 225, 82, 83, 84, 226, 227, 228, 229, 230, 205, 206, 207, 208, 209, 210, 211, 618, 619, 620, 621, 622, 641, 642, 643, 644, 645, 646, 647, 648, 649, 650, 651, 652, 653, 630, 631, 632, 626, 627, 628, 629, 633, 634, 635, 636, 637, 638, 639, 640] (by decide +kernel) (by decide +kernel)
set_option maxRecDepth 20000 in
theorem gL_law_X6_isSound : GoodIn wsL_law (wsV RL 136 RX6 yX6_isSound wsX6_isSound) := goodIn_app (goodIn_of _ (by decide +kernel)) ggL_law_X6_isSound
theorem dL_law_0 : decode cL_law 0 = .ok (.new 48, 3) := by decide +kernel
theorem dL_law_3 : decode cL_law 3 = .ok (.dup, 1) := by decide +kernel
theorem dL_law_4 : decode cL_law 4 = .ok (.invokespecial 50, 3) := by decide +kernel
theorem dL_law_7 : decode cL_law 7 = .ok (.astore_n 1, 1) := by decide +kernel
theorem dL_law_8 : decode cL_law 8 = .ok (.new 48, 3) := by decide +kernel
theorem dL_law_11 : decode cL_law 11 = .ok (.dup, 1) := by decide +kernel
theorem dL_law_12 : decode cL_law 12 = .ok (.invokespecial 50, 3) := by decide +kernel
theorem dL_law_15 : decode cL_law 15 = .ok (.astore_n 2, 1) := by decide +kernel
theorem dL_law_16 : decode cL_law 16 = .ok (.iconst 0, 1) := by decide +kernel
theorem dL_law_17 : decode cL_law 17 = .ok (.istore_n 3, 1) := by decide +kernel
theorem dL_law_18 : decode cL_law 18 = .ok (.iload_n 3, 1) := by decide +kernel
theorem dL_law_19 : decode cL_law 19 = .ok (.bipush 6, 2) := by decide +kernel
theorem dL_law_21 : decode cL_law 21 = .ok (.if_icmp .ge 38, 3) := by decide +kernel
theorem dL_law_24 : decode cL_law 24 = .ok (.aload_n 1, 1) := by decide +kernel
theorem dL_law_25 : decode cL_law 25 = .ok (.invokevirtual 51, 3) := by decide +kernel
theorem dL_law_28 : decode cL_law 28 = .ok (.pop, 1) := by decide +kernel
theorem dL_law_29 : decode cL_law 29 = .ok (.aload_n 2, 1) := by decide +kernel
theorem dL_law_30 : decode cL_law 30 = .ok (.invokevirtual 51, 3) := by decide +kernel
theorem dL_law_33 : decode cL_law 33 = .ok (.pop, 1) := by decide +kernel
theorem dL_law_34 : decode cL_law 34 = .ok (.aload_n 1, 1) := by decide +kernel
theorem dL_law_35 : decode cL_law 35 = .ok (.aload_n 0, 1) := by decide +kernel
theorem dL_law_36 : decode cL_law 36 = .ok (.iload_n 3, 1) := by decide +kernel
theorem dL_law_37 : decode cL_law 37 = .ok (.sipush 1000, 3) := by decide +kernel
theorem dL_law_40 : decode cL_law 40 = .ok (.invokestatic 54, 3) := by decide +kernel
theorem dL_law_43 : decode cL_law 43 = .ok (.invokevirtual 58, 3) := by decide +kernel
theorem dL_law_46 : decode cL_law 46 = .ok (.pop, 1) := by decide +kernel
theorem dL_law_47 : decode cL_law 47 = .ok (.aload_n 2, 1) := by decide +kernel
theorem dL_law_48 : decode cL_law 48 = .ok (.iconst 0, 1) := by decide +kernel
theorem dL_law_49 : decode cL_law 49 = .ok (.invokevirtual 58, 3) := by decide +kernel
theorem dL_law_52 : decode cL_law 52 = .ok (.pop, 1) := by decide +kernel
theorem dL_law_53 : decode cL_law 53 = .ok (.iinc 3 1, 3) := by decide +kernel
theorem dL_law_56 : decode cL_law 56 = .ok (.goto (-38), 3) := by decide +kernel
theorem dL_law_59 : decode cL_law 59 = .ok (.iconst 4, 1) := by decide +kernel
theorem dL_law_60 : decode cL_law 60 = .ok (.newarray .int, 2) := by decide +kernel
theorem dL_law_62 : decode cL_law 62 = .ok (.dup, 1) := by decide +kernel
theorem dL_law_63 : decode cL_law 63 = .ok (.iconst 0, 1) := by decide +kernel
theorem dL_law_64 : decode cL_law 64 = .ok (.iconst 1, 1) := by decide +kernel
theorem dL_law_65 : decode cL_law 65 = .ok (.iastore, 1) := by decide +kernel
theorem dL_law_66 : decode cL_law 66 = .ok (.dup, 1) := by decide +kernel
theorem dL_law_67 : decode cL_law 67 = .ok (.iconst 1, 1) := by decide +kernel
theorem dL_law_68 : decode cL_law 68 = .ok (.iconst 2, 1) := by decide +kernel
theorem dL_law_69 : decode cL_law 69 = .ok (.iastore, 1) := by decide +kernel
theorem dL_law_70 : decode cL_law 70 = .ok (.dup, 1) := by decide +kernel
theorem dL_law_71 : decode cL_law 71 = .ok (.iconst 2, 1) := by decide +kernel
theorem dL_law_72 : decode cL_law 72 = .ok (.iconst 4, 1) := by decide +kernel
theorem dL_law_73 : decode cL_law 73 = .ok (.iastore, 1) := by decide +kernel
theorem dL_law_74 : decode cL_law 74 = .ok (.dup, 1) := by decide +kernel
theorem dL_law_75 : decode cL_law 75 = .ok (.iconst 3, 1) := by decide +kernel
theorem dL_law_76 : decode cL_law 76 = .ok (.bipush 8, 2) := by decide +kernel
theorem dL_law_78 : decode cL_law 78 = .ok (.iastore, 1) := by decide +kernel
theorem dL_law_79 : decode cL_law 79 = .ok (.astore_n 3, 1) := by decide +kernel
theorem dL_law_80 : decode cL_law 80 = .ok (.iconst 0, 1) := by decide +kernel
theorem dL_law_81 : decode cL_law 81 = .ok (.istore 4, 2) := by decide +kernel
theorem dL_law_83 : decode cL_law 83 = .ok (.iload 4, 2) := by decide +kernel
theorem dL_law_85 : decode cL_law 85 = .ok (.iconst 4, 1) := by decide +kernel
theorem dL_law_86 : decode cL_law 86 = .ok (.if_icmp .ge 19, 3) := by decide +kernel
theorem dL_law_89 : decode cL_law 89 = .ok (.aload_n 1, 1) := by decide +kernel
theorem dL_law_90 : decode cL_law 90 = .ok (.invokevirtual 62, 3) := by decide +kernel
theorem dL_law_93 : decode cL_law 93 = .ok (.pop, 1) := by decide +kernel
theorem dL_law_94 : decode cL_law 94 = .ok (.aload_n 2, 1) := by decide +kernel
theorem dL_law_95 : decode cL_law 95 = .ok (.invokevirtual 62, 3) := by decide +kernel
theorem dL_law_98 : decode cL_law 98 = .ok (.pop, 1) := by decide +kernel
theorem dL_law_99 : decode cL_law 99 = .ok (.iinc 4 1, 3) := by decide +kernel
theorem dL_law_102 : decode cL_law 102 = .ok (.goto (-19), 3) := by decide +kernel
theorem dL_law_105 : decode cL_law 105 = .ok (.new 65, 3) := by decide +kernel
theorem dL_law_108 : decode cL_law 108 = .ok (.dup, 1) := by decide +kernel
theorem dL_law_109 : decode cL_law 109 = .ok (.invokespecial 67, 3) := by decide +kernel
theorem dL_law_112 : decode cL_law 112 = .ok (.astore 4, 2) := by decide +kernel
theorem dL_law_114 : decode cL_law 114 = .ok (.bipush 8, 2) := by decide +kernel
theorem dL_law_116 : decode cL_law 116 = .ok (.anewarray 68, 3) := by decide +kernel
theorem dL_law_119 : decode cL_law 119 = .ok (.astore 5, 2) := by decide +kernel
theorem dL_law_121 : decode cL_law 121 = .ok (.iconst 0, 1) := by decide +kernel
theorem dL_law_122 : decode cL_law 122 = .ok (.istore 6, 2) := by decide +kernel
theorem dL_law_124 : decode cL_law 124 = .ok (.iconst 0, 1) := by decide +kernel
theorem dL_law_125 : decode cL_law 125 = .ok (.istore 7, 2) := by decide +kernel
theorem dL_law_127 : decode cL_law 127 = .ok (.iconst 0, 1) := by decide +kernel
theorem dL_law_128 : decode cL_law 128 = .ok (.istore 8, 2) := by decide +kernel
theorem dL_law_130 : decode cL_law 130 = .ok (.iload 8, 2) := by decide +kernel
theorem dL_law_132 : decode cL_law 132 = .ok (.bipush 48, 2) := by decide +kernel
theorem dL_law_134 : decode cL_law 134 = .ok (.if_icmp .ge 802, 3) := by decide +kernel
theorem dL_law_137 : decode cL_law 137 = .ok (.bipush 6, 2) := by decide +kernel
theorem dL_law_139 : decode cL_law 139 = .ok (.iconst 5, 1) := by decide +kernel
theorem dL_law_140 : decode cL_law 140 = .ok (.iload 8, 2) := by decide +kernel
theorem dL_law_142 : decode cL_law 142 = .ok (.imul, 1) := by decide +kernel
theorem dL_law_143 : decode cL_law 143 = .ok (.iadd, 1) := by decide +kernel
theorem dL_law_144 : decode cL_law 144 = .ok (.istore 9, 2) := by decide +kernel
theorem dL_law_146 : decode cL_law 146 = .ok (.aload_n 0, 1) := by decide +kernel
theorem dL_law_147 : decode cL_law 147 = .ok (.iload 9, 2) := by decide +kernel
theorem dL_law_149 : decode cL_law 149 = .ok (.bipush 6, 2) := by decide +kernel
theorem dL_law_151 : decode cL_law 151 = .ok (.invokestatic 54, 3) := by decide +kernel
theorem dL_law_154 : decode cL_law 154 = .ok (.istore 10, 2) := by decide +kernel
theorem dL_law_156 : decode cL_law 156 = .ok (.aload_n 0, 1) := by decide +kernel
theorem dL_law_157 : decode cL_law 157 = .ok (.iload 9, 2) := by decide +kernel
theorem dL_law_159 : decode cL_law 159 = .ok (.iconst 1, 1) := by decide +kernel
theorem dL_law_160 : decode cL_law 160 = .ok (.iadd, 1) := by decide +kernel
theorem dL_law_161 : decode cL_law 161 = .ok (.bipush 6, 2) := by decide +kernel
theorem dL_law_163 : decode cL_law 163 = .ok (.invokestatic 54, 3) := by decide +kernel
theorem dL_law_166 : decode cL_law 166 = .ok (.istore 11, 2) := by decide +kernel
theorem dL_law_168 : decode cL_law 168 = .ok (.aload_n 0, 1) := by decide +kernel
theorem dL_law_169 : decode cL_law 169 = .ok (.iload 9, 2) := by decide +kernel
theorem dL_law_171 : decode cL_law 171 = .ok (.iconst 2, 1) := by decide +kernel
theorem dL_law_172 : decode cL_law 172 = .ok (.iadd, 1) := by decide +kernel
theorem dL_law_173 : decode cL_law 173 = .ok (.bipush 8, 2) := by decide +kernel
theorem dL_law_175 : decode cL_law 175 = .ok (.invokestatic 54, 3) := by decide +kernel
theorem dL_law_178 : decode cL_law 178 = .ok (.tableswitch 315 0 4 #[34, 85, 113, 155, 217], 34) := by decide +kernel
theorem dL_law_212 : decode cL_law 212 = .ok (.iload 10, 2) := by decide +kernel
theorem dL_law_214 : decode cL_law 214 = .ok (.iload 11, 2) := by decide +kernel
theorem dL_law_216 : decode cL_law 216 = .ok (.if_icmp .eq 364, 3) := by decide +kernel
theorem dL_law_219 : decode cL_law 219 = .ok (.aload_n 0, 1) := by decide +kernel
theorem dL_law_220 : decode cL_law 220 = .ok (.iload 9, 2) := by decide +kernel
theorem dL_law_222 : decode cL_law 222 = .ok (.iconst 3, 1) := by decide +kernel
theorem dL_law_223 : decode cL_law 223 = .ok (.iadd, 1) := by decide +kernel
theorem dL_law_224 : decode cL_law 224 = .ok (.iconst 3, 1) := by decide +kernel
theorem dL_law_225 : decode cL_law 225 = .ok (.invokestatic 54, 3) := by decide +kernel
theorem dL_law_228 : decode cL_law 228 = .ok (.ifCond .le 7, 3) := by decide +kernel
theorem dL_law_231 : decode cL_law 231 = .ok (.iconst 1, 1) := by decide +kernel
theorem dL_law_232 : decode cL_law 232 = .ok (.goto 4, 3) := by decide +kernel
theorem dL_law_235 : decode cL_law 235 = .ok (.iconst 0, 1) := by decide +kernel
theorem dL_law_236 : decode cL_law 236 = .ok (.istore 12, 2) := by decide +kernel
theorem dL_law_238 : decode cL_law 238 = .ok (.aload_n 1, 1) := by decide +kernel
theorem dL_law_239 : decode cL_law 239 = .ok (.iload 10, 2) := by decide +kernel
theorem dL_law_241 : decode cL_law 241 = .ok (.iload 11, 2) := by decide +kernel
theorem dL_law_243 : decode cL_law 243 = .ok (.iload 12, 2) := by decide +kernel
theorem dL_law_245 : decode cL_law 245 = .ok (.invokevirtual 70, 3) := by decide +kernel
theorem dL_law_248 : decode cL_law 248 = .ok (.pop, 1) := by decide +kernel
theorem dL_law_249 : decode cL_law 249 = .ok (.aload_n 2, 1) := by decide +kernel
theorem dL_law_250 : decode cL_law 250 = .ok (.iload 10, 2) := by decide +kernel
theorem dL_law_252 : decode cL_law 252 = .ok (.iload 11, 2) := by decide +kernel
theorem dL_law_254 : decode cL_law 254 = .ok (.iload 12, 2) := by decide +kernel
theorem dL_law_256 : decode cL_law 256 = .ok (.invokevirtual 70, 3) := by decide +kernel
theorem dL_law_259 : decode cL_law 259 = .ok (.pop, 1) := by decide +kernel
theorem dL_law_260 : decode cL_law 260 = .ok (.goto 320, 3) := by decide +kernel
theorem dL_law_263 : decode cL_law 263 = .ok (.aload_n 0, 1) := by decide +kernel
theorem dL_law_264 : decode cL_law 264 = .ok (.iload 9, 2) := by decide +kernel
theorem dL_law_266 : decode cL_law 266 = .ok (.iconst 3, 1) := by decide +kernel
theorem dL_law_267 : decode cL_law 267 = .ok (.iadd, 1) := by decide +kernel
theorem dL_law_268 : decode cL_law 268 = .ok (.iconst 4, 1) := by decide +kernel
theorem dL_law_269 : decode cL_law 269 = .ok (.invokestatic 54, 3) := by decide +kernel
theorem dL_law_272 : decode cL_law 272 = .ok (.istore 12, 2) := by decide +kernel
theorem dL_law_274 : decode cL_law 274 = .ok (.aload_n 1, 1) := by decide +kernel
theorem dL_law_275 : decode cL_law 275 = .ok (.iload 12, 2) := by decide +kernel
theorem dL_law_277 : decode cL_law 277 = .ok (.invokevirtual 74, 3) := by decide +kernel
theorem dL_law_280 : decode cL_law 280 = .ok (.pop, 1) := by decide +kernel
theorem dL_law_281 : decode cL_law 281 = .ok (.aload_n 2, 1) := by decide +kernel
theorem dL_law_282 : decode cL_law 282 = .ok (.iload 12, 2) := by decide +kernel
theorem dL_law_284 : decode cL_law 284 = .ok (.invokevirtual 74, 3) := by decide +kernel
theorem dL_law_287 : decode cL_law 287 = .ok (.pop, 1) := by decide +kernel
theorem dL_law_288 : decode cL_law 288 = .ok (.goto 292, 3) := by decide +kernel
theorem dL_law_291 : decode cL_law 291 = .ok (.iload 7, 2) := by decide +kernel
theorem dL_law_293 : decode cL_law 293 = .ok (.bipush 10, 2) := by decide +kernel
theorem dL_law_295 : decode cL_law 295 = .ok (.if_icmp .ge 285, 3) := by decide +kernel
theorem dL_law_298 : decode cL_law 298 = .ok (.aload_n 1, 1) := by decide +kernel
theorem dL_law_299 : decode cL_law 299 = .ok (.iload 10, 2) := by decide +kernel
theorem dL_law_301 : decode cL_law 301 = .ok (.iload 11, 2) := by decide +kernel
theorem dL_law_303 : decode cL_law 303 = .ok (.invokevirtual 77, 3) := by decide +kernel
theorem dL_law_306 : decode cL_law 306 = .ok (.ifCond .ge 274, 3) := by decide +kernel
theorem dL_law_309 : decode cL_law 309 = .ok (.aload_n 1, 1) := by decide +kernel
theorem dL_law_310 : decode cL_law 310 = .ok (.iload 10, 2) := by decide +kernel
theorem dL_law_312 : decode cL_law 312 = .ok (.iload 11, 2) := by decide +kernel
theorem dL_law_314 : decode cL_law 314 = .ok (.invokevirtual 80, 3) := by decide +kernel
theorem dL_law_317 : decode cL_law 317 = .ok (.pop, 1) := by decide +kernel
theorem dL_law_318 : decode cL_law 318 = .ok (.aload_n 2, 1) := by decide +kernel
theorem dL_law_319 : decode cL_law 319 = .ok (.iload 10, 2) := by decide +kernel
theorem dL_law_321 : decode cL_law 321 = .ok (.iload 11, 2) := by decide +kernel
theorem dL_law_323 : decode cL_law 323 = .ok (.invokevirtual 80, 3) := by decide +kernel
theorem dL_law_326 : decode cL_law 326 = .ok (.pop, 1) := by decide +kernel
theorem dL_law_327 : decode cL_law 327 = .ok (.iinc 7 1, 3) := by decide +kernel
theorem dL_law_330 : decode cL_law 330 = .ok (.goto 250, 3) := by decide +kernel
theorem dL_law_333 : decode cL_law 333 = .ok (.iload 10, 2) := by decide +kernel
theorem dL_law_335 : decode cL_law 335 = .ok (.iload 11, 2) := by decide +kernel
theorem dL_law_337 : decode cL_law 337 = .ok (.if_icmp .eq 243, 3) := by decide +kernel
theorem dL_law_340 : decode cL_law 340 = .ok (.iload 6, 2) := by decide +kernel
theorem dL_law_342 : decode cL_law 342 = .ok (.bipush 8, 2) := by decide +kernel
theorem dL_law_344 : decode cL_law 344 = .ok (.if_icmp .ge 236, 3) := by decide +kernel
theorem dL_law_347 : decode cL_law 347 = .ok (.aload 5, 2) := by decide +kernel
theorem dL_law_349 : decode cL_law 349 = .ok (.iload 6, 2) := by decide +kernel
theorem dL_law_351 : decode cL_law 351 = .ok (.iconst 2, 1) := by decide +kernel
theorem dL_law_352 : decode cL_law 352 = .ok (.newarray .int, 2) := by decide +kernel
theorem dL_law_354 : decode cL_law 354 = .ok (.dup, 1) := by decide +kernel
theorem dL_law_355 : decode cL_law 355 = .ok (.iconst 0, 1) := by decide +kernel
theorem dL_law_356 : decode cL_law 356 = .ok (.iload 10, 2) := by decide +kernel
theorem dL_law_358 : decode cL_law 358 = .ok (.iastore, 1) := by decide +kernel
theorem dL_law_359 : decode cL_law 359 = .ok (.dup, 1) := by decide +kernel
theorem dL_law_360 : decode cL_law 360 = .ok (.iconst 1, 1) := by decide +kernel
theorem dL_law_361 : decode cL_law 361 = .ok (.iload 11, 2) := by decide +kernel
theorem dL_law_363 : decode cL_law 363 = .ok (.iastore, 1) := by decide +kernel
theorem dL_law_364 : decode cL_law 364 = .ok (.aastore, 1) := by decide +kernel
theorem dL_law_365 : decode cL_law 365 = .ok (.aload_n 1, 1) := by decide +kernel
theorem dL_law_366 : decode cL_law 366 = .ok (.iload 10, 2) := by decide +kernel
theorem dL_law_368 : decode cL_law 368 = .ok (.iload 11, 2) := by decide +kernel
theorem dL_law_370 : decode cL_law 370 = .ok (.sipush 999, 3) := by decide +kernel
theorem dL_law_373 : decode cL_law 373 = .ok (.invokevirtual 83, 3) := by decide +kernel
theorem dL_law_376 : decode cL_law 376 = .ok (.pop, 1) := by decide +kernel
theorem dL_law_377 : decode cL_law 377 = .ok (.aload_n 2, 1) := by decide +kernel
theorem dL_law_378 : decode cL_law 378 = .ok (.iload 10, 2) := by decide +kernel
theorem dL_law_380 : decode cL_law 380 = .ok (.iload 11, 2) := by decide +kernel
theorem dL_law_382 : decode cL_law 382 = .ok (.sipush 999, 3) := by decide +kernel
theorem dL_law_385 : decode cL_law 385 = .ok (.invokevirtual 83, 3) := by decide +kernel
theorem dL_law_388 : decode cL_law 388 = .ok (.pop, 1) := by decide +kernel
theorem dL_law_389 : decode cL_law 389 = .ok (.iinc 6 1, 3) := by decide +kernel
theorem dL_law_392 : decode cL_law 392 = .ok (.goto 188, 3) := by decide +kernel
theorem dL_law_395 : decode cL_law 395 = .ok (.iload 10, 2) := by decide +kernel
theorem dL_law_397 : decode cL_law 397 = .ok (.iconst 3, 1) := by decide +kernel
theorem dL_law_398 : decode cL_law 398 = .ok (.if_icmp .gt 182, 3) := by decide +kernel
theorem dL_law_401 : decode cL_law 401 = .ok (.iload 11, 2) := by decide +kernel
theorem dL_law_403 : decode cL_law 403 = .ok (.iconst 3, 1) := by decide +kernel
theorem dL_law_404 : decode cL_law 404 = .ok (.if_icmp .gt 176, 3) := by decide +kernel
theorem dL_law_407 : decode cL_law 407 = .ok (.iload 10, 2) := by decide +kernel
theorem dL_law_409 : decode cL_law 409 = .ok (.iload 11, 2) := by decide +kernel
theorem dL_law_411 : decode cL_law 411 = .ok (.if_icmp .ne 6, 3) := by decide +kernel
theorem dL_law_414 : decode cL_law 414 = .ok (.goto 166, 3) := by decide +kernel
theorem dL_law_417 : decode cL_law 417 = .ok (.aload_n 1, 1) := by decide +kernel
theorem dL_law_418 : decode cL_law 418 = .ok (.iload 10, 2) := by decide +kernel
theorem dL_law_420 : decode cL_law 420 = .ok (.iload 11, 2) := by decide +kernel
theorem dL_law_422 : decode cL_law 422 = .ok (.invokevirtual 87, 3) := by decide +kernel
theorem dL_law_425 : decode cL_law 425 = .ok (.istore 12, 2) := by decide +kernel
theorem dL_law_427 : decode cL_law 427 = .ok (.iload 12, 2) := by decide +kernel
theorem dL_law_429 : decode cL_law 429 = .ok (.aload_n 2, 1) := by decide +kernel
theorem dL_law_430 : decode cL_law 430 = .ok (.iload 10, 2) := by decide +kernel
theorem dL_law_432 : decode cL_law 432 = .ok (.iload 11, 2) := by decide +kernel
theorem dL_law_434 : decode cL_law 434 = .ok (.invokevirtual 87, 3) := by decide +kernel
theorem dL_law_437 : decode cL_law 437 = .ok (.if_icmp .eq 5, 3) := by decide +kernel
theorem dL_law_440 : decode cL_law 440 = .ok (.iconst 0, 1) := by decide +kernel
theorem dL_law_441 : decode cL_law 441 = .ok (.ireturn, 1) := by decide +kernel
theorem dL_law_442 : decode cL_law 442 = .ok (.aload_n 3, 1) := by decide +kernel
theorem dL_law_443 : decode cL_law 443 = .ok (.iload 10, 2) := by decide +kernel
theorem dL_law_445 : decode cL_law 445 = .ok (.iaload, 1) := by decide +kernel
theorem dL_law_446 : decode cL_law 446 = .ok (.aload_n 3, 1) := by decide +kernel
theorem dL_law_447 : decode cL_law 447 = .ok (.iload 11, 2) := by decide +kernel
theorem dL_law_449 : decode cL_law 449 = .ok (.iaload, 1) := by decide +kernel
theorem dL_law_450 : decode cL_law 450 = .ok (.ior, 1) := by decide +kernel
theorem dL_law_451 : decode cL_law 451 = .ok (.istore 13, 2) := by decide +kernel
theorem dL_law_453 : decode cL_law 453 = .ok (.iconst 0, 1) := by decide +kernel
theorem dL_law_454 : decode cL_law 454 = .ok (.istore 14, 2) := by decide +kernel
theorem dL_law_456 : decode cL_law 456 = .ok (.iload 14, 2) := by decide +kernel
theorem dL_law_458 : decode cL_law 458 = .ok (.iconst 4, 1) := by decide +kernel
theorem dL_law_459 : decode cL_law 459 = .ok (.if_icmp .ge 31, 3) := by decide +kernel
theorem dL_law_462 : decode cL_law 462 = .ok (.iload 12, 2) := by decide +kernel
theorem dL_law_464 : decode cL_law 464 = .ok (.ifCond .eq 26, 3) := by decide +kernel
theorem dL_law_467 : decode cL_law 467 = .ok (.iload 13, 2) := by decide +kernel
theorem dL_law_469 : decode cL_law 469 = .ok (.iload 14, 2) := by decide +kernel
theorem dL_law_471 : decode cL_law 471 = .ok (.ishr, 1) := by decide +kernel
theorem dL_law_472 : decode cL_law 472 = .ok (.iconst 1, 1) := by decide +kernel
theorem dL_law_473 : decode cL_law 473 = .ok (.iand, 1) := by decide +kernel
theorem dL_law_474 : decode cL_law 474 = .ok (.iconst 1, 1) := by decide +kernel
theorem dL_law_475 : decode cL_law 475 = .ok (.if_icmp .ne 9, 3) := by decide +kernel
theorem dL_law_478 : decode cL_law 478 = .ok (.aload_n 3, 1) := by decide +kernel
theorem dL_law_479 : decode cL_law 479 = .ok (.iload 14, 2) := by decide +kernel
theorem dL_law_481 : decode cL_law 481 = .ok (.iload 13, 2) := by decide +kernel
theorem dL_law_483 : decode cL_law 483 = .ok (.iastore, 1) := by decide +kernel
theorem dL_law_484 : decode cL_law 484 = .ok (.iinc 14 1, 3) := by decide +kernel
theorem dL_law_487 : decode cL_law 487 = .ok (.goto (-31), 3) := by decide +kernel
theorem dL_law_490 : decode cL_law 490 = .ok (.goto 90, 3) := by decide +kernel
theorem dL_law_493 : decode cL_law 493 = .ok (.iconst 1, 1) := by decide +kernel
theorem dL_law_494 : decode cL_law 494 = .ok (.aload_n 0, 1) := by decide +kernel
theorem dL_law_495 : decode cL_law 495 = .ok (.iload 9, 2) := by decide +kernel
theorem dL_law_497 : decode cL_law 497 = .ok (.iconst 3, 1) := by decide +kernel
theorem dL_law_498 : decode cL_law 498 = .ok (.iadd, 1) := by decide +kernel
theorem dL_law_499 : decode cL_law 499 = .ok (.bipush 63, 2) := by decide +kernel
theorem dL_law_501 : decode cL_law 501 = .ok (.invokestatic 54, 3) := by decide +kernel
theorem dL_law_504 : decode cL_law 504 = .ok (.iadd, 1) := by decide +kernel
theorem dL_law_505 : decode cL_law 505 = .ok (.istore 12, 2) := by decide +kernel
theorem dL_law_507 : decode cL_law 507 = .ok (.aload_n 1, 1) := by decide +kernel
theorem dL_law_508 : decode cL_law 508 = .ok (.iload 10, 2) := by decide +kernel
theorem dL_law_510 : decode cL_law 510 = .ok (.iconst 4, 1) := by decide +kernel
theorem dL_law_511 : decode cL_law 511 = .ok (.irem, 1) := by decide +kernel
theorem dL_law_512 : decode cL_law 512 = .ok (.iload 12, 2) := by decide +kernel
theorem dL_law_514 : decode cL_law 514 = .ok (.invokevirtual 91, 3) := by decide +kernel
theorem dL_law_517 : decode cL_law 517 = .ok (.ifCond .lt 7, 3) := by decide +kernel
theorem dL_law_520 : decode cL_law 520 = .ok (.iconst 1, 1) := by decide +kernel
theorem dL_law_521 : decode cL_law 521 = .ok (.goto 4, 3) := by decide +kernel
theorem dL_law_524 : decode cL_law 524 = .ok (.iconst 0, 1) := by decide +kernel
theorem dL_law_525 : decode cL_law 525 = .ok (.istore 13, 2) := by decide +kernel
theorem dL_law_527 : decode cL_law 527 = .ok (.iload 13, 2) := by decide +kernel
theorem dL_law_529 : decode cL_law 529 = .ok (.aload_n 2, 1) := by decide +kernel
theorem dL_law_530 : decode cL_law 530 = .ok (.iload 10, 2) := by decide +kernel
theorem dL_law_532 : decode cL_law 532 = .ok (.iconst 4, 1) := by decide +kernel
theorem dL_law_533 : decode cL_law 533 = .ok (.irem, 1) := by decide +kernel
theorem dL_law_534 : decode cL_law 534 = .ok (.iload 12, 2) := by decide +kernel
theorem dL_law_536 : decode cL_law 536 = .ok (.invokevirtual 91, 3) := by decide +kernel
theorem dL_law_539 : decode cL_law 539 = .ok (.ifCond .lt 7, 3) := by decide +kernel
theorem dL_law_542 : decode cL_law 542 = .ok (.iconst 1, 1) := by decide +kernel

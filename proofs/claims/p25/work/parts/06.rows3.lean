theorem dX5_needDot_12 : decode cX5_needDot 12 = .ok (.new 224, 3) := by decide +kernel
theorem dX5_needDot_15 : decode cX5_needDot 15 = .ok (.dup, 1) := by decide +kernel
theorem dX5_needDot_16 : decode cX5_needDot 16 = .ok (.ldc 226, 2) := by decide +kernel
theorem dX5_needDot_18 : decode cX5_needDot 18 = .ok (.invokespecial 228, 3) := by decide +kernel
theorem dX5_needDot_21 : decode cX5_needDot 21 = .ok (.athrow, 1) := by decide +kernel
theorem dX5_needDot_22 : decode cX5_needDot 22 = .ok (.return_, 1) := by decide +kernel
set_option maxRecDepth 20000 in
theorem ggX5_needLine_X5_isLine : GoodIn wsX5_needLine wsX5_isLine := goodIn_r _ [7, 8, 9, 10, 11, 12, 13, 14, 15, 16, 17, 18, 19, 20, 21, 22, 23, 24] (by decide +kernel) (by decide +kernel)
set_option maxRecDepth 20000 in
theorem gX5_needLine_X5_isLine : GoodIn wsX5_needLine (wsV RX5 157 RX5 yX5_isLine wsX5_isLine) := goodIn_app (goodIn_of _ (by decide +kernel)) ggX5_needLine_X5_isLine
theorem dX5_needLine_0 : decode cX5_needLine 0 = .ok (.aload_n 0, 1) := by decide +kernel
theorem dX5_needLine_1 : decode cX5_needLine 1 = .ok (.iload_n 1, 1) := by decide +kernel
theorem dX5_needLine_2 : decode cX5_needLine 2 = .ok (.invokevirtual 157, 3) := by decide +kernel
theorem dX5_needLine_5 : decode cX5_needLine 5 = .ok (.ifCond .ne 14, 3) := by decide +kernel
theorem dX5_needLine_8 : decode cX5_needLine 8 = .ok (.new 224, 3) := by decide +kernel
theorem dX5_needLine_11 : decode cX5_needLine 11 = .ok (.dup, 1) := by decide +kernel
theorem dX5_needLine_12 : decode cX5_needLine 12 = .ok (.ldc_w 285, 3) := by decide +kernel
theorem dX5_needLine_15 : decode cX5_needLine 15 = .ok (.invokespecial 228, 3) := by decide +kernel
theorem dX5_needLine_18 : decode cX5_needLine 18 = .ok (.athrow, 1) := by decide +kernel
theorem dX5_needLine_19 : decode cX5_needLine 19 = .ok (.return_, 1) := by decide +kernel
theorem dX5_isLine_0 : decode cX5_isLine 0 = .ok (.iload_n 1, 1) := by decide +kernel
theorem dX5_isLine_1 : decode cX5_isLine 1 = .ok (.ifCond .lt 18, 3) := by decide +kernel
theorem dX5_isLine_4 : decode cX5_isLine 4 = .ok (.iload_n 1, 1) := by decide +kernel
theorem dX5_isLine_5 : decode cX5_isLine 5 = .ok (.aload_n 0, 1) := by decide +kernel
theorem dX5_isLine_6 : decode cX5_isLine 6 = .ok (.getfield 19, 3) := by decide +kernel
theorem dX5_isLine_9 : decode cX5_isLine 9 = .ok (.getfield 95, 3) := by decide +kernel
theorem dX5_isLine_12 : decode cX5_isLine 12 = .ok (.if_icmp .ge 7, 3) := by decide +kernel
theorem dX5_isLine_15 : decode cX5_isLine 15 = .ok (.iconst 1, 1) := by decide +kernel
theorem dX5_isLine_16 : decode cX5_isLine 16 = .ok (.goto 4, 3) := by decide +kernel
theorem dX5_isLine_19 : decode cX5_isLine 19 = .ok (.iconst 0, 1) := by decide +kernel
theorem dX5_isLine_20 : decode cX5_isLine 20 = .ok (.ireturn, 1) := by decide +kernel
theorem dX5_isHeight_0 : decode cX5_isHeight 0 = .ok (.iload_n 0, 1) := by decide +kernel
theorem dX5_isHeight_1 : decode cX5_isHeight 1 = .ok (.ifCond .lt 12, 3) := by decide +kernel
theorem dX5_isHeight_4 : decode cX5_isHeight 4 = .ok (.iload_n 0, 1) := by decide +kernel
theorem dX5_isHeight_5 : decode cX5_isHeight 5 = .ok (.iconst 5, 1) := by decide +kernel
theorem dX5_isHeight_6 : decode cX5_isHeight 6 = .ok (.if_icmp .ge 7, 3) := by decide +kernel
theorem dX5_isHeight_9 : decode cX5_isHeight 9 = .ok (.iconst 1, 1) := by decide +kernel
theorem dX5_isHeight_10 : decode cX5_isHeight 10 = .ok (.goto 4, 3) := by decide +kernel
theorem dX5_isHeight_13 : decode cX5_isHeight 13 = .ok (.iconst 0, 1) := by decide +kernel
theorem dX5_isHeight_14 : decode cX5_isHeight 14 = .ok (.ireturn, 1) := by decide +kernel
theorem dX5_isColumnSet_0 : decode cX5_isColumnSet 0 = .ok (.iload_n 0, 1) := by decide +kernel
theorem dX5_isColumnSet_1 : decode cX5_isColumnSet 1 = .ok (.ifCond .lt 13, 3) := by decide +kernel
theorem dX5_isColumnSet_4 : decode cX5_isColumnSet 4 = .ok (.iload_n 0, 1) := by decide +kernel
theorem dX5_isColumnSet_5 : decode cX5_isColumnSet 5 = .ok (.bipush 31, 2) := by decide +kernel
theorem dX5_isColumnSet_7 : decode cX5_isColumnSet 7 = .ok (.if_icmp .gt 7, 3) := by decide +kernel
theorem dX5_isColumnSet_10 : decode cX5_isColumnSet 10 = .ok (.iconst 1, 1) := by decide +kernel
theorem dX5_isColumnSet_11 : decode cX5_isColumnSet 11 = .ok (.goto 4, 3) := by decide +kernel
theorem dX5_isColumnSet_14 : decode cX5_isColumnSet 14 = .ok (.iconst 0, 1) := by decide +kernel
theorem dX5_isColumnSet_15 : decode cX5_isColumnSet 15 = .ok (.ireturn, 1) := by decide +kernel
set_option maxRecDepth 20000 in
theorem ggX5_columnFact_X5_setIn : GoodIn wsX5_columnFact wsX5_setIn := goodIn_r _ [5] (by decide +kernel) (by decide +kernel)
set_option maxRecDepth 20000 in
theorem gX5_columnFact_X5_setIn : GoodIn wsX5_columnFact (va_wsS RX5 291 yX5_setIn wsX5_setIn) := goodIn_app (goodIn_of _ (by decide +kernel)) ggX5_columnFact_X5_setIn
set_option maxRecDepth 20000 in
theorem ggX5_columnFact_X5_at : GoodIn wsX5_columnFact wsX5_at := goodIn_r _ [8] (by decide +kernel) (by decide +kernel)
set_option maxRecDepth 20000 in
theorem gX5_columnFact_X5_at : GoodIn wsX5_columnFact (va_wsS RX5 127 yX5_at wsX5_at) := goodIn_app (goodIn_of _ (by decide +kernel)) ggX5_columnFact_X5_at
set_option maxRecDepth 20000 in
theorem ggX5_columnFact_J6_bitCount_0f7a4 : GoodIn wsX5_columnFact wsJ6_bitCount_0f7a4 := goodIn_r _ [12, 13, 14, 15] (by decide +kernel) (by decide +kernel)
set_option maxRecDepth 20000 in
theorem gX5_columnFact_J6_bitCount_0f7a4 : GoodIn wsX5_columnFact (va_wsS RX5 297 yJ6_bitCount_0f7a4 wsJ6_bitCount_0f7a4) := goodIn_app (goodIn_of _ (by decide +kernel)) ggX5_columnFact_J6_bitCount_0f7a4
theorem dX5_columnFact_0 : decode cX5_columnFact 0 = .ok (.iload_n 2, 1) := by decide +kernel
theorem dX5_columnFact_1 : decode cX5_columnFact 1 = .ok (.ifCond .ne 15, 3) := by decide +kernel
theorem dX5_columnFact_4 : decode cX5_columnFact 4 = .ok (.aload_n 0, 1) := by decide +kernel
theorem dX5_columnFact_5 : decode cX5_columnFact 5 = .ok (.getfield 10, 3) := by decide +kernel
theorem dX5_columnFact_8 : decode cX5_columnFact 8 = .ok (.getfield 287, 3) := by decide +kernel
theorem dX5_columnFact_11 : decode cX5_columnFact 11 = .ok (.iload_n 1, 1) := by decide +kernel
theorem dX5_columnFact_12 : decode cX5_columnFact 12 = .ok (.invokestatic 291, 3) := by decide +kernel
theorem dX5_columnFact_15 : decode cX5_columnFact 15 = .ok (.ireturn, 1) := by decide +kernel
theorem dX5_columnFact_16 : decode cX5_columnFact 16 = .ok (.iload_n 2, 1) := by decide +kernel
theorem dX5_columnFact_17 : decode cX5_columnFact 17 = .ok (.iconst 1, 1) := by decide +kernel
theorem dX5_columnFact_18 : decode cX5_columnFact 18 = .ok (.if_icmp .ne 17, 3) := by decide +kernel
theorem dX5_columnFact_21 : decode cX5_columnFact 21 = .ok (.aload_n 0, 1) := by decide +kernel
theorem dX5_columnFact_22 : decode cX5_columnFact 22 = .ok (.getfield 10, 3) := by decide +kernel
theorem dX5_columnFact_25 : decode cX5_columnFact 25 = .ok (.getfield 123, 3) := by decide +kernel
theorem dX5_columnFact_28 : decode cX5_columnFact 28 = .ok (.iload_n 1, 1) := by decide +kernel
theorem dX5_columnFact_29 : decode cX5_columnFact 29 = .ok (.invokestatic 127, 3) := by decide +kernel
theorem dX5_columnFact_32 : decode cX5_columnFact 32 = .ok (.goto 17, 3) := by decide +kernel
theorem dX5_columnFact_35 : decode cX5_columnFact 35 = .ok (.aload_n 0, 1) := by decide +kernel
theorem dX5_columnFact_36 : decode cX5_columnFact 36 = .ok (.getfield 10, 3) := by decide +kernel
theorem dX5_columnFact_39 : decode cX5_columnFact 39 = .ok (.getfield 294, 3) := by decide +kernel
theorem dX5_columnFact_42 : decode cX5_columnFact 42 = .ok (.iload_n 1, 1) := by decide +kernel
theorem dX5_columnFact_43 : decode cX5_columnFact 43 = .ok (.invokestatic 291, 3) := by decide +kernel
theorem dX5_columnFact_46 : decode cX5_columnFact 46 = .ok (.invokestatic 297, 3) := by decide +kernel
theorem dX5_columnFact_49 : decode cX5_columnFact 49 = .ok (.ireturn, 1) := by decide +kernel
set_option maxRecDepth 20000 in
theorem ggX5_lineFact_X5_at : GoodIn wsX5_lineFact wsX5_at := goodIn_r _ [7] (by decide +kernel) (by decide +kernel)
set_option maxRecDepth 20000 in
theorem gX5_lineFact_X5_at : GoodIn wsX5_lineFact (va_wsS RX5 127 yX5_at wsX5_at) := goodIn_app (goodIn_of _ (by decide +kernel)) ggX5_lineFact_X5_at
set_option maxRecDepth 20000 in
theorem ggX5_lineFact_X5_bestOffset : GoodIn wsX5_lineFact wsX5_bestOffset := goodIn_r _ [11, 12, 13, 14, 6, 15, 1, 2, 16, 17, 18, 19, 20, 21, 22, 23, 24, 25, 26, 27, 28, 29, 30, 31, 55, 56, 57, 58, 59, 60, 61, 62, 63, 64, 65, 66, 67, 68, 69, 70, 71, 72, 73, 74, 75, 76] (by decide +kernel) (by decide +kernel)
set_option maxRecDepth 20000 in
theorem gX5_lineFact_X5_bestOffset : GoodIn wsX5_lineFact (wsV RX5 308 RX5 yX5_bestOffset wsX5_bestOffset) := goodIn_app (goodIn_of _ (by decide +kernel)) ggX5_lineFact_X5_bestOffset
set_option maxRecDepth 20000 in
theorem ggX5_lineFact_X5_leastHarm : GoodIn wsX5_lineFact wsX5_leastHarm := goodIn_r _ [35, 8, 9, 10, 6, 11, 12, 13, 14, 15, 1, 2, 16, 17, 18, 19, 20, 21, 22, 23, 24, 25, 26, 27, 28, 29, 30, 31, 55, 56, 57, 58, 59, 60, 61, 62, 63, 64, 65, 66, 67, 68, 69, 70, 71, 72, 73, 74, 75, 76] (by decide +kernel) (by decide +kernel)
set_option maxRecDepth 20000 in
theorem gX5_lineFact_X5_leastHarm : GoodIn wsX5_lineFact (wsV RX5 311 RX5 yX5_leastHarm wsX5_leastHarm) := goodIn_app (goodIn_of _ (by decide +kernel)) ggX5_lineFact_X5_leastHarm
set_option maxRecDepth 20000 in
theorem ggX5_lineFact_X5_distance : GoodIn wsX5_lineFact wsX5_distance := goodIn_r _ [39, 1, 12, 13, 14, 6, 15, 2, 20, 21, 22, 23, 24, 25, 26, 27, 28, 29, 30, 31, 40, 41, 42, 55, 56, 57, 58, 59, 60, 61, 62, 63, 64, 65, 66, 67, 68, 69, 70, 71, 72, 73, 74, 75, 76] (by decide +kernel) (by decide +kernel)
set_option maxRecDepth 20000 in
theorem gX5_lineFact_X5_distance : GoodIn wsX5_lineFact (wsV RX5 254 RX5 yX5_distance wsX5_distance) := goodIn_app (goodIn_of _ (by decide +kernel)) ggX5_lineFact_X5_distance
set_option maxRecDepth 20000 in
theorem ggX5_lineFact_X5_says : GoodIn wsX5_lineFact wsX5_says := goodIn_r _ [46, 36, 37, 38, 6, 39, 1, 12, 13, 14, 15, 2, 20, 21, 22, 23, 24, 25, 26, 27, 28, 29, 30, 31, 40, 41, 42, 55, 56, 57, 58, 59, 60, 61, 62, 63, 64, 65, 66, 67, 68, 69, 70, 71, 72, 73, 74, 75, 76] (by decide +kernel) (by decide +kernel)
set_option maxRecDepth 20000 in
theorem gX5_lineFact_X5_says : GoodIn wsX5_lineFact (wsV RX5 314 RX5 yX5_says wsX5_says) := goodIn_app (goodIn_of _ (by decide +kernel)) ggX5_lineFact_X5_says
set_option maxRecDepth 20000 in
theorem ggX5_lineFact_X2_flips : GoodIn wsX5_lineFact wsX2_flips := goodIn_r _ [50, 51, 52, 53, 54, 26, 27, 28, 29, 30, 31, 77, 78, 79, 80, 81, 82, 83, 84] (by decide +kernel) (by decide +kernel)
set_option maxRecDepth 20000 in
theorem gX5_lineFact_X2_flips_n321 : GoodIn wsX5_lineFact (wsX2_flips) := ggX5_lineFact_X2_flips
theorem dX5_lineFact_0 : decode cX5_lineFact 0 = .ok (.iload_n 2, 1) := by decide +kernel
theorem dX5_lineFact_1 : decode cX5_lineFact 1 = .ok (.tableswitch 121 0 6 #[43, 55, 67, 73, 79, 92, 113], 43) := by decide +kernel
theorem dX5_lineFact_44 : decode cX5_lineFact 44 = .ok (.aload_n 0, 1) := by decide +kernel
theorem dX5_lineFact_45 : decode cX5_lineFact 45 = .ok (.getfield 19, 3) := by decide +kernel
theorem dX5_lineFact_48 : decode cX5_lineFact 48 = .ok (.getfield 302, 3) := by decide +kernel
theorem dX5_lineFact_51 : decode cX5_lineFact 51 = .ok (.iload_n 1, 1) := by decide +kernel
theorem dX5_lineFact_52 : decode cX5_lineFact 52 = .ok (.invokestatic 127, 3) := by decide +kernel
theorem dX5_lineFact_55 : decode cX5_lineFact 55 = .ok (.ireturn, 1) := by decide +kernel
theorem dX5_lineFact_56 : decode cX5_lineFact 56 = .ok (.aload_n 0, 1) := by decide +kernel
theorem dX5_lineFact_57 : decode cX5_lineFact 57 = .ok (.getfield 19, 3) := by decide +kernel
theorem dX5_lineFact_60 : decode cX5_lineFact 60 = .ok (.getfield 305, 3) := by decide +kernel
theorem dX5_lineFact_63 : decode cX5_lineFact 63 = .ok (.iload_n 1, 1) := by decide +kernel
theorem dX5_lineFact_64 : decode cX5_lineFact 64 = .ok (.invokestatic 127, 3) := by decide +kernel
theorem dX5_lineFact_67 : decode cX5_lineFact 67 = .ok (.ireturn, 1) := by decide +kernel
theorem dX5_lineFact_68 : decode cX5_lineFact 68 = .ok (.aload_n 0, 1) := by decide +kernel
theorem dX5_lineFact_69 : decode cX5_lineFact 69 = .ok (.iload_n 1, 1) := by decide +kernel
theorem dX5_lineFact_70 : decode cX5_lineFact 70 = .ok (.invokevirtual 308, 3) := by decide +kernel
theorem dX5_lineFact_73 : decode cX5_lineFact 73 = .ok (.ireturn, 1) := by decide +kernel
theorem dX5_lineFact_74 : decode cX5_lineFact 74 = .ok (.aload_n 0, 1) := by decide +kernel
theorem dX5_lineFact_75 : decode cX5_lineFact 75 = .ok (.iload_n 1, 1) := by decide +kernel
theorem dX5_lineFact_76 : decode cX5_lineFact 76 = .ok (.invokevirtual 311, 3) := by decide +kernel
theorem dX5_lineFact_79 : decode cX5_lineFact 79 = .ok (.ireturn, 1) := by decide +kernel
theorem dX5_lineFact_80 : decode cX5_lineFact 80 = .ok (.aload_n 0, 1) := by decide +kernel
theorem dX5_lineFact_81 : decode cX5_lineFact 81 = .ok (.aload_n 0, 1) := by decide +kernel
theorem dX5_lineFact_82 : decode cX5_lineFact 82 = .ok (.getfield 10, 3) := by decide +kernel
theorem dX5_lineFact_85 : decode cX5_lineFact 85 = .ok (.getfield 287, 3) := by decide +kernel
theorem dX5_lineFact_88 : decode cX5_lineFact 88 = .ok (.iload_n 1, 1) := by decide +kernel
theorem dX5_lineFact_89 : decode cX5_lineFact 89 = .ok (.invokevirtual 254, 3) := by decide +kernel
theorem dX5_lineFact_92 : decode cX5_lineFact 92 = .ok (.ireturn, 1) := by decide +kernel
theorem dX5_lineFact_93 : decode cX5_lineFact 93 = .ok (.aload_n 0, 1) := by decide +kernel
theorem dX5_lineFact_94 : decode cX5_lineFact 94 = .ok (.aload_n 0, 1) := by decide +kernel
theorem dX5_lineFact_95 : decode cX5_lineFact 95 = .ok (.getfield 10, 3) := by decide +kernel
theorem dX5_lineFact_98 : decode cX5_lineFact 98 = .ok (.getfield 287, 3) := by decide +kernel
theorem dX5_lineFact_101 : decode cX5_lineFact 101 = .ok (.iload_n 1, 1) := by decide +kernel
theorem dX5_lineFact_102 : decode cX5_lineFact 102 = .ok (.invokevirtual 314, 3) := by decide +kernel
theorem dX5_lineFact_105 : decode cX5_lineFact 105 = .ok (.ifCond .eq 7, 3) := by decide +kernel
theorem dX5_lineFact_108 : decode cX5_lineFact 108 = .ok (.iconst 1, 1) := by decide +kernel
theorem dX5_lineFact_109 : decode cX5_lineFact 109 = .ok (.goto 4, 3) := by decide +kernel
theorem dX5_lineFact_112 : decode cX5_lineFact 112 = .ok (.iconst 0, 1) := by decide +kernel
theorem dX5_lineFact_113 : decode cX5_lineFact 113 = .ok (.ireturn, 1) := by decide +kernel
theorem dX5_lineFact_114 : decode cX5_lineFact 114 = .ok (.aload_n 0, 1) := by decide +kernel
theorem dX5_lineFact_115 : decode cX5_lineFact 115 = .ok (.getfield 26, 3) := by decide +kernel
theorem dX5_lineFact_118 : decode cX5_lineFact 118 = .ok (.getfield 318, 3) := by decide +kernel
theorem dX5_lineFact_121 : decode cX5_lineFact 121 = .ok (.ireturn, 1) := by decide +kernel
theorem dX5_lineFact_122 : decode cX5_lineFact 122 = .ok (.aload_n 0, 1) := by decide +kernel
theorem dX5_lineFact_123 : decode cX5_lineFact 123 = .ok (.getfield 26, 3) := by decide +kernel
theorem dX5_lineFact_126 : decode cX5_lineFact 126 = .ok (.invokevirtual 321, 3) := by decide +kernel
theorem dX5_lineFact_129 : decode cX5_lineFact 129 = .ok (.ireturn, 1) := by decide +kernel
set_option maxRecDepth 20000 in
theorem ggX5_signFact_X5_readAs : GoodIn wsX5_signFact wsX5_readAs := goodIn_r _ [13, 4, 3, 14, 15, 16, 12, 17, 18, 19, 20, 21, 1, 22, 23, 24, 25, 26, 27, 28, 29, 30, 31, 32, 33, 34, 35, 36, 67, 68, 69, 70, 71, 72, 73, 74, 75, 82, 83, 84, 85, 86, 87, 88, 76, 77, 78, 79, 80, 81] (by decide +kernel) (by decide +kernel)
set_option maxRecDepth 20000 in
theorem gX5_signFact_X5_readAs : GoodIn wsX5_signFact (wsV RX5 324 RX5 yX5_readAs wsX5_readAs) := goodIn_app (goodIn_of _ (by decide +kernel)) ggX5_signFact_X5_readAs
set_option maxRecDepth 20000 in
theorem ggX5_signFact_J13_bitCount_95d88 : GoodIn wsX5_signFact wsJ13_bitCount_95d88 := goodIn_r _ [30, 31, 32, 33] (by decide +kernel) (by decide +kernel)
set_option maxRecDepth 20000 in
theorem gX5_signFact_J13_bitCount_95d88 : GoodIn wsX5_signFact (va_wsS RX5 328 yJ13_bitCount_95d88 wsJ13_bitCount_95d88) := goodIn_app (goodIn_of _ (by decide +kernel)) ggX5_signFact_J13_bitCount_95d88
set_option maxRecDepth 20000 in
theorem ggX5_signFact_X0_allFlips : GoodIn wsX5_signFact wsX0_allFlips := goodIn_r _ [40, 41, 42, 43, 44, 38, 45, 46, 47, 12, 48, 49, 50, 76, 77, 78, 79, 80, 81] (by decide +kernel) (by decide +kernel)
set_option maxRecDepth 20000 in
theorem gX5_signFact_X0_allFlips_n332 : GoodIn wsX5_signFact (wsX0_allFlips) := ggX5_signFact_X0_allFlips
set_option maxRecDepth 20000 in
theorem ggX5_signFact_X4_fact : GoodIn wsX5_signFact wsX4_fact := goodIn_r _ [54, 55, 56, 57, 58, 59, 89, 90, 91, 92, 93] (by decide +kernel) (by decide +kernel)
set_option maxRecDepth 20000 in
theorem gX5_signFact_X4_fact_n338 : GoodIn wsX5_signFact (wsX4_fact) := ggX5_signFact_X4_fact
set_option maxRecDepth 20000 in
theorem ggX5_signFact_X3_fact : GoodIn wsX5_signFact wsX3_fact := goodIn_r _ [63, 64, 65, 66, 94, 95, 96, 97, 98] (by decide +kernel) (by decide +kernel)
set_option maxRecDepth 20000 in
theorem gX5_signFact_X3_fact_n341 : GoodIn wsX5_signFact (wsX3_fact) := ggX5_signFact_X3_fact
theorem dX5_signFact_0 : decode cX5_signFact 0 = .ok (.iload_n 1, 1) := by decide +kernel
theorem dX5_signFact_1 : decode cX5_signFact 1 = .ok (.tableswitch 162 0 17 #[87, 95, 100, 105, 113, 121, 133, 144, 152, 162, 162, 162, 162, 162, 162, 162, 162, 157], 87) := by decide +kernel
theorem dX5_signFact_88 : decode cX5_signFact 88 = .ok (.aload_n 0, 1) := by decide +kernel
theorem dX5_signFact_89 : decode cX5_signFact 89 = .ok (.getfield 10, 3) := by decide +kernel
theorem dX5_signFact_92 : decode cX5_signFact 92 = .ok (.getfield 61, 3) := by decide +kernel
theorem dX5_signFact_95 : decode cX5_signFact 95 = .ok (.ireturn, 1) := by decide +kernel
theorem dX5_signFact_96 : decode cX5_signFact 96 = .ok (.aload_n 0, 1) := by decide +kernel
theorem dX5_signFact_97 : decode cX5_signFact 97 = .ok (.getfield 44, 3) := by decide +kernel
theorem dX5_signFact_100 : decode cX5_signFact 100 = .ok (.ireturn, 1) := by decide +kernel
theorem dX5_signFact_101 : decode cX5_signFact 101 = .ok (.aload_n 0, 1) := by decide +kernel
theorem dX5_signFact_102 : decode cX5_signFact 102 = .ok (.getfield 48, 3) := by decide +kernel
theorem dX5_signFact_105 : decode cX5_signFact 105 = .ok (.ireturn, 1) := by decide +kernel
theorem dX5_signFact_106 : decode cX5_signFact 106 = .ok (.aload_n 0, 1) := by decide +kernel
theorem dX5_signFact_107 : decode cX5_signFact 107 = .ok (.getfield 19, 3) := by decide +kernel
theorem dX5_signFact_110 : decode cX5_signFact 110 = .ok (.getfield 78, 3) := by decide +kernel
theorem dX5_signFact_113 : decode cX5_signFact 113 = .ok (.ireturn, 1) := by decide +kernel
theorem dX5_signFact_114 : decode cX5_signFact 114 = .ok (.aload_n 0, 1) := by decide +kernel
theorem dX5_signFact_115 : decode cX5_signFact 115 = .ok (.getfield 19, 3) := by decide +kernel
theorem dX5_signFact_118 : decode cX5_signFact 118 = .ok (.getfield 95, 3) := by decide +kernel
theorem dX5_signFact_121 : decode cX5_signFact 121 = .ok (.ireturn, 1) := by decide +kernel
theorem dX5_signFact_122 : decode cX5_signFact 122 = .ok (.aload_n 0, 1) := by decide +kernel
theorem dX5_signFact_123 : decode cX5_signFact 123 = .ok (.aload_n 0, 1) := by decide +kernel
theorem dX5_signFact_124 : decode cX5_signFact 124 = .ok (.getfield 10, 3) := by decide +kernel
theorem dX5_signFact_127 : decode cX5_signFact 127 = .ok (.getfield 287, 3) := by decide +kernel
theorem dX5_signFact_130 : decode cX5_signFact 130 = .ok (.invokevirtual 324, 3) := by decide +kernel
theorem dX5_signFact_133 : decode cX5_signFact 133 = .ok (.ireturn, 1) := by decide +kernel
theorem dX5_signFact_134 : decode cX5_signFact 134 = .ok (.aload_n 0, 1) := by decide +kernel
theorem dX5_signFact_135 : decode cX5_signFact 135 = .ok (.getfield 10, 3) := by decide +kernel
theorem dX5_signFact_138 : decode cX5_signFact 138 = .ok (.getfield 294, 3) := by decide +kernel
theorem dX5_signFact_141 : decode cX5_signFact 141 = .ok (.invokestatic 328, 3) := by decide +kernel
theorem dX5_signFact_144 : decode cX5_signFact 144 = .ok (.ireturn, 1) := by decide +kernel
theorem dX5_signFact_145 : decode cX5_signFact 145 = .ok (.aload_n 0, 1) := by decide +kernel
theorem dX5_signFact_146 : decode cX5_signFact 146 = .ok (.getfield 10, 3) := by decide +kernel
theorem dX5_signFact_149 : decode cX5_signFact 149 = .ok (.invokevirtual 332, 3) := by decide +kernel
theorem dX5_signFact_152 : decode cX5_signFact 152 = .ok (.ireturn, 1) := by decide +kernel
theorem dX5_signFact_153 : decode cX5_signFact 153 = .ok (.aload_n 0, 1) := by decide +kernel
theorem dX5_signFact_154 : decode cX5_signFact 154 = .ok (.getfield 335, 3) := by decide +kernel
theorem dX5_signFact_157 : decode cX5_signFact 157 = .ok (.ireturn, 1) := by decide +kernel
theorem dX5_signFact_158 : decode cX5_signFact 158 = .ok (.aload_n 0, 1) := by decide +kernel
theorem dX5_signFact_159 : decode cX5_signFact 159 = .ok (.getfield 51, 3) := by decide +kernel
theorem dX5_signFact_162 : decode cX5_signFact 162 = .ok (.ireturn, 1) := by decide +kernel
theorem dX5_signFact_163 : decode cX5_signFact 163 = .ok (.iload_n 1, 1) := by decide +kernel
theorem dX5_signFact_164 : decode cX5_signFact 164 = .ok (.bipush 13, 2) := by decide +kernel
theorem dX5_signFact_166 : decode cX5_signFact 166 = .ok (.if_icmp .gt 14, 3) := by decide +kernel
theorem dX5_signFact_169 : decode cX5_signFact 169 = .ok (.aload_n 0, 1) := by decide +kernel
theorem dX5_signFact_170 : decode cX5_signFact 170 = .ok (.getfield 33, 3) := by decide +kernel
theorem dX5_signFact_173 : decode cX5_signFact 173 = .ok (.iload_n 1, 1) := by decide +kernel
theorem dX5_signFact_174 : decode cX5_signFact 174 = .ok (.invokevirtual 338, 3) := by decide +kernel
theorem dX5_signFact_177 : decode cX5_signFact 177 = .ok (.goto 11, 3) := by decide +kernel
theorem dX5_signFact_180 : decode cX5_signFact 180 = .ok (.aload_n 0, 1) := by decide +kernel
theorem dX5_signFact_181 : decode cX5_signFact 181 = .ok (.getfield 40, 3) := by decide +kernel
theorem dX5_signFact_184 : decode cX5_signFact 184 = .ok (.iload_n 1, 1) := by decide +kernel
theorem dX5_signFact_185 : decode cX5_signFact 185 = .ok (.invokevirtual 341, 3) := by decide +kernel
theorem dX5_signFact_188 : decode cX5_signFact 188 = .ok (.ireturn, 1) := by decide +kernel
set_option maxRecDepth 20000 in
theorem ggX5_addLineTo_X5_makePlan : GoodIn wsX5_addLineTo wsX5_makePlan := goodIn_r _ [7, 2, 8, 9, 10, 11, 12, 13, 6, 14, 15, 16, 17, 18, 19, 20, 21, 22, 23, 24, 25, 26, 27, 28, 29, 30, 31, 32, 33, 34, 35, 36, 37, 38, 39, 40, 41, 42, 43, 44, 45, 46, 47, 48, 49, 50, 51, 52, 53, 54, 55, 56, 57, 58, 59, 60, 61, 62, 63, 64, 65, 66, 67, 68, 69, 70, 71, 72, 73, 74, 75, 76, 77, 78, 79, 80, 81, 82, 83, 84, 85, 86, 87, 88, 89, 90, 91, 92, 93, 94, 95, 96, 97, 98, 99, 100, 101, 102, 103, 104, 105, 106, 107, 108, 109, 110, 136, 137, 138, 139, 140, 141, 142, 143, 144, 145, 146, 147, 148, 149, 150, 151, 152, 153, 154, 155, 156, 157, 158, 159, 160, 161, 162, 163, 164, 165] (by decide +kernel) (by decide +kernel)
set_option maxRecDepth 20000 in
theorem gX5_addLineTo_X5_makePlan : GoodIn wsX5_addLineTo (wsV RX5 210 RX5 yX5_makePlan wsX5_makePlan) := goodIn_app (goodIn_of _ (by decide +kernel)) ggX5_addLineTo_X5_makePlan
set_option maxRecDepth 20000 in
theorem ggX5_addLineTo_X5_lineFact : GoodIn wsX5_addLineTo wsX5_lineFact := goodIn_r _ [114, 10, 8, 2, 115, 73, 6, 74, 11, 12, 13, 14, 15, 16, 17, 18, 19, 20, 21, 22, 23, 24, 25, 26, 27, 28, 29, 30, 31, 32, 33, 34, 116, 117, 118, 119, 79, 80, 81, 82, 83, 84, 85, 75, 76, 77, 78, 120, 36, 121, 122, 39, 54, 55, 123, 136, 137, 138, 139, 140, 141, 142, 143, 144, 151, 152, 153, 154, 155, 156, 157, 145, 146, 147, 148, 149, 150, 158, 159, 160, 161, 162, 163, 164, 165] (by decide +kernel) (by decide +kernel)
set_option maxRecDepth 20000 in
theorem gX5_addLineTo_X5_lineFact : GoodIn wsX5_addLineTo (wsV RX5 213 RX5 yX5_lineFact wsX5_lineFact) := goodIn_app (goodIn_of _ (by decide +kernel)) ggX5_addLineTo_X5_lineFact
set_option maxRecDepth 20000 in
theorem ggX5_addLineTo_X2_setOf : GoodIn wsX5_addLineTo wsX2_setOf := goodIn_r _ [126, 39, 98, 73, 6, 74, 158, 159, 160, 161, 162, 163, 164, 165] (by decide +kernel) (by decide +kernel)
set_option maxRecDepth 20000 in
theorem gX5_addLineTo_X2_setOf_n218 : GoodIn wsX5_addLineTo (wsX2_setOf) := ggX5_addLineTo_X2_setOf
set_option maxRecDepth 20000 in
theorem ggX5_addLineTo_X5_readOfGoal : GoodIn wsX5_addLineTo wsX5_readOfGoal := goodIn_r _ [130, 11, 12, 13, 6, 14, 15, 16, 17, 18, 10, 8, 19, 20, 21, 22, 23, 24, 25, 26, 27, 28, 29, 30, 31, 32, 33, 34, 40, 41, 42, 43, 44, 45, 46, 47, 48, 49, 50, 131, 132, 133, 134, 135, 79, 80, 81, 82, 83, 84, 85, 136, 137, 138, 139, 140, 141, 142, 143, 144, 151, 152, 153, 154, 155, 156, 157, 145, 146, 147, 148, 149, 150] (by decide +kernel) (by decide +kernel)
set_option maxRecDepth 20000 in
theorem gX5_addLineTo_X5_readOfGoal : GoodIn wsX5_addLineTo (wsV RX5 261 RX5 yX5_readOfGoal wsX5_readOfGoal) := goodIn_app (goodIn_of _ (by decide +kernel)) ggX5_addLineTo_X5_readOfGoal
theorem dX5_addLineTo_0 : decode cX5_addLineTo 0 = .ok (.lload_n 1, 1) := by decide +kernel
theorem dX5_addLineTo_1 : decode cX5_addLineTo 1 = .ok (.lstore 4, 2) := by decide +kernel
theorem dX5_addLineTo_3 : decode cX5_addLineTo 3 = .ok (.aload_n 0, 1) := by decide +kernel
theorem dX5_addLineTo_4 : decode cX5_addLineTo 4 = .ok (.iload_n 3, 1) := by decide +kernel
theorem dX5_addLineTo_5 : decode cX5_addLineTo 5 = .ok (.invokevirtual 210, 3) := by decide +kernel
theorem dX5_addLineTo_8 : decode cX5_addLineTo 8 = .ok (.iconst 1, 1) := by decide +kernel
theorem dX5_addLineTo_9 : decode cX5_addLineTo 9 = .ok (.istore 6, 2) := by decide +kernel
theorem dX5_addLineTo_11 : decode cX5_addLineTo 11 = .ok (.iload 6, 2) := by decide +kernel
theorem dX5_addLineTo_13 : decode cX5_addLineTo 13 = .ok (.bipush 7, 2) := by decide +kernel
theorem dX5_addLineTo_15 : decode cX5_addLineTo 15 = .ok (.if_icmp .gt 26, 3) := by decide +kernel
theorem dX5_addLineTo_18 : decode cX5_addLineTo 18 = .ok (.lload 4, 2) := by decide +kernel
theorem dX5_addLineTo_20 : decode cX5_addLineTo 20 = .ok (.ldc2_w 274, 3) := by decide +kernel
theorem dX5_addLineTo_23 : decode cX5_addLineTo 23 = .ok (.lmul, 1) := by decide +kernel
theorem dX5_addLineTo_24 : decode cX5_addLineTo 24 = .ok (.aload_n 0, 1) := by decide +kernel
theorem dX5_addLineTo_25 : decode cX5_addLineTo 25 = .ok (.iload_n 3, 1) := by decide +kernel
theorem dX5_addLineTo_26 : decode cX5_addLineTo 26 = .ok (.iload 6, 2) := by decide +kernel
theorem dX5_addLineTo_28 : decode cX5_addLineTo 28 = .ok (.invokevirtual 213, 3) := by decide +kernel
theorem dX5_addLineTo_31 : decode cX5_addLineTo 31 = .ok (.i2l, 1) := by decide +kernel
theorem dX5_addLineTo_32 : decode cX5_addLineTo 32 = .ok (.ladd, 1) := by decide +kernel
theorem dX5_addLineTo_33 : decode cX5_addLineTo 33 = .ok (.lstore 4, 2) := by decide +kernel
theorem dX5_addLineTo_35 : decode cX5_addLineTo 35 = .ok (.iinc 6 1, 3) := by decide +kernel
theorem dX5_addLineTo_38 : decode cX5_addLineTo 38 = .ok (.goto (-27), 3) := by decide +kernel
theorem dX5_addLineTo_41 : decode cX5_addLineTo 41 = .ok (.lload 4, 2) := by decide +kernel
theorem dX5_addLineTo_43 : decode cX5_addLineTo 43 = .ok (.ldc2_w 274, 3) := by decide +kernel
theorem dX5_addLineTo_46 : decode cX5_addLineTo 46 = .ok (.lmul, 1) := by decide +kernel
theorem dX5_addLineTo_47 : decode cX5_addLineTo 47 = .ok (.aload_n 0, 1) := by decide +kernel
theorem dX5_addLineTo_48 : decode cX5_addLineTo 48 = .ok (.getfield 26, 3) := by decide +kernel
theorem dX5_addLineTo_51 : decode cX5_addLineTo 51 = .ok (.iconst 0, 1) := by decide +kernel
theorem dX5_addLineTo_52 : decode cX5_addLineTo 52 = .ok (.invokevirtual 218, 3) := by decide +kernel
theorem dX5_addLineTo_55 : decode cX5_addLineTo 55 = .ok (.i2l, 1) := by decide +kernel
theorem dX5_addLineTo_56 : decode cX5_addLineTo 56 = .ok (.ladd, 1) := by decide +kernel
theorem dX5_addLineTo_57 : decode cX5_addLineTo 57 = .ok (.lstore 4, 2) := by decide +kernel
theorem dX5_addLineTo_59 : decode cX5_addLineTo 59 = .ok (.lload 4, 2) := by decide +kernel
theorem dX5_addLineTo_61 : decode cX5_addLineTo 61 = .ok (.ldc2_w 274, 3) := by decide +kernel
theorem dX5_addLineTo_64 : decode cX5_addLineTo 64 = .ok (.lmul, 1) := by decide +kernel
theorem dX5_addLineTo_65 : decode cX5_addLineTo 65 = .ok (.aload_n 0, 1) := by decide +kernel
theorem dX5_addLineTo_66 : decode cX5_addLineTo 66 = .ok (.getfield 26, 3) := by decide +kernel
theorem dX5_addLineTo_69 : decode cX5_addLineTo 69 = .ok (.iconst 1, 1) := by decide +kernel
theorem dX5_addLineTo_70 : decode cX5_addLineTo 70 = .ok (.invokevirtual 218, 3) := by decide +kernel
theorem dX5_addLineTo_73 : decode cX5_addLineTo 73 = .ok (.i2l, 1) := by decide +kernel
theorem dX5_addLineTo_74 : decode cX5_addLineTo 74 = .ok (.ladd, 1) := by decide +kernel
theorem dX5_addLineTo_75 : decode cX5_addLineTo 75 = .ok (.lstore 4, 2) := by decide +kernel
theorem dX5_addLineTo_77 : decode cX5_addLineTo 77 = .ok (.lload 4, 2) := by decide +kernel
theorem dX5_addLineTo_79 : decode cX5_addLineTo 79 = .ok (.ldc2_w 274, 3) := by decide +kernel
theorem dX5_addLineTo_82 : decode cX5_addLineTo 82 = .ok (.lmul, 1) := by decide +kernel
theorem dX5_addLineTo_83 : decode cX5_addLineTo 83 = .ok (.aload_n 0, 1) := by decide +kernel
theorem dX5_addLineTo_84 : decode cX5_addLineTo 84 = .ok (.iload_n 3, 1) := by decide +kernel
theorem dX5_addLineTo_85 : decode cX5_addLineTo 85 = .ok (.invokevirtual 261, 3) := by decide +kernel
theorem dX5_addLineTo_88 : decode cX5_addLineTo 88 = .ok (.i2l, 1) := by decide +kernel
theorem dX5_addLineTo_89 : decode cX5_addLineTo 89 = .ok (.ladd, 1) := by decide +kernel
theorem dX5_addLineTo_90 : decode cX5_addLineTo 90 = .ok (.lreturn, 1) := by decide +kernel
theorem dX5_lastOffset_0 : decode cX5_lastOffset 0 = .ok (.iload_n 1, 1) := by decide +kernel
theorem dX5_lastOffset_1 : decode cX5_lastOffset 1 = .ok (.ifCond .lt 35, 3) := by decide +kernel
theorem dX5_lastOffset_4 : decode cX5_lastOffset 4 = .ok (.iload_n 1, 1) := by decide +kernel
theorem dX5_lastOffset_5 : decode cX5_lastOffset 5 = .ok (.aload_n 0, 1) := by decide +kernel
theorem dX5_lastOffset_6 : decode cX5_lastOffset 6 = .ok (.getfield 19, 3) := by decide +kernel
theorem dX5_lastOffset_9 : decode cX5_lastOffset 9 = .ok (.getfield 305, 3) := by decide +kernel
theorem dX5_lastOffset_12 : decode cX5_lastOffset 12 = .ok (.arraylength, 1) := by decide +kernel
theorem dX5_lastOffset_13 : decode cX5_lastOffset 13 = .ok (.if_icmp .ge 23, 3) := by decide +kernel
theorem dX5_lastOffset_16 : decode cX5_lastOffset 16 = .ok (.aload_n 0, 1) := by decide +kernel
theorem dX5_lastOffset_17 : decode cX5_lastOffset 17 = .ok (.getfield 10, 3) := by decide +kernel
theorem dX5_lastOffset_20 : decode cX5_lastOffset 20 = .ok (.getfield 61, 3) := by decide +kernel
theorem dX5_lastOffset_23 : decode cX5_lastOffset 23 = .ok (.aload_n 0, 1) := by decide +kernel
theorem dX5_lastOffset_24 : decode cX5_lastOffset 24 = .ok (.getfield 19, 3) := by decide +kernel
theorem dX5_lastOffset_27 : decode cX5_lastOffset 27 = .ok (.getfield 305, 3) := by decide +kernel
theorem dX5_lastOffset_30 : decode cX5_lastOffset 30 = .ok (.iload_n 1, 1) := by decide +kernel
theorem dX5_lastOffset_31 : decode cX5_lastOffset 31 = .ok (.iaload, 1) := by decide +kernel
theorem dX5_lastOffset_32 : decode cX5_lastOffset 32 = .ok (.isub, 1) := by decide +kernel
theorem dX5_lastOffset_33 : decode cX5_lastOffset 33 = .ok (.goto 4, 3) := by decide +kernel
theorem dX5_lastOffset_36 : decode cX5_lastOffset 36 = .ok (.iconst (-1), 1) := by decide +kernel
theorem dX5_lastOffset_37 : decode cX5_lastOffset 37 = .ok (.ireturn, 1) := by decide +kernel
set_option maxRecDepth 20000 in
theorem ggX5_harm_X1_placed : GoodIn wsX5_harm wsX1_placed := goodIn_r _ [6, 7, 30, 31, 32, 33, 34, 35, 36] (by decide +kernel) (by decide +kernel)
set_option maxRecDepth 20000 in
theorem gX5_harm_X1_placed_n250 : GoodIn wsX5_harm (wsX1_placed) := ggX5_harm_X1_placed
set_option maxRecDepth 20000 in
theorem ggX5_harm_J13_bitCount_95d88 : GoodIn wsX5_harm wsJ13_bitCount_95d88 := goodIn_r _ [11, 12, 13, 14] (by decide +kernel) (by decide +kernel)
set_option maxRecDepth 20000 in
theorem gX5_harm_J13_bitCount_95d88 : GoodIn wsX5_harm (va_wsS RX5 328 yJ13_bitCount_95d88 wsJ13_bitCount_95d88) := goodIn_app (goodIn_of _ (by decide +kernel)) ggX5_harm_J13_bitCount_95d88
theorem dX5_harm_0 : decode cX5_harm 0 = .ok (.aload_n 0, 1) := by decide +kernel
theorem dX5_harm_1 : decode cX5_harm 1 = .ok (.getfield 19, 3) := by decide +kernel
theorem dX5_harm_4 : decode cX5_harm 4 = .ok (.iload_n 1, 1) := by decide +kernel
theorem dX5_harm_5 : decode cX5_harm 5 = .ok (.iload_n 2, 1) := by decide +kernel
theorem dX5_harm_6 : decode cX5_harm 6 = .ok (.invokevirtual 250, 3) := by decide +kernel
theorem dX5_harm_9 : decode cX5_harm 9 = .ok (.aload_n 0, 1) := by decide +kernel
theorem dX5_harm_10 : decode cX5_harm 10 = .ok (.getfield 10, 3) := by decide +kernel
theorem dX5_harm_13 : decode cX5_harm 13 = .ok (.getfield 342, 3) := by decide +kernel
theorem dX5_harm_16 : decode cX5_harm 16 = .ok (.lxor, 1) := by decide +kernel
theorem dX5_harm_17 : decode cX5_harm 17 = .ok (.aload_n 0, 1) := by decide +kernel
theorem dX5_harm_18 : decode cX5_harm 18 = .ok (.getfield 10, 3) := by decide +kernel
theorem dX5_harm_21 : decode cX5_harm 21 = .ok (.getfield 294, 3) := by decide +kernel
theorem dX5_harm_24 : decode cX5_harm 24 = .ok (.land, 1) := by decide +kernel
theorem dX5_harm_25 : decode cX5_harm 25 = .ok (.invokestatic 328, 3) := by decide +kernel
theorem dX5_harm_28 : decode cX5_harm 28 = .ok (.ireturn, 1) := by decide +kernel
set_option maxRecDepth 20000 in
theorem ggX5_bestOffset_X5_lastOffset : GoodIn wsX5_bestOffset wsX5_lastOffset := goodIn_r _ [5, 6, 7, 24, 25, 26, 27, 28, 29, 30, 31, 32, 33, 34, 35, 36, 37, 38, 39, 40, 41, 42, 43, 44, 45] (by decide +kernel) (by decide +kernel)
set_option maxRecDepth 20000 in
theorem gX5_bestOffset_X5_lastOffset : GoodIn wsX5_bestOffset (wsV RX5 247 RX5 yX5_lastOffset wsX5_lastOffset) := goodIn_app (goodIn_of _ (by decide +kernel)) ggX5_bestOffset_X5_lastOffset
set_option maxRecDepth 20000 in
theorem ggX5_bestOffset_X5_harm : GoodIn wsX5_bestOffset wsX5_harm := goodIn_r _ [11, 6, 7, 12, 13, 14, 15, 16, 17, 18, 19, 20, 21, 22, 23, 24, 25, 26, 27, 28, 29, 30, 31, 32, 40, 41, 42, 43, 44, 45, 33, 34, 35, 36, 37, 38, 39] (by decide +kernel) (by decide +kernel)
set_option maxRecDepth 20000 in
theorem gX5_bestOffset_X5_harm : GoodIn wsX5_bestOffset (wsV RX5 345 RX5 yX5_harm wsX5_harm) := goodIn_app (goodIn_of _ (by decide +kernel)) ggX5_bestOffset_X5_harm
theorem dX5_bestOffset_0 : decode cX5_bestOffset 0 = .ok (.iconst (-1), 1) := by decide +kernel
theorem dX5_bestOffset_1 : decode cX5_bestOffset 1 = .ok (.istore_n 2, 1) := by decide +kernel
theorem dX5_bestOffset_2 : decode cX5_bestOffset 2 = .ok (.iconst (-1), 1) := by decide +kernel
theorem dX5_bestOffset_3 : decode cX5_bestOffset 3 = .ok (.istore_n 3, 1) := by decide +kernel
theorem dX5_bestOffset_4 : decode cX5_bestOffset 4 = .ok (.iconst 0, 1) := by decide +kernel
theorem dX5_bestOffset_5 : decode cX5_bestOffset 5 = .ok (.istore 4, 2) := by decide +kernel
theorem dX5_bestOffset_7 : decode cX5_bestOffset 7 = .ok (.iload 4, 2) := by decide +kernel
theorem dX5_bestOffset_9 : decode cX5_bestOffset 9 = .ok (.aload_n 0, 1) := by decide +kernel
theorem dX5_bestOffset_10 : decode cX5_bestOffset 10 = .ok (.iload_n 1, 1) := by decide +kernel
theorem dX5_bestOffset_11 : decode cX5_bestOffset 11 = .ok (.invokevirtual 247, 3) := by decide +kernel
theorem dX5_bestOffset_14 : decode cX5_bestOffset 14 = .ok (.if_icmp .gt 35, 3) := by decide +kernel
theorem dX5_bestOffset_17 : decode cX5_bestOffset 17 = .ok (.aload_n 0, 1) := by decide +kernel
theorem dX5_bestOffset_18 : decode cX5_bestOffset 18 = .ok (.iload_n 1, 1) := by decide +kernel
theorem dX5_bestOffset_19 : decode cX5_bestOffset 19 = .ok (.iload 4, 2) := by decide +kernel
theorem dX5_bestOffset_21 : decode cX5_bestOffset 21 = .ok (.invokevirtual 345, 3) := by decide +kernel
theorem dX5_bestOffset_24 : decode cX5_bestOffset 24 = .ok (.istore 5, 2) := by decide +kernel
theorem dX5_bestOffset_26 : decode cX5_bestOffset 26 = .ok (.iload_n 2, 1) := by decide +kernel
theorem dX5_bestOffset_27 : decode cX5_bestOffset 27 = .ok (.iconst (-1), 1) := by decide +kernel
theorem dX5_bestOffset_28 : decode cX5_bestOffset 28 = .ok (.if_icmp .eq 9, 3) := by decide +kernel
theorem dX5_bestOffset_31 : decode cX5_bestOffset 31 = .ok (.iload 5, 2) := by decide +kernel
theorem dX5_bestOffset_33 : decode cX5_bestOffset 33 = .ok (.iload_n 3, 1) := by decide +kernel
theorem dX5_bestOffset_34 : decode cX5_bestOffset 34 = .ok (.if_icmp .ge 9, 3) := by decide +kernel
theorem dX5_bestOffset_37 : decode cX5_bestOffset 37 = .ok (.iload 4, 2) := by decide +kernel
theorem dX5_bestOffset_39 : decode cX5_bestOffset 39 = .ok (.istore_n 2, 1) := by decide +kernel
theorem dX5_bestOffset_40 : decode cX5_bestOffset 40 = .ok (.iload 5, 2) := by decide +kernel
theorem dX5_bestOffset_42 : decode cX5_bestOffset 42 = .ok (.istore_n 3, 1) := by decide +kernel
theorem dX5_bestOffset_43 : decode cX5_bestOffset 43 = .ok (.iinc 4 1, 3) := by decide +kernel
theorem dX5_bestOffset_46 : decode cX5_bestOffset 46 = .ok (.goto (-39), 3) := by decide +kernel
theorem dX5_bestOffset_49 : decode cX5_bestOffset 49 = .ok (.iload_n 2, 1) := by decide +kernel
theorem dX5_bestOffset_50 : decode cX5_bestOffset 50 = .ok (.ireturn, 1) := by decide +kernel
set_option maxRecDepth 20000 in
theorem ggX5_leastHarm_X5_bestOffset : GoodIn wsX5_leastHarm wsX5_bestOffset := goodIn_r _ [5, 6, 7, 8, 4, 9, 10, 11, 12, 13, 14, 15, 16, 17, 18, 19, 20, 21, 22, 23, 24, 25, 26, 27, 28, 29, 30, 31, 32, 33, 34, 35, 36, 37, 38, 39, 40, 41, 42, 43, 44, 45, 46, 47, 48, 49] (by decide +kernel) (by decide +kernel)
set_option maxRecDepth 20000 in
theorem gX5_leastHarm_X5_bestOffset : GoodIn wsX5_leastHarm (wsV RX5 308 RX5 yX5_bestOffset wsX5_bestOffset) := goodIn_app (goodIn_of _ (by decide +kernel)) ggX5_leastHarm_X5_bestOffset
set_option maxRecDepth 20000 in
theorem ggX5_leastHarm_X5_harm : GoodIn wsX5_leastHarm wsX5_harm := goodIn_r _ [15, 10, 11, 16, 17, 18, 19, 20, 21, 22, 23, 24, 25, 26, 27, 28, 29, 30, 31, 32, 33, 34, 35, 36, 44, 45, 46, 47, 48, 49, 37, 38, 39, 40, 41, 42, 43] (by decide +kernel) (by decide +kernel)
set_option maxRecDepth 20000 in
theorem gX5_leastHarm_X5_harm : GoodIn wsX5_leastHarm (wsV RX5 345 RX5 yX5_harm wsX5_harm) := goodIn_app (goodIn_of _ (by decide +kernel)) ggX5_leastHarm_X5_harm
theorem dX5_leastHarm_0 : decode cX5_leastHarm 0 = .ok (.aload_n 0, 1) := by decide +kernel
theorem dX5_leastHarm_1 : decode cX5_leastHarm 1 = .ok (.iload_n 1, 1) := by decide +kernel
theorem dX5_leastHarm_2 : decode cX5_leastHarm 2 = .ok (.invokevirtual 308, 3) := by decide +kernel
theorem dX5_leastHarm_5 : decode cX5_leastHarm 5 = .ok (.istore_n 2, 1) := by decide +kernel
theorem dX5_leastHarm_6 : decode cX5_leastHarm 6 = .ok (.iload_n 2, 1) := by decide +kernel
theorem dX5_leastHarm_7 : decode cX5_leastHarm 7 = .ok (.iconst (-1), 1) := by decide +kernel
theorem dX5_leastHarm_8 : decode cX5_leastHarm 8 = .ok (.if_icmp .ne 7, 3) := by decide +kernel
theorem dX5_leastHarm_11 : decode cX5_leastHarm 11 = .ok (.iconst (-1), 1) := by decide +kernel
theorem dX5_leastHarm_12 : decode cX5_leastHarm 12 = .ok (.goto 9, 3) := by decide +kernel
theorem dX5_leastHarm_15 : decode cX5_leastHarm 15 = .ok (.aload_n 0, 1) := by decide +kernel
theorem dX5_leastHarm_16 : decode cX5_leastHarm 16 = .ok (.iload_n 1, 1) := by decide +kernel
theorem dX5_leastHarm_17 : decode cX5_leastHarm 17 = .ok (.iload_n 2, 1) := by decide +kernel
theorem dX5_leastHarm_18 : decode cX5_leastHarm 18 = .ok (.invokevirtual 345, 3) := by decide +kernel
theorem dX5_leastHarm_21 : decode cX5_leastHarm 21 = .ok (.ireturn, 1) := by decide +kernel
set_option maxRecDepth 20000 in
theorem ggX5_distance_X5_lastOffset : GoodIn wsX5_distance wsX5_lastOffset := goodIn_r _ [6, 1, 7, 23, 24, 25, 26, 27, 28, 29, 30, 31, 32, 33, 34, 35, 36, 37, 38, 39, 40, 41, 42, 43, 44] (by decide +kernel) (by decide +kernel)
set_option maxRecDepth 20000 in
theorem gX5_distance_X5_lastOffset : GoodIn wsX5_distance (wsV RX5 247 RX5 yX5_lastOffset wsX5_lastOffset) := goodIn_app (goodIn_of _ (by decide +kernel)) ggX5_distance_X5_lastOffset
set_option maxRecDepth 20000 in
theorem ggX5_distance_X1_placed : GoodIn wsX5_distance wsX1_placed := goodIn_r _ [11, 12, 32, 33, 34, 35, 36, 37, 38] (by decide +kernel) (by decide +kernel)
set_option maxRecDepth 20000 in
theorem gX5_distance_X1_placed_n250 : GoodIn wsX5_distance (wsX1_placed) := ggX5_distance_X1_placed
set_option maxRecDepth 20000 in
theorem ggX5_distance_J13_bitCount_95d88 : GoodIn wsX5_distance wsJ13_bitCount_95d88 := goodIn_r _ [16, 17, 18, 19] (by decide +kernel) (by decide +kernel)
set_option maxRecDepth 20000 in
theorem gX5_distance_J13_bitCount_95d88 : GoodIn wsX5_distance (va_wsS RX5 328 yJ13_bitCount_95d88 wsJ13_bitCount_95d88) := goodIn_app (goodIn_of _ (by decide +kernel)) ggX5_distance_J13_bitCount_95d88
set_option maxRecDepth 20000 in
theorem ggX5_distance_X5_lesser : GoodIn wsX5_distance wsX5_lesser := goodIn_r _ [22] (by decide +kernel) (by decide +kernel)
set_option maxRecDepth 20000 in
theorem gX5_distance_X5_lesser : GoodIn wsX5_distance (va_wsS RX5 258 yX5_lesser wsX5_lesser) := goodIn_app (goodIn_of _ (by decide +kernel)) ggX5_distance_X5_lesser
theorem dX5_distance_0 : decode cX5_distance 0 = .ok (.iconst (-1), 1) := by decide +kernel
theorem dX5_distance_1 : decode cX5_distance 1 = .ok (.istore 4, 2) := by decide +kernel
theorem dX5_distance_3 : decode cX5_distance 3 = .ok (.iconst 0, 1) := by decide +kernel
theorem dX5_distance_4 : decode cX5_distance 4 = .ok (.istore 5, 2) := by decide +kernel
theorem dX5_distance_6 : decode cX5_distance 6 = .ok (.iload 5, 2) := by decide +kernel
theorem dX5_distance_8 : decode cX5_distance 8 = .ok (.aload_n 0, 1) := by decide +kernel
theorem dX5_distance_9 : decode cX5_distance 9 = .ok (.iload_n 3, 1) := by decide +kernel
theorem dX5_distance_10 : decode cX5_distance 10 = .ok (.invokevirtual 247, 3) := by decide +kernel
theorem dX5_distance_13 : decode cX5_distance 13 = .ok (.if_icmp .gt 31, 3) := by decide +kernel
theorem dX5_distance_16 : decode cX5_distance 16 = .ok (.iload 4, 2) := by decide +kernel
theorem dX5_distance_18 : decode cX5_distance 18 = .ok (.lload_n 1, 1) := by decide +kernel
theorem dX5_distance_19 : decode cX5_distance 19 = .ok (.aload_n 0, 1) := by decide +kernel
theorem dX5_distance_20 : decode cX5_distance 20 = .ok (.getfield 19, 3) := by decide +kernel
theorem dX5_distance_23 : decode cX5_distance 23 = .ok (.iload_n 3, 1) := by decide +kernel
theorem dX5_distance_24 : decode cX5_distance 24 = .ok (.iload 5, 2) := by decide +kernel
theorem dX5_distance_26 : decode cX5_distance 26 = .ok (.invokevirtual 250, 3) := by decide +kernel
theorem dX5_distance_29 : decode cX5_distance 29 = .ok (.lxor, 1) := by decide +kernel
theorem dX5_distance_30 : decode cX5_distance 30 = .ok (.invokestatic 328, 3) := by decide +kernel
theorem dX5_distance_33 : decode cX5_distance 33 = .ok (.invokestatic 258, 3) := by decide +kernel
theorem dX5_distance_36 : decode cX5_distance 36 = .ok (.istore 4, 2) := by decide +kernel
theorem dX5_distance_38 : decode cX5_distance 38 = .ok (.iinc 5 1, 3) := by decide +kernel
theorem dX5_distance_41 : decode cX5_distance 41 = .ok (.goto (-35), 3) := by decide +kernel
theorem dX5_distance_44 : decode cX5_distance 44 = .ok (.iload 4, 2) := by decide +kernel
theorem dX5_distance_46 : decode cX5_distance 46 = .ok (.ireturn, 1) := by decide +kernel
set_option maxRecDepth 20000 in
theorem ggX5_says_X5_distance : GoodIn wsX5_says wsX5_distance := goodIn_r _ [5, 6, 7, 8, 9, 4, 10, 11, 12, 13, 14, 15, 16, 17, 18, 19, 20, 21, 22, 23, 24, 25, 26, 27, 28, 29, 30, 31, 32, 33, 34, 35, 36, 37, 38, 39, 40, 41, 42, 43, 44, 45, 46, 47, 48] (by decide +kernel) (by decide +kernel)
set_option maxRecDepth 20000 in
theorem gX5_says_X5_distance : GoodIn wsX5_says (wsV RX5 254 RX5 yX5_distance wsX5_distance) := goodIn_app (goodIn_of _ (by decide +kernel)) ggX5_says_X5_distance
theorem dX5_says_0 : decode cX5_says 0 = .ok (.aload_n 0, 1) := by decide +kernel
theorem dX5_says_1 : decode cX5_says 1 = .ok (.lload_n 1, 1) := by decide +kernel
theorem dX5_says_2 : decode cX5_says 2 = .ok (.iload_n 3, 1) := by decide +kernel
theorem dX5_says_3 : decode cX5_says 3 = .ok (.invokevirtual 254, 3) := by decide +kernel
theorem dX5_says_6 : decode cX5_says 6 = .ok (.ifCond .ne 7, 3) := by decide +kernel
theorem dX5_says_9 : decode cX5_says 9 = .ok (.iconst 1, 1) := by decide +kernel
theorem dX5_says_10 : decode cX5_says 10 = .ok (.goto 4, 3) := by decide +kernel
theorem dX5_says_13 : decode cX5_says 13 = .ok (.iconst 0, 1) := by decide +kernel
theorem dX5_says_14 : decode cX5_says 14 = .ok (.ireturn, 1) := by decide +kernel
set_option maxRecDepth 20000 in
theorem ggX5_readAs_X5_distance : GoodIn wsX5_readAs wsX5_distance := goodIn_r _ [7, 1, 8, 9, 10, 6, 11, 12, 13, 14, 15, 16, 17, 18, 19, 20, 21, 22, 23, 24, 25, 26, 27, 28, 29, 30, 31, 32, 33, 34, 35, 36, 37, 38, 39, 40, 41, 42, 43, 44, 45, 46, 47, 48, 49] (by decide +kernel) (by decide +kernel)
set_option maxRecDepth 20000 in
theorem gX5_readAs_X5_distance : GoodIn wsX5_readAs (wsV RX5 254 RX5 yX5_distance wsX5_distance) := goodIn_app (goodIn_of _ (by decide +kernel)) ggX5_readAs_X5_distance
theorem dX5_readAs_0 : decode cX5_readAs 0 = .ok (.iconst (-1), 1) := by decide +kernel
theorem dX5_readAs_1 : decode cX5_readAs 1 = .ok (.istore_n 3, 1) := by decide +kernel
theorem dX5_readAs_2 : decode cX5_readAs 2 = .ok (.iconst (-1), 1) := by decide +kernel
theorem dX5_readAs_3 : decode cX5_readAs 3 = .ok (.istore 4, 2) := by decide +kernel
theorem dX5_readAs_5 : decode cX5_readAs 5 = .ok (.iconst 0, 1) := by decide +kernel
theorem dX5_readAs_6 : decode cX5_readAs 6 = .ok (.istore 5, 2) := by decide +kernel
theorem dX5_readAs_8 : decode cX5_readAs 8 = .ok (.iload 5, 2) := by decide +kernel
theorem dX5_readAs_10 : decode cX5_readAs 10 = .ok (.aload_n 0, 1) := by decide +kernel
theorem dX5_readAs_11 : decode cX5_readAs 11 = .ok (.getfield 19, 3) := by decide +kernel
theorem dX5_readAs_14 : decode cX5_readAs 14 = .ok (.getfield 95, 3) := by decide +kernel
theorem dX5_readAs_17 : decode cX5_readAs 17 = .ok (.if_icmp .ge 62, 3) := by decide +kernel
theorem dX5_readAs_20 : decode cX5_readAs 20 = .ok (.aload_n 0, 1) := by decide +kernel
theorem dX5_readAs_21 : decode cX5_readAs 21 = .ok (.lload_n 1, 1) := by decide +kernel
theorem dX5_readAs_22 : decode cX5_readAs 22 = .ok (.iload 5, 2) := by decide +kernel
theorem dX5_readAs_24 : decode cX5_readAs 24 = .ok (.invokevirtual 254, 3) := by decide +kernel
theorem dX5_readAs_27 : decode cX5_readAs 27 = .ok (.istore 6, 2) := by decide +kernel
theorem dX5_readAs_29 : decode cX5_readAs 29 = .ok (.iload 6, 2) := by decide +kernel
theorem dX5_readAs_31 : decode cX5_readAs 31 = .ok (.iconst (-1), 1) := by decide +kernel
theorem dX5_readAs_32 : decode cX5_readAs 32 = .ok (.if_icmp .eq 15, 3) := by decide +kernel
theorem dX5_readAs_35 : decode cX5_readAs 35 = .ok (.iload 6, 2) := by decide +kernel
theorem dX5_readAs_37 : decode cX5_readAs 37 = .ok (.iload 4, 2) := by decide +kernel
theorem dX5_readAs_39 : decode cX5_readAs 39 = .ok (.if_icmp .ne 8, 3) := by decide +kernel
theorem dX5_readAs_42 : decode cX5_readAs 42 = .ok (.iconst (-1), 1) := by decide +kernel
theorem dX5_readAs_43 : decode cX5_readAs 43 = .ok (.istore_n 3, 1) := by decide +kernel
theorem dX5_readAs_44 : decode cX5_readAs 44 = .ok (.goto 29, 3) := by decide +kernel
theorem dX5_readAs_47 : decode cX5_readAs 47 = .ok (.iload 6, 2) := by decide +kernel
theorem dX5_readAs_49 : decode cX5_readAs 49 = .ok (.iconst (-1), 1) := by decide +kernel
theorem dX5_readAs_50 : decode cX5_readAs 50 = .ok (.if_icmp .eq 23, 3) := by decide +kernel
theorem dX5_readAs_53 : decode cX5_readAs 53 = .ok (.iload 4, 2) := by decide +kernel
theorem dX5_readAs_55 : decode cX5_readAs 55 = .ok (.iconst (-1), 1) := by decide +kernel
theorem dX5_readAs_56 : decode cX5_readAs 56 = .ok (.if_icmp .eq 10, 3) := by decide +kernel
theorem dX5_readAs_59 : decode cX5_readAs 59 = .ok (.iload 6, 2) := by decide +kernel
theorem dX5_readAs_61 : decode cX5_readAs 61 = .ok (.iload 4, 2) := by decide +kernel
theorem dX5_readAs_63 : decode cX5_readAs 63 = .ok (.if_icmp .ge 10, 3) := by decide +kernel
theorem dX5_readAs_66 : decode cX5_readAs 66 = .ok (.iload 5, 2) := by decide +kernel
theorem dX5_readAs_68 : decode cX5_readAs 68 = .ok (.istore_n 3, 1) := by decide +kernel
theorem dX5_readAs_69 : decode cX5_readAs 69 = .ok (.iload 6, 2) := by decide +kernel
theorem dX5_readAs_71 : decode cX5_readAs 71 = .ok (.istore 4, 2) := by decide +kernel
theorem dX5_readAs_73 : decode cX5_readAs 73 = .ok (.iinc 5 1, 3) := by decide +kernel
theorem dX5_readAs_76 : decode cX5_readAs 76 = .ok (.goto (-68), 3) := by decide +kernel
theorem dX5_readAs_79 : decode cX5_readAs 79 = .ok (.iload 4, 2) := by decide +kernel
theorem dX5_readAs_81 : decode cX5_readAs 81 = .ok (.aload_n 0, 1) := by decide +kernel
theorem dX5_readAs_82 : decode cX5_readAs 82 = .ok (.getfield 48, 3) := by decide +kernel
theorem dX5_readAs_85 : decode cX5_readAs 85 = .ok (.if_icmp .gt 7, 3) := by decide +kernel
theorem dX5_readAs_88 : decode cX5_readAs 88 = .ok (.iload_n 3, 1) := by decide +kernel
theorem dX5_readAs_89 : decode cX5_readAs 89 = .ok (.goto 4, 3) := by decide +kernel
theorem dX5_readAs_92 : decode cX5_readAs 92 = .ok (.iconst (-1), 1) := by decide +kernel
theorem dX5_readAs_93 : decode cX5_readAs 93 = .ok (.ireturn, 1) := by decide +kernel
set_option maxRecDepth 20000 in
theorem ggX5_readOfGoal_X5_bestOffset : GoodIn wsX5_readOfGoal wsX5_bestOffset := goodIn_r _ [5, 6, 7, 8, 4, 9, 10, 11, 12, 13, 14, 15, 16, 17, 18, 19, 20, 21, 22, 23, 24, 25, 26, 27, 51, 52, 53, 54, 55, 56, 57, 58, 59, 60, 61, 62, 63, 64, 65, 66, 67, 68, 69, 70, 71, 72] (by decide +kernel) (by decide +kernel)
set_option maxRecDepth 20000 in
theorem gX5_readOfGoal_X5_bestOffset : GoodIn wsX5_readOfGoal (wsV RX5 308 RX5 yX5_bestOffset wsX5_bestOffset) := goodIn_app (goodIn_of _ (by decide +kernel)) ggX5_readOfGoal_X5_bestOffset
set_option maxRecDepth 20000 in
theorem ggX5_readOfGoal_X5_goalAt : GoodIn wsX5_readOfGoal wsX5_goalAt := goodIn_r _ [31, 11, 10, 16, 17, 18, 19, 20, 32, 33, 34, 35, 36, 37, 38, 51, 52, 53, 54, 55, 56, 57, 58, 59, 60, 61, 62, 63, 64, 65, 66, 67, 68, 69, 70, 71, 72] (by decide +kernel) (by decide +kernel)
set_option maxRecDepth 20000 in
theorem gX5_readOfGoal_X5_goalAt : GoodIn wsX5_readOfGoal (wsV RX5 348 RX5 yX5_goalAt wsX5_goalAt) := goodIn_app (goodIn_of _ (by decide +kernel)) ggX5_readOfGoal_X5_goalAt
set_option maxRecDepth 20000 in
theorem ggX5_readOfGoal_X5_readAs : GoodIn wsX5_readOfGoal wsX5_readAs := goodIn_r _ [42, 10, 43, 44, 45, 46, 4, 47, 6, 7, 8, 9, 11, 16, 17, 18, 19, 20, 21, 22, 23, 24, 25, 26, 27, 48, 49, 50, 51, 52, 53, 54, 55, 56, 57, 58, 59, 60, 61, 62, 63, 64, 65, 66, 67, 68, 69, 70, 71, 72] (by decide +kernel) (by decide +kernel)
set_option maxRecDepth 20000 in
theorem gX5_readOfGoal_X5_readAs : GoodIn wsX5_readOfGoal (wsV RX5 324 RX5 yX5_readAs wsX5_readAs) := goodIn_app (goodIn_of _ (by decide +kernel)) ggX5_readOfGoal_X5_readAs
theorem dX5_readOfGoal_0 : decode cX5_readOfGoal 0 = .ok (.aload_n 0, 1) := by decide +kernel
theorem dX5_readOfGoal_1 : decode cX5_readOfGoal 1 = .ok (.iload_n 1, 1) := by decide +kernel
theorem dX5_readOfGoal_2 : decode cX5_readOfGoal 2 = .ok (.invokevirtual 308, 3) := by decide +kernel
theorem dX5_readOfGoal_5 : decode cX5_readOfGoal 5 = .ok (.istore_n 2, 1) := by decide +kernel
theorem dX5_readOfGoal_6 : decode cX5_readOfGoal 6 = .ok (.iload_n 2, 1) := by decide +kernel
theorem dX5_readOfGoal_7 : decode cX5_readOfGoal 7 = .ok (.iconst (-1), 1) := by decide +kernel
theorem dX5_readOfGoal_8 : decode cX5_readOfGoal 8 = .ok (.if_icmp .ne 7, 3) := by decide +kernel
theorem dX5_readOfGoal_11 : decode cX5_readOfGoal 11 = .ok (.iconst (-1), 1) := by decide +kernel
theorem dX5_readOfGoal_12 : decode cX5_readOfGoal 12 = .ok (.goto 13, 3) := by decide +kernel
theorem dX5_readOfGoal_15 : decode cX5_readOfGoal 15 = .ok (.aload_n 0, 1) := by decide +kernel
theorem dX5_readOfGoal_16 : decode cX5_readOfGoal 16 = .ok (.aload_n 0, 1) := by decide +kernel
theorem dX5_readOfGoal_17 : decode cX5_readOfGoal 17 = .ok (.iload_n 1, 1) := by decide +kernel
theorem dX5_readOfGoal_18 : decode cX5_readOfGoal 18 = .ok (.iload_n 2, 1) := by decide +kernel
theorem dX5_readOfGoal_19 : decode cX5_readOfGoal 19 = .ok (.invokevirtual 348, 3) := by decide +kernel
theorem dX5_readOfGoal_22 : decode cX5_readOfGoal 22 = .ok (.invokevirtual 324, 3) := by decide +kernel
theorem dX5_readOfGoal_25 : decode cX5_readOfGoal 25 = .ok (.ireturn, 1) := by decide +kernel
set_option maxRecDepth 20000 in
theorem ggX5_goalAt_X1_placed : GoodIn wsX5_goalAt wsX1_placed := goodIn_r _ [6, 7, 24, 25, 26, 27, 28, 29, 30] (by decide +kernel) (by decide +kernel)
set_option maxRecDepth 20000 in
theorem gX5_goalAt_X1_placed_n250 : GoodIn wsX5_goalAt (wsX1_placed) := ggX5_goalAt_X1_placed
set_option maxRecDepth 20000 in
theorem ggX5_goalAt_X0_withStuck : GoodIn wsX5_goalAt wsX0_withStuck := goodIn_r _ [11, 12, 13, 14, 31, 32, 33, 34, 35, 36] (by decide +kernel) (by decide +kernel)
set_option maxRecDepth 20000 in
theorem gX5_goalAt_X0_withStuck_n351 : GoodIn wsX5_goalAt (wsX0_withStuck) := ggX5_goalAt_X0_withStuck
theorem dX5_goalAt_0 : decode cX5_goalAt 0 = .ok (.aload_n 0, 1) := by decide +kernel
theorem dX5_goalAt_1 : decode cX5_goalAt 1 = .ok (.getfield 10, 3) := by decide +kernel
theorem dX5_goalAt_4 : decode cX5_goalAt 4 = .ok (.aload_n 0, 1) := by decide +kernel
theorem dX5_goalAt_5 : decode cX5_goalAt 5 = .ok (.getfield 19, 3) := by decide +kernel
theorem dX5_goalAt_8 : decode cX5_goalAt 8 = .ok (.iload_n 1, 1) := by decide +kernel
theorem dX5_goalAt_9 : decode cX5_goalAt 9 = .ok (.iload_n 2, 1) := by decide +kernel
theorem dX5_goalAt_10 : decode cX5_goalAt 10 = .ok (.invokevirtual 250, 3) := by decide +kernel
theorem dX5_goalAt_13 : decode cX5_goalAt 13 = .ok (.invokevirtual 351, 3) := by decide +kernel
theorem dX5_goalAt_16 : decode cX5_goalAt 16 = .ok (.lreturn, 1) := by decide +kernel
set_option maxRecDepth 20000 in
theorem ggX5_bringUp_X5_makePlan : GoodIn wsX5_bringUp wsX5_makePlan := goodIn_r _ [9, 1, 2, 10, 11, 12, 13, 14, 8, 15, 16, 17, 18, 19, 20, 21, 22, 23, 24, 25, 26, 27, 28, 29, 30, 31, 32, 33, 34, 35, 36, 37, 38, 39, 40, 41, 42, 43, 44, 45, 46, 47, 48, 49, 50, 51, 52, 53, 54, 55, 56, 57, 58, 59, 60, 61, 62, 63, 64, 65, 66, 67, 68, 69, 70, 71, 72, 73, 74, 75, 76, 77, 78, 79, 80, 81, 82, 83, 84, 85, 86, 87, 88, 89, 90, 91, 92, 93, 94, 95, 96, 97, 98, 99, 100, 101, 102, 103, 104, 105, 106, 107, 108, 109, 110, 111, 120, 121, 122, 123, 124, 125, 126, 127, 128, 137, 138, 139, 140, 141, 142, 143, 144, 145, 146, 147, 148, 149, 129, 130, 131, 132, 133, 134, 135, 136] (by decide +kernel) (by decide +kernel)
set_option maxRecDepth 20000 in
theorem gX5_bringUp_X5_makePlan : GoodIn wsX5_bringUp (wsV RX5 210 RX5 yX5_makePlan wsX5_makePlan) := goodIn_app (goodIn_of _ (by decide +kernel)) ggX5_bringUp_X5_makePlan
set_option maxRecDepth 20000 in
theorem ggX5_bringUp_X0_turnTo : GoodIn wsX5_bringUp wsX0_turnTo := goodIn_r _ [114, 115, 116, 117, 118, 74, 8, 75, 60, 61, 119, 68, 69, 70, 71, 72, 73, 94, 95, 137, 138, 139, 140, 141, 142] (by decide +kernel) (by decide +kernel)
set_option maxRecDepth 20000 in
theorem gX5_bringUp_X0_turnTo_n358 : GoodIn wsX5_bringUp (wsX0_turnTo) := ggX5_bringUp_X0_turnTo
theorem dX5_bringUp_0 : decode cX5_bringUp 0 = .ok (.aload_n 0, 1) := by decide +kernel
theorem dX5_bringUp_1 : decode cX5_bringUp 1 = .ok (.iload_n 1, 1) := by decide +kernel
theorem dX5_bringUp_2 : decode cX5_bringUp 2 = .ok (.invokevirtual 210, 3) := by decide +kernel
theorem dX5_bringUp_5 : decode cX5_bringUp 5 = .ok (.aload_n 0, 1) := by decide +kernel
theorem dX5_bringUp_6 : decode cX5_bringUp 6 = .ok (.getfield 26, 3) := by decide +kernel
theorem dX5_bringUp_9 : decode cX5_bringUp 9 = .ok (.getfield 318, 3) := by decide +kernel
theorem dX5_bringUp_12 : decode cX5_bringUp 12 = .ok (.iconst (-1), 1) := by decide +kernel
theorem dX5_bringUp_13 : decode cX5_bringUp 13 = .ok (.if_icmp .eq 38, 3) := by decide +kernel
theorem dX5_bringUp_16 : decode cX5_bringUp 16 = .ok (.aload_n 0, 1) := by decide +kernel
theorem dX5_bringUp_17 : decode cX5_bringUp 17 = .ok (.getfield 10, 3) := by decide +kernel
theorem dX5_bringUp_20 : decode cX5_bringUp 20 = .ok (.aload_n 0, 1) := by decide +kernel
theorem dX5_bringUp_21 : decode cX5_bringUp 21 = .ok (.getfield 26, 3) := by decide +kernel
theorem dX5_bringUp_24 : decode cX5_bringUp 24 = .ok (.getfield 355, 3) := by decide +kernel
theorem dX5_bringUp_27 : decode cX5_bringUp 27 = .ok (.invokevirtual 358, 3) := by decide +kernel
theorem dX5_bringUp_30 : decode cX5_bringUp 30 = .ok (.aload_n 0, 1) := by decide +kernel
theorem dX5_bringUp_31 : decode cX5_bringUp 31 = .ok (.dup, 1) := by decide +kernel
theorem dX5_bringUp_32 : decode cX5_bringUp 32 = .ok (.getfield 335, 3) := by decide +kernel
theorem dX5_bringUp_35 : decode cX5_bringUp 35 = .ok (.aload_n 0, 1) := by decide +kernel
theorem dX5_bringUp_36 : decode cX5_bringUp 36 = .ok (.getfield 26, 3) := by decide +kernel
theorem dX5_bringUp_39 : decode cX5_bringUp 39 = .ok (.getfield 318, 3) := by decide +kernel
theorem dX5_bringUp_42 : decode cX5_bringUp 42 = .ok (.iadd, 1) := by decide +kernel
theorem dX5_bringUp_43 : decode cX5_bringUp 43 = .ok (.putfield 335, 3) := by decide +kernel
theorem dX5_bringUp_46 : decode cX5_bringUp 46 = .ok (.aload_n 0, 1) := by decide +kernel
theorem dX5_bringUp_47 : decode cX5_bringUp 47 = .ok (.iload_n 1, 1) := by decide +kernel
theorem dX5_bringUp_48 : decode cX5_bringUp 48 = .ok (.putfield 51, 3) := by decide +kernel
theorem dX5_bringUp_51 : decode cX5_bringUp 51 = .ok (.aload_n 0, 1) := by decide +kernel
theorem dX5_bringUp_52 : decode cX5_bringUp 52 = .ok (.getfield 26, 3) := by decide +kernel
theorem dX5_bringUp_55 : decode cX5_bringUp 55 = .ok (.getfield 318, 3) := by decide +kernel
theorem dX5_bringUp_58 : decode cX5_bringUp 58 = .ok (.ireturn, 1) := by decide +kernel
set_option maxRecDepth 20000 in
theorem ggX5_makePlan_X5_bestOffset : GoodIn wsX5_makePlan wsX5_bestOffset := goodIn_r _ [9, 10, 11, 12, 8, 13, 4, 2, 14, 15, 16, 17, 18, 19, 20, 21, 22, 23, 24, 25, 26, 27, 28, 29, 106, 107, 108, 109, 110, 111, 112, 113, 114, 121, 122, 123, 124, 125, 126, 127, 115, 116, 117, 118, 119, 120] (by decide +kernel) (by decide +kernel)
set_option maxRecDepth 20000 in
theorem gX5_makePlan_X5_bestOffset : GoodIn wsX5_makePlan (wsV RX5 308 RX5 yX5_bestOffset wsX5_bestOffset) := goodIn_app (goodIn_of _ (by decide +kernel)) ggX5_makePlan_X5_bestOffset
set_option maxRecDepth 20000 in
theorem ggX5_makePlan_X2_giveUp : GoodIn wsX5_makePlan wsX2_giveUp := goodIn_r _ [33, 34, 128, 129, 130, 131, 132, 133, 134, 135] (by decide +kernel) (by decide +kernel)
set_option maxRecDepth 20000 in
theorem gX5_makePlan_X2_giveUp_n362 : GoodIn wsX5_makePlan (wsX2_giveUp) := ggX5_makePlan_X2_giveUp
set_option maxRecDepth 20000 in
theorem ggX5_makePlan_X5_goalAt : GoodIn wsX5_makePlan wsX5_goalAt := goodIn_r _ [38, 2, 4, 18, 19, 20, 21, 22, 39, 40, 41, 42, 43, 44, 45, 106, 107, 108, 109, 110, 111, 112, 113, 114, 121, 122, 123, 124, 125, 126, 127, 115, 116, 117, 118, 119, 120] (by decide +kernel) (by decide +kernel)
set_option maxRecDepth 20000 in
theorem gX5_makePlan_X5_goalAt : GoodIn wsX5_makePlan (wsV RX5 348 RX5 yX5_goalAt wsX5_goalAt) := goodIn_app (goodIn_of _ (by decide +kernel)) ggX5_makePlan_X5_goalAt
set_option maxRecDepth 20000 in
theorem ggX5_makePlan_X2_begin : GoodIn wsX5_makePlan wsX2_begin := goodIn_r _ [48, 49, 50, 51, 52, 53, 54, 8, 55, 56, 57, 58, 31, 59, 60, 61, 62, 63, 64, 65, 66, 67, 68, 69, 128, 129, 130, 131, 132, 133, 134, 135] (by decide +kernel) (by decide +kernel)
set_option maxRecDepth 20000 in
theorem gX5_makePlan_X2_begin_n365 : GoodIn wsX5_makePlan (wsX2_begin) := ggX5_makePlan_X2_begin
set_option maxRecDepth 20000 in
theorem ggX5_makePlan_X5_says : GoodIn wsX5_makePlan wsX5_says := goodIn_r _ [73, 74, 75, 76, 8, 77, 4, 10, 11, 12, 13, 2, 18, 19, 20, 21, 22, 23, 24, 25, 26, 27, 28, 29, 78, 79, 80, 106, 107, 108, 109, 110, 111, 112, 113, 114, 121, 122, 123, 124, 125, 126, 127, 115, 116, 117, 118, 119, 120] (by decide +kernel) (by decide +kernel)
set_option maxRecDepth 20000 in
theorem gX5_makePlan_X5_says : GoodIn wsX5_makePlan (wsV RX5 314 RX5 yX5_says wsX5_says) := goodIn_app (goodIn_of _ (by decide +kernel)) ggX5_makePlan_X5_says
set_option maxRecDepth 20000 in
theorem ggX5_makePlan_X5_forbidPlacesOf : GoodIn wsX5_makePlan wsX5_forbidPlacesOf := goodIn_r _ [84, 1, 4, 10, 11, 12, 8, 13, 2, 18, 19, 20, 21, 22, 85, 31, 86, 87, 49, 50, 53, 54, 55, 88, 89, 106, 107, 108, 109, 110, 111, 112, 113, 114, 121, 122, 123, 124, 125, 126, 127, 115, 116, 117, 118, 119, 120, 128, 129, 130, 131, 132, 133, 134, 135] (by decide +kernel) (by decide +kernel)
set_option maxRecDepth 20000 in
theorem gX5_makePlan_X5_forbidPlacesOf : GoodIn wsX5_makePlan (wsV RX5 368 RX5 yX5_forbidPlacesOf wsX5_forbidPlacesOf) := goodIn_app (goodIn_of _ (by decide +kernel)) ggX5_makePlan_X5_forbidPlacesOf
set_option maxRecDepth 20000 in
theorem ggX5_makePlan_X2_choose : GoodIn wsX5_makePlan wsX2_choose := goodIn_r _ [92, 53, 52, 34, 93, 88, 8, 89, 68, 69, 94, 95, 96, 31, 97, 98, 99, 100, 101, 60, 51, 102, 103, 104, 105, 128, 129, 130, 131, 132, 133, 134, 135] (by decide +kernel) (by decide +kernel)
set_option maxRecDepth 20000 in
theorem gX5_makePlan_X2_choose_n371 : GoodIn wsX5_makePlan (wsX2_choose) := ggX5_makePlan_X2_choose
theorem dX5_makePlan_0 : decode cX5_makePlan 0 = .ok (.aload_n 0, 1) := by decide +kernel
theorem dX5_makePlan_1 : decode cX5_makePlan 1 = .ok (.iload_n 1, 1) := by decide +kernel
theorem dX5_makePlan_2 : decode cX5_makePlan 2 = .ok (.invokevirtual 308, 3) := by decide +kernel
theorem dX5_makePlan_5 : decode cX5_makePlan 5 = .ok (.istore_n 2, 1) := by decide +kernel
theorem dX5_makePlan_6 : decode cX5_makePlan 6 = .ok (.iload_n 2, 1) := by decide +kernel
theorem dX5_makePlan_7 : decode cX5_makePlan 7 = .ok (.iconst (-1), 1) := by decide +kernel
theorem dX5_makePlan_8 : decode cX5_makePlan 8 = .ok (.if_icmp .ne 11, 3) := by decide +kernel
theorem dX5_makePlan_11 : decode cX5_makePlan 11 = .ok (.aload_n 0, 1) := by decide +kernel
theorem dX5_makePlan_12 : decode cX5_makePlan 12 = .ok (.getfield 26, 3) := by decide +kernel
theorem dX5_makePlan_15 : decode cX5_makePlan 15 = .ok (.invokevirtual 362, 3) := by decide +kernel
theorem dX5_makePlan_18 : decode cX5_makePlan 18 = .ok (.return_, 1) := by decide +kernel
theorem dX5_makePlan_19 : decode cX5_makePlan 19 = .ok (.aload_n 0, 1) := by decide +kernel
theorem dX5_makePlan_20 : decode cX5_makePlan 20 = .ok (.getfield 26, 3) := by decide +kernel
theorem dX5_makePlan_23 : decode cX5_makePlan 23 = .ok (.aload_n 0, 1) := by decide +kernel
theorem dX5_makePlan_24 : decode cX5_makePlan 24 = .ok (.getfield 10, 3) := by decide +kernel
theorem dX5_makePlan_27 : decode cX5_makePlan 27 = .ok (.getfield 287, 3) := by decide +kernel
theorem dX5_makePlan_30 : decode cX5_makePlan 30 = .ok (.aload_n 0, 1) := by decide +kernel
theorem dX5_makePlan_31 : decode cX5_makePlan 31 = .ok (.iload_n 1, 1) := by decide +kernel
theorem dX5_makePlan_32 : decode cX5_makePlan 32 = .ok (.iload_n 2, 1) := by decide +kernel
theorem dX5_makePlan_33 : decode cX5_makePlan 33 = .ok (.invokevirtual 348, 3) := by decide +kernel
theorem dX5_makePlan_36 : decode cX5_makePlan 36 = .ok (.aload_n 0, 1) := by decide +kernel
theorem dX5_makePlan_37 : decode cX5_makePlan 37 = .ok (.getfield 44, 3) := by decide +kernel
theorem dX5_makePlan_40 : decode cX5_makePlan 40 = .ok (.invokevirtual 365, 3) := by decide +kernel
theorem dX5_makePlan_43 : decode cX5_makePlan 43 = .ok (.iconst 0, 1) := by decide +kernel
theorem dX5_makePlan_44 : decode cX5_makePlan 44 = .ok (.istore_n 3, 1) := by decide +kernel
theorem dX5_makePlan_45 : decode cX5_makePlan 45 = .ok (.iload_n 3, 1) := by decide +kernel
theorem dX5_makePlan_46 : decode cX5_makePlan 46 = .ok (.aload_n 0, 1) := by decide +kernel
theorem dX5_makePlan_47 : decode cX5_makePlan 47 = .ok (.getfield 19, 3) := by decide +kernel
theorem dX5_makePlan_50 : decode cX5_makePlan 50 = .ok (.getfield 95, 3) := by decide +kernel
theorem dX5_makePlan_53 : decode cX5_makePlan 53 = .ok (.if_icmp .ge 34, 3) := by decide +kernel
theorem dX5_makePlan_56 : decode cX5_makePlan 56 = .ok (.iload_n 3, 1) := by decide +kernel
theorem dX5_makePlan_57 : decode cX5_makePlan 57 = .ok (.iload_n 1, 1) := by decide +kernel
theorem dX5_makePlan_58 : decode cX5_makePlan 58 = .ok (.if_icmp .eq 23, 3) := by decide +kernel
theorem dX5_makePlan_61 : decode cX5_makePlan 61 = .ok (.aload_n 0, 1) := by decide +kernel
theorem dX5_makePlan_62 : decode cX5_makePlan 62 = .ok (.aload_n 0, 1) := by decide +kernel
theorem dX5_makePlan_63 : decode cX5_makePlan 63 = .ok (.getfield 10, 3) := by decide +kernel
theorem dX5_makePlan_66 : decode cX5_makePlan 66 = .ok (.getfield 287, 3) := by decide +kernel
theorem dX5_makePlan_69 : decode cX5_makePlan 69 = .ok (.iload_n 3, 1) := by decide +kernel
theorem dX5_makePlan_70 : decode cX5_makePlan 70 = .ok (.invokevirtual 314, 3) := by decide +kernel
theorem dX5_makePlan_73 : decode cX5_makePlan 73 = .ok (.ifCond .ne 8, 3) := by decide +kernel
theorem dX5_makePlan_76 : decode cX5_makePlan 76 = .ok (.aload_n 0, 1) := by decide +kernel
theorem dX5_makePlan_77 : decode cX5_makePlan 77 = .ok (.iload_n 3, 1) := by decide +kernel
theorem dX5_makePlan_78 : decode cX5_makePlan 78 = .ok (.invokevirtual 368, 3) := by decide +kernel
theorem dX5_makePlan_81 : decode cX5_makePlan 81 = .ok (.iinc 3 1, 3) := by decide +kernel
theorem dX5_makePlan_84 : decode cX5_makePlan 84 = .ok (.goto (-39), 3) := by decide +kernel
theorem dX5_makePlan_87 : decode cX5_makePlan 87 = .ok (.aload_n 0, 1) := by decide +kernel
theorem dX5_makePlan_88 : decode cX5_makePlan 88 = .ok (.getfield 26, 3) := by decide +kernel
theorem dX5_makePlan_91 : decode cX5_makePlan 91 = .ok (.invokevirtual 371, 3) := by decide +kernel
theorem dX5_makePlan_94 : decode cX5_makePlan 94 = .ok (.return_, 1) := by decide +kernel
set_option maxRecDepth 20000 in
theorem ggX5_forbidPlacesOf_X5_lastOffset : GoodIn wsX5_forbidPlacesOf wsX5_lastOffset := goodIn_r _ [7, 2, 8, 25, 26, 27, 28, 29, 30, 31, 32, 33, 34, 35, 36, 37, 38, 39, 40, 41, 42, 43, 44, 45, 46] (by decide +kernel) (by decide +kernel)
set_option maxRecDepth 20000 in
theorem gX5_forbidPlacesOf_X5_lastOffset : GoodIn wsX5_forbidPlacesOf (wsV RX5 247 RX5 yX5_lastOffset wsX5_lastOffset) := goodIn_app (goodIn_of _ (by decide +kernel)) ggX5_forbidPlacesOf_X5_lastOffset
set_option maxRecDepth 20000 in
theorem ggX5_forbidPlacesOf_X1_placed : GoodIn wsX5_forbidPlacesOf wsX1_placed := goodIn_r _ [12, 13, 34, 35, 36, 37, 38, 39, 40] (by decide +kernel) (by decide +kernel)
set_option maxRecDepth 20000 in
theorem gX5_forbidPlacesOf_X1_placed_n250 : GoodIn wsX5_forbidPlacesOf (wsX1_placed) := ggX5_forbidPlacesOf_X1_placed
set_option maxRecDepth 20000 in
theorem ggX5_forbidPlacesOf_X2_forbid : GoodIn wsX5_forbidPlacesOf wsX2_forbid := goodIn_r _ [17, 18, 19, 20, 21, 6, 22, 23, 24, 47, 48, 49, 50, 51, 52, 53, 54] (by decide +kernel) (by decide +kernel)
set_option maxRecDepth 20000 in
theorem gX5_forbidPlacesOf_X2_forbid_n374 : GoodIn wsX5_forbidPlacesOf (wsX2_forbid) := ggX5_forbidPlacesOf_X2_forbid
theorem dX5_forbidPlacesOf_0 : decode cX5_forbidPlacesOf 0 = .ok (.iconst 0, 1) := by decide +kernel
theorem dX5_forbidPlacesOf_1 : decode cX5_forbidPlacesOf 1 = .ok (.istore_n 2, 1) := by decide +kernel
theorem dX5_forbidPlacesOf_2 : decode cX5_forbidPlacesOf 2 = .ok (.iload_n 2, 1) := by decide +kernel
theorem dX5_forbidPlacesOf_3 : decode cX5_forbidPlacesOf 3 = .ok (.aload_n 0, 1) := by decide +kernel
theorem dX5_forbidPlacesOf_4 : decode cX5_forbidPlacesOf 4 = .ok (.iload_n 1, 1) := by decide +kernel
theorem dX5_forbidPlacesOf_5 : decode cX5_forbidPlacesOf 5 = .ok (.invokevirtual 247, 3) := by decide +kernel
theorem dX5_forbidPlacesOf_8 : decode cX5_forbidPlacesOf 8 = .ok (.if_icmp .gt 25, 3) := by decide +kernel
theorem dX5_forbidPlacesOf_11 : decode cX5_forbidPlacesOf 11 = .ok (.aload_n 0, 1) := by decide +kernel
theorem dX5_forbidPlacesOf_12 : decode cX5_forbidPlacesOf 12 = .ok (.getfield 26, 3) := by decide +kernel
theorem dX5_forbidPlacesOf_15 : decode cX5_forbidPlacesOf 15 = .ok (.aload_n 0, 1) := by decide +kernel
theorem dX5_forbidPlacesOf_16 : decode cX5_forbidPlacesOf 16 = .ok (.getfield 19, 3) := by decide +kernel
theorem dX5_forbidPlacesOf_19 : decode cX5_forbidPlacesOf 19 = .ok (.iload_n 1, 1) := by decide +kernel
theorem dX5_forbidPlacesOf_20 : decode cX5_forbidPlacesOf 20 = .ok (.iload_n 2, 1) := by decide +kernel
theorem dX5_forbidPlacesOf_21 : decode cX5_forbidPlacesOf 21 = .ok (.invokevirtual 250, 3) := by decide +kernel
theorem dX5_forbidPlacesOf_24 : decode cX5_forbidPlacesOf 24 = .ok (.invokevirtual 374, 3) := by decide +kernel
theorem dX5_forbidPlacesOf_27 : decode cX5_forbidPlacesOf 27 = .ok (.iinc 2 1, 3) := by decide +kernel
theorem dX5_forbidPlacesOf_30 : decode cX5_forbidPlacesOf 30 = .ok (.goto (-28), 3) := by decide +kernel
theorem dX5_forbidPlacesOf_33 : decode cX5_forbidPlacesOf 33 = .ok (.return_, 1) := by decide +kernel
set_option maxRecDepth 20000 in
theorem ggX5_planIsTrue_X5_makePlan : GoodIn wsX5_planIsTrue wsX5_makePlan := goodIn_r _ [6, 1, 7, 8, 9, 10, 11, 12, 5, 13, 14, 15, 16, 17, 18, 19, 20, 21, 22, 23, 24, 25, 26, 27, 28, 29, 30, 31, 32, 33, 34, 35, 36, 37, 38, 39, 40, 41, 42, 43, 44, 45, 46, 47, 48, 49, 50, 51, 52, 53, 54, 55, 56, 57, 58, 59, 60, 61, 62, 63, 64, 65, 66, 67, 68, 69, 70, 71, 72, 73, 74, 75, 76, 77, 78, 79, 80, 81, 82, 83, 84, 85, 86, 87, 88, 89, 90, 91, 92, 93, 94, 95, 96, 97, 98, 99, 100, 101, 102, 103, 104, 105, 106, 107, 108, 109, 123, 124, 125, 126, 127, 128, 129, 130, 131, 140, 141, 142, 143, 144, 145, 146, 147, 148, 149, 150, 151, 152, 132, 133, 134, 135, 136, 137, 138, 139] (by decide +kernel) (by decide +kernel)
set_option maxRecDepth 20000 in
theorem gX5_planIsTrue_X5_makePlan : GoodIn wsX5_planIsTrue (wsV RX5 210 RX5 yX5_makePlan wsX5_makePlan) := goodIn_app (goodIn_of _ (by decide +kernel)) ggX5_planIsTrue_X5_makePlan
set_option maxRecDepth 20000 in
theorem ggX5_planIsTrue_X2_setOf : GoodIn wsX5_planIsTrue wsX2_setOf := goodIn_r _ [112, 38, 97, 72, 5, 73, 132, 133, 134, 135, 136, 137, 138, 139] (by decide +kernel) (by decide +kernel)
set_option maxRecDepth 20000 in
theorem gX5_planIsTrue_X2_setOf_n218 : GoodIn wsX5_planIsTrue (wsX2_setOf) := ggX5_planIsTrue_X2_setOf
set_option maxRecDepth 20000 in
theorem ggX5_planIsTrue_X2_pictureBehind : GoodIn wsX5_planIsTrue wsX2_pictureBehind := goodIn_r _ [115, 53, 54, 116, 117, 5, 118, 132, 133, 134, 135, 136, 137, 138, 139] (by decide +kernel) (by decide +kernel)
set_option maxRecDepth 20000 in
theorem gX5_planIsTrue_X2_pictureBehind_n377 : GoodIn wsX5_planIsTrue (wsX2_pictureBehind) := ggX5_planIsTrue_X2_pictureBehind
set_option maxRecDepth 20000 in
theorem ggX5_planIsTrue_X5_isWrong : GoodIn wsX5_planIsTrue wsX5_isWrong := goodIn_r _ [122, 9, 7, 74, 75, 76, 5, 77, 78, 79, 80, 81, 14, 15, 16, 17, 22, 23, 24, 25, 26, 27, 28, 29, 30, 31, 32, 33, 82, 83, 84, 123, 124, 125, 126, 127, 128, 129, 130, 131, 146, 147, 148, 149, 150, 151, 152, 140, 141, 142, 143, 144, 145] (by decide +kernel) (by decide +kernel)
set_option maxRecDepth 20000 in
theorem gX5_planIsTrue_X5_isWrong : GoodIn wsX5_planIsTrue (wsV RX5 381 RX5 yX5_isWrong wsX5_isWrong) := goodIn_app (goodIn_of _ (by decide +kernel)) ggX5_planIsTrue_X5_isWrong
theorem dX5_planIsTrue_0 : decode cX5_planIsTrue 0 = .ok (.aload_n 0, 1) := by decide +kernel
theorem dX5_planIsTrue_1 : decode cX5_planIsTrue 1 = .ok (.iload_n 1, 1) := by decide +kernel
theorem dX5_planIsTrue_2 : decode cX5_planIsTrue 2 = .ok (.invokevirtual 210, 3) := by decide +kernel
theorem dX5_planIsTrue_5 : decode cX5_planIsTrue 5 = .ok (.iconst 0, 1) := by decide +kernel
theorem dX5_planIsTrue_6 : decode cX5_planIsTrue 6 = .ok (.istore_n 2, 1) := by decide +kernel
theorem dX5_planIsTrue_7 : decode cX5_planIsTrue 7 = .ok (.iconst 0, 1) := by decide +kernel
theorem dX5_planIsTrue_8 : decode cX5_planIsTrue 8 = .ok (.istore_n 3, 1) := by decide +kernel
theorem dX5_planIsTrue_9 : decode cX5_planIsTrue 9 = .ok (.iload_n 3, 1) := by decide +kernel
theorem dX5_planIsTrue_10 : decode cX5_planIsTrue 10 = .ok (.aload_n 0, 1) := by decide +kernel
theorem dX5_planIsTrue_11 : decode cX5_planIsTrue 11 = .ok (.getfield 26, 3) := by decide +kernel
theorem dX5_planIsTrue_14 : decode cX5_planIsTrue 14 = .ok (.getfield 318, 3) := by decide +kernel
theorem dX5_planIsTrue_17 : decode cX5_planIsTrue 17 = .ok (.iconst 1, 1) := by decide +kernel
theorem dX5_planIsTrue_18 : decode cX5_planIsTrue 18 = .ok (.isub, 1) := by decide +kernel
theorem dX5_planIsTrue_19 : decode cX5_planIsTrue 19 = .ok (.if_icmp .ge 38, 3) := by decide +kernel
theorem dX5_planIsTrue_22 : decode cX5_planIsTrue 22 = .ok (.iload_n 2, 1) := by decide +kernel
theorem dX5_planIsTrue_23 : decode cX5_planIsTrue 23 = .ok (.aload_n 0, 1) := by decide +kernel
theorem dX5_planIsTrue_24 : decode cX5_planIsTrue 24 = .ok (.getfield 26, 3) := by decide +kernel
theorem dX5_planIsTrue_27 : decode cX5_planIsTrue 27 = .ok (.iload_n 3, 1) := by decide +kernel
theorem dX5_planIsTrue_28 : decode cX5_planIsTrue 28 = .ok (.invokevirtual 218, 3) := by decide +kernel
theorem dX5_planIsTrue_31 : decode cX5_planIsTrue 31 = .ok (.ior, 1) := by decide +kernel
theorem dX5_planIsTrue_32 : decode cX5_planIsTrue 32 = .ok (.istore_n 2, 1) := by decide +kernel
theorem dX5_planIsTrue_33 : decode cX5_planIsTrue 33 = .ok (.aload_n 0, 1) := by decide +kernel
theorem dX5_planIsTrue_34 : decode cX5_planIsTrue 34 = .ok (.aload_n 0, 1) := by decide +kernel
theorem dX5_planIsTrue_35 : decode cX5_planIsTrue 35 = .ok (.getfield 26, 3) := by decide +kernel
theorem dX5_planIsTrue_38 : decode cX5_planIsTrue 38 = .ok (.iload_n 2, 1) := by decide +kernel
theorem dX5_planIsTrue_39 : decode cX5_planIsTrue 39 = .ok (.invokevirtual 377, 3) := by decide +kernel
theorem dX5_planIsTrue_42 : decode cX5_planIsTrue 42 = .ok (.iload_n 1, 1) := by decide +kernel
theorem dX5_planIsTrue_43 : decode cX5_planIsTrue 43 = .ok (.invokevirtual 381, 3) := by decide +kernel
theorem dX5_planIsTrue_46 : decode cX5_planIsTrue 46 = .ok (.ifCond .eq 5, 3) := by decide +kernel
theorem dX5_planIsTrue_49 : decode cX5_planIsTrue 49 = .ok (.iconst 0, 1) := by decide +kernel
theorem dX5_planIsTrue_50 : decode cX5_planIsTrue 50 = .ok (.ireturn, 1) := by decide +kernel
theorem dX5_planIsTrue_51 : decode cX5_planIsTrue 51 = .ok (.iinc 3 1, 3) := by decide +kernel
theorem dX5_planIsTrue_54 : decode cX5_planIsTrue 54 = .ok (.goto (-45), 3) := by decide +kernel
theorem dX5_planIsTrue_57 : decode cX5_planIsTrue 57 = .ok (.iconst 1, 1) := by decide +kernel
theorem dX5_planIsTrue_58 : decode cX5_planIsTrue 58 = .ok (.ireturn, 1) := by decide +kernel
set_option maxRecDepth 20000 in
theorem ggX5_isWrong_X5_says : GoodIn wsX5_isWrong wsX5_says := goodIn_r _ [7, 8, 9, 10, 6, 11, 1, 12, 13, 14, 15, 2, 16, 17, 18, 19, 20, 21, 22, 23, 24, 25, 26, 27, 28, 29, 30, 31, 32, 33, 34, 35, 36, 37, 38, 39, 40, 41, 42, 43, 44, 45, 46, 47, 48, 49, 50, 51, 52] (by decide +kernel) (by decide +kernel)
set_option maxRecDepth 20000 in
theorem gX5_isWrong_X5_says : GoodIn wsX5_isWrong (wsV RX5 314 RX5 yX5_says wsX5_says) := goodIn_app (goodIn_of _ (by decide +kernel)) ggX5_isWrong_X5_says
theorem dX5_isWrong_0 : decode cX5_isWrong 0 = .ok (.iconst 0, 1) := by decide +kernel
theorem dX5_isWrong_1 : decode cX5_isWrong 1 = .ok (.istore 4, 2) := by decide +kernel
theorem dX5_isWrong_3 : decode cX5_isWrong 3 = .ok (.iload 4, 2) := by decide +kernel
theorem dX5_isWrong_5 : decode cX5_isWrong 5 = .ok (.aload_n 0, 1) := by decide +kernel
theorem dX5_isWrong_6 : decode cX5_isWrong 6 = .ok (.getfield 19, 3) := by decide +kernel
theorem dX5_isWrong_9 : decode cX5_isWrong 9 = .ok (.getfield 95, 3) := by decide +kernel
theorem dX5_isWrong_12 : decode cX5_isWrong 12 = .ok (.if_icmp .ge 43, 3) := by decide +kernel
theorem dX5_isWrong_15 : decode cX5_isWrong 15 = .ok (.iload 4, 2) := by decide +kernel
theorem dX5_isWrong_17 : decode cX5_isWrong 17 = .ok (.iload_n 3, 1) := by decide +kernel
theorem dX5_isWrong_18 : decode cX5_isWrong 18 = .ok (.if_icmp .eq 31, 3) := by decide +kernel
theorem dX5_isWrong_21 : decode cX5_isWrong 21 = .ok (.aload_n 0, 1) := by decide +kernel
theorem dX5_isWrong_22 : decode cX5_isWrong 22 = .ok (.lload_n 1, 1) := by decide +kernel
theorem dX5_isWrong_23 : decode cX5_isWrong 23 = .ok (.iload 4, 2) := by decide +kernel
theorem dX5_isWrong_25 : decode cX5_isWrong 25 = .ok (.invokevirtual 314, 3) := by decide +kernel
theorem dX5_isWrong_28 : decode cX5_isWrong 28 = .ok (.ifCond .eq 21, 3) := by decide +kernel
theorem dX5_isWrong_31 : decode cX5_isWrong 31 = .ok (.aload_n 0, 1) := by decide +kernel
theorem dX5_isWrong_32 : decode cX5_isWrong 32 = .ok (.aload_n 0, 1) := by decide +kernel
theorem dX5_isWrong_33 : decode cX5_isWrong 33 = .ok (.getfield 10, 3) := by decide +kernel
theorem dX5_isWrong_36 : decode cX5_isWrong 36 = .ok (.getfield 287, 3) := by decide +kernel
theorem dX5_isWrong_39 : decode cX5_isWrong 39 = .ok (.iload 4, 2) := by decide +kernel
theorem dX5_isWrong_41 : decode cX5_isWrong 41 = .ok (.invokevirtual 314, 3) := by decide +kernel
theorem dX5_isWrong_44 : decode cX5_isWrong 44 = .ok (.ifCond .ne 5, 3) := by decide +kernel
theorem dX5_isWrong_47 : decode cX5_isWrong 47 = .ok (.iconst 1, 1) := by decide +kernel
theorem dX5_isWrong_48 : decode cX5_isWrong 48 = .ok (.ireturn, 1) := by decide +kernel
theorem dX5_isWrong_49 : decode cX5_isWrong 49 = .ok (.iinc 4 1, 3) := by decide +kernel
theorem dX5_isWrong_52 : decode cX5_isWrong 52 = .ok (.goto (-49), 3) := by decide +kernel
theorem dX5_isWrong_55 : decode cX5_isWrong 55 = .ok (.iconst 0, 1) := by decide +kernel
theorem dX5_isWrong_56 : decode cX5_isWrong 56 = .ok (.ireturn, 1) := by decide +kernel
theorem dX5_bitOf_0 : decode cX5_bitOf 0 = .ok (.iconst 5, 1) := by decide +kernel
theorem dX5_bitOf_1 : decode cX5_bitOf 1 = .ok (.iload_n 0, 1) := by decide +kernel
theorem dX5_bitOf_2 : decode cX5_bitOf 2 = .ok (.imul, 1) := by decide +kernel
theorem dX5_bitOf_3 : decode cX5_bitOf 3 = .ok (.iload_n 1, 1) := by decide +kernel
theorem dX5_bitOf_4 : decode cX5_bitOf 4 = .ok (.iadd, 1) := by decide +kernel
theorem dX5_bitOf_5 : decode cX5_bitOf 5 = .ok (.ireturn, 1) := by decide +kernel
set_option maxRecDepth 20000 in
theorem ggX5_dotIn_X5_bitOf : GoodIn wsX5_dotIn wsX5_bitOf := goodIn_r _ [4] (by decide +kernel) (by decide +kernel)
set_option maxRecDepth 20000 in
theorem gX5_dotIn_X5_bitOf : GoodIn wsX5_dotIn (va_wsS RX5 199 yX5_bitOf wsX5_bitOf) := goodIn_app (goodIn_of _ (by decide +kernel)) ggX5_dotIn_X5_bitOf
theorem dX5_dotIn_0 : decode cX5_dotIn 0 = .ok (.lconst 1, 1) := by decide +kernel
theorem dX5_dotIn_1 : decode cX5_dotIn 1 = .ok (.iload_n 0, 1) := by decide +kernel
theorem dX5_dotIn_2 : decode cX5_dotIn 2 = .ok (.iload_n 1, 1) := by decide +kernel
theorem dX5_dotIn_3 : decode cX5_dotIn 3 = .ok (.invokestatic 199, 3) := by decide +kernel
theorem dX5_dotIn_6 : decode cX5_dotIn 6 = .ok (.lshl, 1) := by decide +kernel
theorem dX5_dotIn_7 : decode cX5_dotIn 7 = .ok (.lreturn, 1) := by decide +kernel
theorem dX5_setIn_0 : decode cX5_setIn 0 = .ok (.lload_n 0, 1) := by decide +kernel
theorem dX5_setIn_1 : decode cX5_setIn 1 = .ok (.iconst 5, 1) := by decide +kernel
theorem dX5_setIn_2 : decode cX5_setIn 2 = .ok (.iload_n 2, 1) := by decide +kernel
theorem dX5_setIn_3 : decode cX5_setIn 3 = .ok (.imul, 1) := by decide +kernel
theorem dX5_setIn_4 : decode cX5_setIn 4 = .ok (.lushr, 1) := by decide +kernel
theorem dX5_setIn_5 : decode cX5_setIn 5 = .ok (.l2i, 1) := by decide +kernel
theorem dX5_setIn_6 : decode cX5_setIn 6 = .ok (.bipush 31, 2) := by decide +kernel
theorem dX5_setIn_8 : decode cX5_setIn 8 = .ok (.iand, 1) := by decide +kernel
theorem dX5_setIn_9 : decode cX5_setIn 9 = .ok (.ireturn, 1) := by decide +kernel
theorem dX5_lesser_0 : decode cX5_lesser 0 = .ok (.iload_n 0, 1) := by decide +kernel
theorem dX5_lesser_1 : decode cX5_lesser 1 = .ok (.iconst (-1), 1) := by decide +kernel
theorem dX5_lesser_2 : decode cX5_lesser 2 = .ok (.if_icmp .eq 13, 3) := by decide +kernel
theorem dX5_lesser_5 : decode cX5_lesser 5 = .ok (.iload_n 1, 1) := by decide +kernel
theorem dX5_lesser_6 : decode cX5_lesser 6 = .ok (.iconst (-1), 1) := by decide +kernel
theorem dX5_lesser_7 : decode cX5_lesser 7 = .ok (.if_icmp .eq 12, 3) := by decide +kernel
theorem dX5_lesser_10 : decode cX5_lesser 10 = .ok (.iload_n 1, 1) := by decide +kernel
theorem dX5_lesser_11 : decode cX5_lesser 11 = .ok (.iload_n 0, 1) := by decide +kernel
theorem dX5_lesser_12 : decode cX5_lesser 12 = .ok (.if_icmp .ge 7, 3) := by decide +kernel
theorem dX5_lesser_15 : decode cX5_lesser 15 = .ok (.iload_n 1, 1) := by decide +kernel
theorem dX5_lesser_16 : decode cX5_lesser 16 = .ok (.goto 4, 3) := by decide +kernel
theorem dX5_lesser_19 : decode cX5_lesser 19 = .ok (.iload_n 0, 1) := by decide +kernel
theorem dX5_lesser_20 : decode cX5_lesser 20 = .ok (.ireturn, 1) := by decide +kernel
theorem dX5_at_0 : decode cX5_at 0 = .ok (.iload_n 1, 1) := by decide +kernel
theorem dX5_at_1 : decode cX5_at 1 = .ok (.ifCond .lt 15, 3) := by decide +kernel
theorem dX5_at_4 : decode cX5_at 4 = .ok (.iload_n 1, 1) := by decide +kernel
theorem dX5_at_5 : decode cX5_at 5 = .ok (.aload_n 0, 1) := by decide +kernel
theorem dX5_at_6 : decode cX5_at 6 = .ok (.arraylength, 1) := by decide +kernel
theorem dX5_at_7 : decode cX5_at 7 = .ok (.if_icmp .ge 9, 3) := by decide +kernel
theorem dX5_at_10 : decode cX5_at 10 = .ok (.aload_n 0, 1) := by decide +kernel
theorem dX5_at_11 : decode cX5_at 11 = .ok (.iload_n 1, 1) := by decide +kernel
theorem dX5_at_12 : decode cX5_at 12 = .ok (.iaload, 1) := by decide +kernel
theorem dX5_at_13 : decode cX5_at 13 = .ok (.goto 4, 3) := by decide +kernel
theorem dX5_at_16 : decode cX5_at 16 = .ok (.iconst 0, 1) := by decide +kernel
theorem dX5_at_17 : decode cX5_at 17 = .ok (.ireturn, 1) := by decide +kernel
theorem dX5_put_0 : decode cX5_put 0 = .ok (.iload_n 1, 1) := by decide +kernel
theorem dX5_put_1 : decode cX5_put 1 = .ok (.ifCond .lt 13, 3) := by decide +kernel
theorem dX5_put_4 : decode cX5_put 4 = .ok (.iload_n 1, 1) := by decide +kernel
theorem dX5_put_5 : decode cX5_put 5 = .ok (.aload_n 0, 1) := by decide +kernel
theorem dX5_put_6 : decode cX5_put 6 = .ok (.arraylength, 1) := by decide +kernel
theorem dX5_put_7 : decode cX5_put 7 = .ok (.if_icmp .ge 7, 3) := by decide +kernel
theorem dX5_put_10 : decode cX5_put 10 = .ok (.aload_n 0, 1) := by decide +kernel
theorem dX5_put_11 : decode cX5_put 11 = .ok (.iload_n 1, 1) := by decide +kernel
theorem dX5_put_12 : decode cX5_put 12 = .ok (.iload_n 2, 1) := by decide +kernel
theorem dX5_put_13 : decode cX5_put 13 = .ok (.iastore, 1) := by decide +kernel
theorem dX5_put_14 : decode cX5_put 14 = .ok (.return_, 1) := by decide +kernel
theorem dX5_put__0 : decode cX5_put_ 0 = .ok (.iload_n 1, 1) := by decide +kernel
theorem dX5_put__1 : decode cX5_put_ 1 = .ok (.ifCond .lt 13, 3) := by decide +kernel
theorem dX5_put__4 : decode cX5_put_ 4 = .ok (.iload_n 1, 1) := by decide +kernel
theorem dX5_put__5 : decode cX5_put_ 5 = .ok (.aload_n 0, 1) := by decide +kernel
theorem dX5_put__6 : decode cX5_put_ 6 = .ok (.arraylength, 1) := by decide +kernel
theorem dX5_put__7 : decode cX5_put_ 7 = .ok (.if_icmp .ge 7, 3) := by decide +kernel
theorem dX5_put__10 : decode cX5_put_ 10 = .ok (.aload_n 0, 1) := by decide +kernel
theorem dX5_put__11 : decode cX5_put_ 11 = .ok (.iload_n 1, 1) := by decide +kernel
theorem dX5_put__12 : decode cX5_put_ 12 = .ok (.lload_n 2, 1) := by decide +kernel
theorem dX5_put__13 : decode cX5_put_ 13 = .ok (.lastore, 1) := by decide +kernel
theorem dX5_put__14 : decode cX5_put_ 14 = .ok (.return_, 1) := by decide +kernel
theorem dJ6_bitCount_0f7a4_0 : decode cJ6_bitCount_0f7a4 0 = .ok (.iload_n 0, 1) := by decide +kernel
theorem dJ6_bitCount_0f7a4_1 : decode cJ6_bitCount_0f7a4 1 = .ok (.iload_n 0, 1) := by decide +kernel
theorem dJ6_bitCount_0f7a4_2 : decode cJ6_bitCount_0f7a4 2 = .ok (.iconst 1, 1) := by decide +kernel
theorem dJ6_bitCount_0f7a4_3 : decode cJ6_bitCount_0f7a4 3 = .ok (.iushr, 1) := by decide +kernel
theorem dJ6_bitCount_0f7a4_4 : decode cJ6_bitCount_0f7a4 4 = .ok (.ldc_w 265, 3) := by decide +kernel
theorem dJ6_bitCount_0f7a4_7 : decode cJ6_bitCount_0f7a4 7 = .ok (.iand, 1) := by decide +kernel
theorem dJ6_bitCount_0f7a4_8 : decode cJ6_bitCount_0f7a4 8 = .ok (.isub, 1) := by decide +kernel
theorem dJ6_bitCount_0f7a4_9 : decode cJ6_bitCount_0f7a4 9 = .ok (.istore_n 0, 1) := by decide +kernel
theorem dJ6_bitCount_0f7a4_10 : decode cJ6_bitCount_0f7a4 10 = .ok (.iload_n 0, 1) := by decide +kernel
theorem dJ6_bitCount_0f7a4_11 : decode cJ6_bitCount_0f7a4 11 = .ok (.ldc_w 266, 3) := by decide +kernel
theorem dJ6_bitCount_0f7a4_14 : decode cJ6_bitCount_0f7a4 14 = .ok (.iand, 1) := by decide +kernel
theorem dJ6_bitCount_0f7a4_15 : decode cJ6_bitCount_0f7a4 15 = .ok (.iload_n 0, 1) := by decide +kernel
theorem dJ6_bitCount_0f7a4_16 : decode cJ6_bitCount_0f7a4 16 = .ok (.iconst 2, 1) := by decide +kernel
theorem dJ6_bitCount_0f7a4_17 : decode cJ6_bitCount_0f7a4 17 = .ok (.iushr, 1) := by decide +kernel
theorem dJ6_bitCount_0f7a4_18 : decode cJ6_bitCount_0f7a4 18 = .ok (.ldc_w 266, 3) := by decide +kernel
theorem dJ6_bitCount_0f7a4_21 : decode cJ6_bitCount_0f7a4 21 = .ok (.iand, 1) := by decide +kernel
theorem dJ6_bitCount_0f7a4_22 : decode cJ6_bitCount_0f7a4 22 = .ok (.iadd, 1) := by decide +kernel
theorem dJ6_bitCount_0f7a4_23 : decode cJ6_bitCount_0f7a4 23 = .ok (.istore_n 0, 1) := by decide +kernel
theorem dJ6_bitCount_0f7a4_24 : decode cJ6_bitCount_0f7a4 24 = .ok (.iload_n 0, 1) := by decide +kernel
theorem dJ6_bitCount_0f7a4_25 : decode cJ6_bitCount_0f7a4 25 = .ok (.iload_n 0, 1) := by decide +kernel
theorem dJ6_bitCount_0f7a4_26 : decode cJ6_bitCount_0f7a4 26 = .ok (.iconst 4, 1) := by decide +kernel
theorem dJ6_bitCount_0f7a4_27 : decode cJ6_bitCount_0f7a4 27 = .ok (.iushr, 1) := by decide +kernel
theorem dJ6_bitCount_0f7a4_28 : decode cJ6_bitCount_0f7a4 28 = .ok (.iadd, 1) := by decide +kernel
theorem dJ6_bitCount_0f7a4_29 : decode cJ6_bitCount_0f7a4 29 = .ok (.ldc_w 267, 3) := by decide +kernel
theorem dJ6_bitCount_0f7a4_32 : decode cJ6_bitCount_0f7a4 32 = .ok (.iand, 1) := by decide +kernel
theorem dJ6_bitCount_0f7a4_33 : decode cJ6_bitCount_0f7a4 33 = .ok (.istore_n 0, 1) := by decide +kernel
theorem dJ6_bitCount_0f7a4_34 : decode cJ6_bitCount_0f7a4 34 = .ok (.iload_n 0, 1) := by decide +kernel
theorem dJ6_bitCount_0f7a4_35 : decode cJ6_bitCount_0f7a4 35 = .ok (.iload_n 0, 1) := by decide +kernel
theorem dJ6_bitCount_0f7a4_36 : decode cJ6_bitCount_0f7a4 36 = .ok (.bipush 8, 2) := by decide +kernel
theorem dJ6_bitCount_0f7a4_38 : decode cJ6_bitCount_0f7a4 38 = .ok (.iushr, 1) := by decide +kernel

theorem dX9_wish_2 : decode cX9_wish 2 = .ok (.iload_n 2, 1) := by decide +kernel
theorem dX9_wish_3 : decode cX9_wish 3 = .ok (.invokevirtual 204, 3) := by decide +kernel
theorem dX9_wish_6 : decode cX9_wish 6 = .ok (.istore_n 3, 1) := by decide +kernel
theorem dX9_wish_7 : decode cX9_wish 7 = .ok (.iload_n 3, 1) := by decide +kernel
theorem dX9_wish_8 : decode cX9_wish 8 = .ok (.ifCond .eq 5, 3) := by decide +kernel
theorem dX9_wish_11 : decode cX9_wish 11 = .ok (.iload_n 3, 1) := by decide +kernel
theorem dX9_wish_12 : decode cX9_wish 12 = .ok (.ireturn, 1) := by decide +kernel
theorem dX9_wish_13 : decode cX9_wish 13 = .ok (.aload_n 0, 1) := by decide +kernel
theorem dX9_wish_14 : decode cX9_wish 14 = .ok (.getfield 61, 3) := by decide +kernel
theorem dX9_wish_17 : decode cX9_wish 17 = .ok (.aload_n 0, 1) := by decide +kernel
theorem dX9_wish_18 : decode cX9_wish 18 = .ok (.getfield 19, 3) := by decide +kernel
theorem dX9_wish_21 : decode cX9_wish 21 = .ok (.iload_n 1, 1) := by decide +kernel
theorem dX9_wish_22 : decode cX9_wish 22 = .ok (.iload_n 2, 1) := by decide +kernel
theorem dX9_wish_23 : decode cX9_wish 23 = .ok (.invokevirtual 207, 3) := by decide +kernel
theorem dX9_wish_26 : decode cX9_wish 26 = .ok (.aload_n 0, 1) := by decide +kernel
theorem dX9_wish_27 : decode cX9_wish 27 = .ok (.getfield 61, 3) := by decide +kernel
theorem dX9_wish_30 : decode cX9_wish 30 = .ok (.iload_n 2, 1) := by decide +kernel
theorem dX9_wish_31 : decode cX9_wish 31 = .ok (.invokevirtual 211, 3) := by decide +kernel
theorem dX9_wish_34 : decode cX9_wish 34 = .ok (.ireturn, 1) := by decide +kernel
set_option maxRecDepth 20000 in
theorem ggX9_wishBy_X3_has : GoodIn wsX9_wishBy wsX3_has := goodIn_r _ [7, 8, 67, 68, 69, 70, 71, 72, 73, 74, 75, 76, 77] (by decide +kernel) (by decide +kernel)
set_option maxRecDepth 20000 in
theorem gX9_wishBy_X3_has : GoodIn wsX9_wishBy (wsV RX9 117 RX3 yX3_has wsX3_has) := goodIn_app (goodIn_of _ (by decide +kernel)) ggX9_wishBy_X3_has
set_option maxRecDepth 20000 in
theorem ggX9_wishBy_X9_refusalOfWish : GoodIn wsX9_wishBy wsX9_refusalOfWish := goodIn_r _ [13, 1, 3, 4, 5, 6, 7, 8, 14, 15, 12, 16, 17, 18, 19, 20, 21, 22, 23, 58, 59, 60, 61, 62, 63, 64, 65, 66, 67, 68, 69, 70, 71, 72, 73, 74, 75, 76, 77] (by decide +kernel) (by decide +kernel)
set_option maxRecDepth 20000 in
theorem gX9_wishBy_X9_refusalOfWish : GoodIn wsX9_wishBy (wsV RX9 204 RX9 yX9_refusalOfWish wsX9_refusalOfWish) := goodIn_app (goodIn_of _ (by decide +kernel)) ggX9_wishBy_X9_refusalOfWish
set_option maxRecDepth 20000 in
theorem ggX9_wishBy_X4_weigh : GoodIn wsX9_wishBy wsX4_weigh := goodIn_r _ [28, 29, 30, 31, 32, 33, 34, 35, 18, 19, 6, 20, 21, 22, 12, 23, 36, 37, 38, 27, 39, 40, 41, 42, 43, 44, 45, 78, 79, 67, 68, 69, 70, 71, 72, 73, 74, 75, 76, 77] (by decide +kernel) (by decide +kernel)
set_option maxRecDepth 20000 in
theorem gX9_wishBy_X4_weigh : GoodIn wsX9_wishBy (wsV RX9 207 RX4 yX4_weigh wsX4_weigh) := goodIn_app (goodIn_of _ (by decide +kernel)) ggX9_wishBy_X4_weigh
set_option maxRecDepth 20000 in
theorem ggX9_wishBy_X4_lentBy : GoodIn wsX9_wishBy wsX4_lentBy := goodIn_r _ [49, 30, 34, 50, 51, 52, 27, 53, 29, 31, 54, 55, 56, 57, 32, 44, 12, 45, 67, 68, 69, 70, 71, 72, 73, 74, 75, 76, 77, 78, 79] (by decide +kernel) (by decide +kernel)
set_option maxRecDepth 20000 in
theorem gX9_wishBy_X4_lentBy : GoodIn wsX9_wishBy (wsV RX9 214 RX4 yX4_lentBy wsX4_lentBy) := goodIn_app (goodIn_of _ (by decide +kernel)) ggX9_wishBy_X4_lentBy
theorem dX9_wishBy_0 : decode cX9_wishBy 0 = .ok (.aload_n 0, 1) := by decide +kernel
theorem dX9_wishBy_1 : decode cX9_wishBy 1 = .ok (.getfield 19, 3) := by decide +kernel
theorem dX9_wishBy_4 : decode cX9_wishBy 4 = .ok (.iload_n 3, 1) := by decide +kernel
theorem dX9_wishBy_5 : decode cX9_wishBy 5 = .ok (.invokevirtual 117, 3) := by decide +kernel
theorem dX9_wishBy_8 : decode cX9_wishBy 8 = .ok (.ifCond .ne 5, 3) := by decide +kernel
theorem dX9_wishBy_11 : decode cX9_wishBy 11 = .ok (.iconst (-1), 1) := by decide +kernel
theorem dX9_wishBy_12 : decode cX9_wishBy 12 = .ok (.ireturn, 1) := by decide +kernel
theorem dX9_wishBy_13 : decode cX9_wishBy 13 = .ok (.aload_n 0, 1) := by decide +kernel
theorem dX9_wishBy_14 : decode cX9_wishBy 14 = .ok (.iload_n 1, 1) := by decide +kernel
theorem dX9_wishBy_15 : decode cX9_wishBy 15 = .ok (.iload_n 2, 1) := by decide +kernel
theorem dX9_wishBy_16 : decode cX9_wishBy 16 = .ok (.invokevirtual 204, 3) := by decide +kernel
theorem dX9_wishBy_19 : decode cX9_wishBy 19 = .ok (.istore 4, 2) := by decide +kernel
theorem dX9_wishBy_21 : decode cX9_wishBy 21 = .ok (.iload 4, 2) := by decide +kernel
theorem dX9_wishBy_23 : decode cX9_wishBy 23 = .ok (.ifCond .eq 6, 3) := by decide +kernel
theorem dX9_wishBy_26 : decode cX9_wishBy 26 = .ok (.iload 4, 2) := by decide +kernel
theorem dX9_wishBy_28 : decode cX9_wishBy 28 = .ok (.ireturn, 1) := by decide +kernel
theorem dX9_wishBy_29 : decode cX9_wishBy 29 = .ok (.aload_n 0, 1) := by decide +kernel
theorem dX9_wishBy_30 : decode cX9_wishBy 30 = .ok (.getfield 61, 3) := by decide +kernel
theorem dX9_wishBy_33 : decode cX9_wishBy 33 = .ok (.aload_n 0, 1) := by decide +kernel
theorem dX9_wishBy_34 : decode cX9_wishBy 34 = .ok (.getfield 19, 3) := by decide +kernel
theorem dX9_wishBy_37 : decode cX9_wishBy 37 = .ok (.iload_n 1, 1) := by decide +kernel
theorem dX9_wishBy_38 : decode cX9_wishBy 38 = .ok (.iload_n 2, 1) := by decide +kernel
theorem dX9_wishBy_39 : decode cX9_wishBy 39 = .ok (.invokevirtual 207, 3) := by decide +kernel
theorem dX9_wishBy_42 : decode cX9_wishBy 42 = .ok (.aload_n 0, 1) := by decide +kernel
theorem dX9_wishBy_43 : decode cX9_wishBy 43 = .ok (.getfield 61, 3) := by decide +kernel
theorem dX9_wishBy_46 : decode cX9_wishBy 46 = .ok (.aload_n 0, 1) := by decide +kernel
theorem dX9_wishBy_47 : decode cX9_wishBy 47 = .ok (.getfield 19, 3) := by decide +kernel
theorem dX9_wishBy_50 : decode cX9_wishBy 50 = .ok (.iload_n 3, 1) := by decide +kernel
theorem dX9_wishBy_51 : decode cX9_wishBy 51 = .ok (.iload_n 2, 1) := by decide +kernel
theorem dX9_wishBy_52 : decode cX9_wishBy 52 = .ok (.invokevirtual 214, 3) := by decide +kernel
theorem dX9_wishBy_55 : decode cX9_wishBy 55 = .ok (.ireturn, 1) := by decide +kernel
set_option maxRecDepth 20000 in
theorem ggX9_run_X3_has : GoodIn wsX9_run wsX3_has := goodIn_r _ [11, 12, 48, 49, 50, 51, 52, 53, 54, 55, 56, 57, 58] (by decide +kernel) (by decide +kernel)
set_option maxRecDepth 20000 in
theorem gX9_run_X3_has : GoodIn wsX9_run (wsV RX9 117 RX3 yX3_has wsX3_has) := goodIn_app (goodIn_of _ (by decide +kernel)) ggX9_run_X3_has
set_option maxRecDepth 20000 in
theorem ggX9_run_X1_gather : GoodIn wsX9_run wsX1_gather := goodIn_r _ [17, 18, 19, 20, 21, 22, 23, 24, 25, 26, 27, 28, 29, 16, 30, 59, 60, 61, 62, 48, 49, 50, 51, 52, 53, 54, 55, 56, 57, 58] (by decide +kernel) (by decide +kernel)
set_option maxRecDepth 20000 in
theorem gX9_run_X1_gather : GoodIn wsX9_run (wsV RX9 222 RX1 yX1_gather wsX1_gather) := goodIn_app (goodIn_of _ (by decide +kernel)) ggX9_run_X1_gather
set_option maxRecDepth 20000 in
theorem ggX9_run_X1_waysWithin : GoodIn wsX9_run wsX1_waysWithin := goodIn_r _ [34, 18, 19, 25, 59, 60, 61, 62] (by decide +kernel) (by decide +kernel)
set_option maxRecDepth 20000 in
theorem gX9_run_X1_waysWithin : GoodIn wsX9_run (wsV RX9 225 RX1 yX1_waysWithin wsX1_waysWithin) := goodIn_app (goodIn_of _ (by decide +kernel)) ggX9_run_X1_waysWithin
set_option maxRecDepth 20000 in
theorem ggX9_run_X9_commonDivisor : GoodIn wsX9_run wsX9_commonDivisor := goodIn_r _ [38] (by decide +kernel) (by decide +kernel)
set_option maxRecDepth 20000 in
theorem gX9_run_X9_commonDivisor : GoodIn wsX9_run (va_wsS RX9 231 yX9_commonDivisor wsX9_commonDivisor) := goodIn_app (goodIn_of _ (by decide +kernel)) ggX9_run_X9_commonDivisor
theorem dX9_run_0 : decode cX9_run 0 = .ok (.aload_n 0, 1) := by decide +kernel
theorem dX9_run_1 : decode cX9_run 1 = .ok (.getfield 19, 3) := by decide +kernel
theorem dX9_run_4 : decode cX9_run 4 = .ok (.iload_n 1, 1) := by decide +kernel
theorem dX9_run_5 : decode cX9_run 5 = .ok (.invokevirtual 117, 3) := by decide +kernel
theorem dX9_run_8 : decode cX9_run 8 = .ok (.ifCond .ne 7, 3) := by decide +kernel
theorem dX9_run_11 : decode cX9_run 11 = .ok (.ldc2_w 218, 3) := by decide +kernel
theorem dX9_run_14 : decode cX9_run 14 = .ok (.lreturn, 1) := by decide +kernel
theorem dX9_run_15 : decode cX9_run 15 = .ok (.iload_n 2, 1) := by decide +kernel
theorem dX9_run_16 : decode cX9_run 16 = .ok (.ifCond .lt 9, 3) := by decide +kernel
theorem dX9_run_19 : decode cX9_run 19 = .ok (.iload_n 2, 1) := by decide +kernel
theorem dX9_run_20 : decode cX9_run 20 = .ok (.bipush 10, 2) := by decide +kernel
theorem dX9_run_22 : decode cX9_run 22 = .ok (.if_icmp .le 7, 3) := by decide +kernel
theorem dX9_run_25 : decode cX9_run 25 = .ok (.ldc2_w 220, 3) := by decide +kernel
theorem dX9_run_28 : decode cX9_run 28 = .ok (.lreturn, 1) := by decide +kernel
theorem dX9_run_29 : decode cX9_run 29 = .ok (.aload_n 0, 1) := by decide +kernel
theorem dX9_run_30 : decode cX9_run 30 = .ok (.getfield 68, 3) := by decide +kernel
theorem dX9_run_33 : decode cX9_run 33 = .ok (.aload_n 0, 1) := by decide +kernel
theorem dX9_run_34 : decode cX9_run 34 = .ok (.getfield 19, 3) := by decide +kernel
theorem dX9_run_37 : decode cX9_run 37 = .ok (.iload_n 1, 1) := by decide +kernel
theorem dX9_run_38 : decode cX9_run 38 = .ok (.iload_n 2, 1) := by decide +kernel
theorem dX9_run_39 : decode cX9_run 39 = .ok (.invokevirtual 222, 3) := by decide +kernel
theorem dX9_run_42 : decode cX9_run 42 = .ok (.aload_n 0, 1) := by decide +kernel
theorem dX9_run_43 : decode cX9_run 43 = .ok (.getfield 68, 3) := by decide +kernel
theorem dX9_run_46 : decode cX9_run 46 = .ok (.aload_n 0, 1) := by decide +kernel
theorem dX9_run_47 : decode cX9_run 47 = .ok (.getfield 19, 3) := by decide +kernel
theorem dX9_run_50 : decode cX9_run 50 = .ok (.getfield 121, 3) := by decide +kernel
theorem dX9_run_53 : decode cX9_run 53 = .ok (.iload_n 1, 1) := by decide +kernel
theorem dX9_run_54 : decode cX9_run 54 = .ok (.iaload, 1) := by decide +kernel
theorem dX9_run_55 : decode cX9_run 55 = .ok (.invokevirtual 225, 3) := by decide +kernel
theorem dX9_run_58 : decode cX9_run 58 = .ok (.istore 4, 2) := by decide +kernel
theorem dX9_run_60 : decode cX9_run 60 = .ok (.aload_n 0, 1) := by decide +kernel
theorem dX9_run_61 : decode cX9_run 61 = .ok (.getfield 68, 3) := by decide +kernel
theorem dX9_run_64 : decode cX9_run 64 = .ok (.getfield 228, 3) := by decide +kernel
theorem dX9_run_67 : decode cX9_run 67 = .ok (.istore 5, 2) := by decide +kernel
theorem dX9_run_69 : decode cX9_run 69 = .ok (.iload 4, 2) := by decide +kernel
theorem dX9_run_71 : decode cX9_run 71 = .ok (.iload 5, 2) := by decide +kernel
theorem dX9_run_73 : decode cX9_run 73 = .ok (.invokestatic 231, 3) := by decide +kernel
theorem dX9_run_76 : decode cX9_run 76 = .ok (.istore 6, 2) := by decide +kernel
theorem dX9_run_78 : decode cX9_run 78 = .ok (.iload 6, 2) := by decide +kernel
theorem dX9_run_80 : decode cX9_run 80 = .ok (.iconst 1, 1) := by decide +kernel
theorem dX9_run_81 : decode cX9_run 81 = .ok (.if_icmp .ge 17, 3) := by decide +kernel
theorem dX9_run_84 : decode cX9_run 84 = .ok (.iload_n 3, 1) := by decide +kernel
theorem dX9_run_85 : decode cX9_run 85 = .ok (.ifCond .eq 9, 3) := by decide +kernel
theorem dX9_run_88 : decode cX9_run 88 = .ok (.iload 4, 2) := by decide +kernel
theorem dX9_run_90 : decode cX9_run 90 = .ok (.i2l, 1) := by decide +kernel
theorem dX9_run_91 : decode cX9_run 91 = .ok (.goto 6, 3) := by decide +kernel
theorem dX9_run_94 : decode cX9_run 94 = .ok (.iload 5, 2) := by decide +kernel
theorem dX9_run_96 : decode cX9_run 96 = .ok (.i2l, 1) := by decide +kernel
theorem dX9_run_97 : decode cX9_run 97 = .ok (.lreturn, 1) := by decide +kernel
theorem dX9_run_98 : decode cX9_run 98 = .ok (.iload_n 3, 1) := by decide +kernel
theorem dX9_run_99 : decode cX9_run 99 = .ok (.ifCond .eq 12, 3) := by decide +kernel
theorem dX9_run_102 : decode cX9_run 102 = .ok (.iload 4, 2) := by decide +kernel
theorem dX9_run_104 : decode cX9_run 104 = .ok (.iload 6, 2) := by decide +kernel
theorem dX9_run_106 : decode cX9_run 106 = .ok (.idiv, 1) := by decide +kernel
theorem dX9_run_107 : decode cX9_run 107 = .ok (.i2l, 1) := by decide +kernel
theorem dX9_run_108 : decode cX9_run 108 = .ok (.goto 9, 3) := by decide +kernel
theorem dX9_run_111 : decode cX9_run 111 = .ok (.iload 5, 2) := by decide +kernel
theorem dX9_run_113 : decode cX9_run 113 = .ok (.iload 6, 2) := by decide +kernel
theorem dX9_run_115 : decode cX9_run 115 = .ok (.idiv, 1) := by decide +kernel
theorem dX9_run_116 : decode cX9_run 116 = .ok (.i2l, 1) := by decide +kernel
theorem dX9_run_117 : decode cX9_run 117 = .ok (.lreturn, 1) := by decide +kernel
set_option maxRecDepth 20000 in
theorem ggX9_enough_X3_has : GoodIn wsX9_enough wsX3_has := goodIn_r _ [7, 8, 44, 45, 46, 47, 48, 49, 50, 51, 52, 53, 54] (by decide +kernel) (by decide +kernel)
set_option maxRecDepth 20000 in
theorem gX9_enough_X3_has : GoodIn wsX9_enough (wsV RX9 117 RX3 yX3_has wsX3_has) := goodIn_app (goodIn_of _ (by decide +kernel)) ggX9_enough_X3_has
set_option maxRecDepth 20000 in
theorem ggX9_enough_X1_gather : GoodIn wsX9_enough wsX1_gather := goodIn_r _ [13, 14, 15, 16, 17, 18, 19, 20, 21, 22, 23, 24, 25, 12, 26, 55, 56, 57, 58, 44, 45, 46, 47, 48, 49, 50, 51, 52, 53, 54] (by decide +kernel) (by decide +kernel)
set_option maxRecDepth 20000 in
theorem gX9_enough_X1_gather : GoodIn wsX9_enough (wsV RX9 222 RX1 yX1_gather wsX1_gather) := goodIn_app (goodIn_of _ (by decide +kernel)) ggX9_enough_X1_gather
set_option maxRecDepth 20000 in
theorem ggX9_enough_X1_leastEnough : GoodIn wsX9_enough wsX1_leastEnough := goodIn_r _ [30, 15, 14, 20, 31, 32, 33, 12, 34, 21, 55, 56, 57, 58] (by decide +kernel) (by decide +kernel)
set_option maxRecDepth 20000 in
theorem gX9_enough_X1_leastEnough : GoodIn wsX9_enough (wsV RX9 234 RX1 yX1_leastEnough wsX1_leastEnough) := goodIn_app (goodIn_of _ (by decide +kernel)) ggX9_enough_X1_leastEnough
theorem dX9_enough_0 : decode cX9_enough 0 = .ok (.aload_n 0, 1) := by decide +kernel
theorem dX9_enough_1 : decode cX9_enough 1 = .ok (.getfield 19, 3) := by decide +kernel
theorem dX9_enough_4 : decode cX9_enough 4 = .ok (.iload_n 1, 1) := by decide +kernel
theorem dX9_enough_5 : decode cX9_enough 5 = .ok (.invokevirtual 117, 3) := by decide +kernel
theorem dX9_enough_8 : decode cX9_enough 8 = .ok (.ifCond .ne 5, 3) := by decide +kernel
theorem dX9_enough_11 : decode cX9_enough 11 = .ok (.iconst (-1), 1) := by decide +kernel
theorem dX9_enough_12 : decode cX9_enough 12 = .ok (.ireturn, 1) := by decide +kernel
theorem dX9_enough_13 : decode cX9_enough 13 = .ok (.iload_n 2, 1) := by decide +kernel
theorem dX9_enough_14 : decode cX9_enough 14 = .ok (.ifCond .lt 19, 3) := by decide +kernel
theorem dX9_enough_17 : decode cX9_enough 17 = .ok (.iload_n 2, 1) := by decide +kernel
theorem dX9_enough_18 : decode cX9_enough 18 = .ok (.bipush 10, 2) := by decide +kernel
theorem dX9_enough_20 : decode cX9_enough 20 = .ok (.if_icmp .gt 13, 3) := by decide +kernel
theorem dX9_enough_23 : decode cX9_enough 23 = .ok (.iload_n 3, 1) := by decide +kernel
theorem dX9_enough_24 : decode cX9_enough 24 = .ok (.ifCond .lt 9, 3) := by decide +kernel
theorem dX9_enough_27 : decode cX9_enough 27 = .ok (.iload_n 3, 1) := by decide +kernel
theorem dX9_enough_28 : decode cX9_enough 28 = .ok (.bipush 100, 2) := by decide +kernel
theorem dX9_enough_30 : decode cX9_enough 30 = .ok (.if_icmp .le 6, 3) := by decide +kernel
theorem dX9_enough_33 : decode cX9_enough 33 = .ok (.bipush (-2), 2) := by decide +kernel
theorem dX9_enough_35 : decode cX9_enough 35 = .ok (.ireturn, 1) := by decide +kernel
theorem dX9_enough_36 : decode cX9_enough 36 = .ok (.aload_n 0, 1) := by decide +kernel
theorem dX9_enough_37 : decode cX9_enough 37 = .ok (.getfield 68, 3) := by decide +kernel
theorem dX9_enough_40 : decode cX9_enough 40 = .ok (.aload_n 0, 1) := by decide +kernel
theorem dX9_enough_41 : decode cX9_enough 41 = .ok (.getfield 19, 3) := by decide +kernel
theorem dX9_enough_44 : decode cX9_enough 44 = .ok (.iload_n 1, 1) := by decide +kernel
theorem dX9_enough_45 : decode cX9_enough 45 = .ok (.iload_n 2, 1) := by decide +kernel
theorem dX9_enough_46 : decode cX9_enough 46 = .ok (.invokevirtual 222, 3) := by decide +kernel
theorem dX9_enough_49 : decode cX9_enough 49 = .ok (.aload_n 0, 1) := by decide +kernel
theorem dX9_enough_50 : decode cX9_enough 50 = .ok (.getfield 68, 3) := by decide +kernel
theorem dX9_enough_53 : decode cX9_enough 53 = .ok (.iload_n 3, 1) := by decide +kernel
theorem dX9_enough_54 : decode cX9_enough 54 = .ok (.invokevirtual 234, 3) := by decide +kernel
theorem dX9_enough_57 : decode cX9_enough 57 = .ok (.ireturn, 1) := by decide +kernel
set_option maxRecDepth 20000 in
theorem ggX9_day_X3_has : GoodIn wsX9_day wsX3_has := goodIn_r _ [8, 9, 32, 33, 34, 35, 36, 37, 38, 39, 40, 41, 42] (by decide +kernel) (by decide +kernel)
set_option maxRecDepth 20000 in
theorem gX9_day_X3_has : GoodIn wsX9_day (wsV RX9 117 RX3 yX3_has wsX3_has) := goodIn_app (goodIn_of _ (by decide +kernel)) ggX9_day_X3_has
set_option maxRecDepth 20000 in
theorem ggX9_day_X2_append : GoodIn wsX9_day wsX2_append := goodIn_r _ [14, 15, 16, 17, 18, 28, 29, 30, 31] (by decide +kernel) (by decide +kernel)
set_option maxRecDepth 20000 in
theorem gX9_day_X2_append : GoodIn wsX9_day (wsV RX9 237 RX2 yX2_append wsX2_append) := goodIn_app (goodIn_of _ (by decide +kernel)) ggX9_day_X2_append
theorem dX9_day_0 : decode cX9_day 0 = .ok (.aload_n 0, 1) := by decide +kernel
theorem dX9_day_1 : decode cX9_day 1 = .ok (.getfield 19, 3) := by decide +kernel
theorem dX9_day_4 : decode cX9_day 4 = .ok (.iload_n 1, 1) := by decide +kernel
theorem dX9_day_5 : decode cX9_day 5 = .ok (.invokevirtual 117, 3) := by decide +kernel
theorem dX9_day_8 : decode cX9_day 8 = .ok (.ifCond .ne 5, 3) := by decide +kernel
theorem dX9_day_11 : decode cX9_day 11 = .ok (.iconst (-1), 1) := by decide +kernel
theorem dX9_day_12 : decode cX9_day 12 = .ok (.ireturn, 1) := by decide +kernel
theorem dX9_day_13 : decode cX9_day 13 = .ok (.iload_n 2, 1) := by decide +kernel
theorem dX9_day_14 : decode cX9_day 14 = .ok (.ifCond .lt 9, 3) := by decide +kernel
theorem dX9_day_17 : decode cX9_day 17 = .ok (.iload_n 2, 1) := by decide +kernel
theorem dX9_day_18 : decode cX9_day 18 = .ok (.bipush 99, 2) := by decide +kernel
theorem dX9_day_20 : decode cX9_day 20 = .ok (.if_icmp .le 6, 3) := by decide +kernel
theorem dX9_day_23 : decode cX9_day 23 = .ok (.bipush (-2), 2) := by decide +kernel
theorem dX9_day_25 : decode cX9_day 25 = .ok (.ireturn, 1) := by decide +kernel
theorem dX9_day_26 : decode cX9_day 26 = .ok (.aload_n 0, 1) := by decide +kernel
theorem dX9_day_27 : decode cX9_day 27 = .ok (.getfield 40, 3) := by decide +kernel
theorem dX9_day_30 : decode cX9_day 30 = .ok (.iload_n 1, 1) := by decide +kernel
theorem dX9_day_31 : decode cX9_day 31 = .ok (.iload_n 2, 1) := by decide +kernel
theorem dX9_day_32 : decode cX9_day 32 = .ok (.iload_n 3, 1) := by decide +kernel
theorem dX9_day_33 : decode cX9_day 33 = .ok (.invokevirtual 237, 3) := by decide +kernel
theorem dX9_day_36 : decode cX9_day 36 = .ok (.ifCond .eq 13, 3) := by decide +kernel
theorem dX9_day_39 : decode cX9_day 39 = .ok (.aload_n 0, 1) := by decide +kernel
theorem dX9_day_40 : decode cX9_day 40 = .ok (.getfield 40, 3) := by decide +kernel
theorem dX9_day_43 : decode cX9_day 43 = .ok (.getfield 116, 3) := by decide +kernel
theorem dX9_day_46 : decode cX9_day 46 = .ok (.goto 5, 3) := by decide +kernel
theorem dX9_day_49 : decode cX9_day 49 = .ok (.bipush (-4), 2) := by decide +kernel
theorem dX9_day_51 : decode cX9_day 51 = .ok (.ireturn, 1) := by decide +kernel
theorem dX9_forget_0 : decode cX9_forget 0 = .ok (.aload_n 0, 1) := by decide +kernel
theorem dX9_forget_1 : decode cX9_forget 1 = .ok (.getfield 40, 3) := by decide +kernel
theorem dX9_forget_4 : decode cX9_forget 4 = .ok (.getfield 116, 3) := by decide +kernel
theorem dX9_forget_7 : decode cX9_forget 7 = .ok (.istore_n 1, 1) := by decide +kernel
theorem dX9_forget_8 : decode cX9_forget 8 = .ok (.aload_n 0, 1) := by decide +kernel
theorem dX9_forget_9 : decode cX9_forget 9 = .ok (.getfield 40, 3) := by decide +kernel
theorem dX9_forget_12 : decode cX9_forget 12 = .ok (.iconst 0, 1) := by decide +kernel
theorem dX9_forget_13 : decode cX9_forget 13 = .ok (.putfield 116, 3) := by decide +kernel
theorem dX9_forget_16 : decode cX9_forget 16 = .ok (.iload_n 1, 1) := by decide +kernel
theorem dX9_forget_17 : decode cX9_forget 17 = .ok (.ireturn, 1) := by decide +kernel
set_option maxRecDepth 20000 in
theorem ggX9_cheats_X2_caught : GoodIn wsX9_cheats wsX2_caught := goodIn_r _ [7, 8, 9, 10, 11, 12, 13, 6, 14, 15, 31, 32, 33, 34] (by decide +kernel) (by decide +kernel)
set_option maxRecDepth 20000 in
theorem gX9_cheats_X2_caught : GoodIn wsX9_cheats (wsV RX9 240 RX2 yX2_caught wsX2_caught) := goodIn_app (goodIn_of _ (by decide +kernel)) ggX9_cheats_X2_caught
set_option maxRecDepth 20000 in
theorem ggX9_cheats_X3_allPeople : GoodIn wsX9_cheats wsX3_allPeople := goodIn_r _ [20, 21, 35, 36, 37, 38, 39, 40, 41, 42, 43, 44, 45] (by decide +kernel) (by decide +kernel)
set_option maxRecDepth 20000 in
theorem gX9_cheats_X3_allPeople : GoodIn wsX9_cheats (wsV RX9 243 RX3 yX3_allPeople wsX3_allPeople) := goodIn_app (goodIn_of _ (by decide +kernel)) ggX9_cheats_X3_allPeople
theorem dX9_cheats_0 : decode cX9_cheats 0 = .ok (.aload_n 0, 1) := by decide +kernel
theorem dX9_cheats_1 : decode cX9_cheats 1 = .ok (.getfield 40, 3) := by decide +kernel
theorem dX9_cheats_4 : decode cX9_cheats 4 = .ok (.invokevirtual 240, 3) := by decide +kernel
theorem dX9_cheats_7 : decode cX9_cheats 7 = .ok (.aload_n 0, 1) := by decide +kernel
theorem dX9_cheats_8 : decode cX9_cheats 8 = .ok (.getfield 19, 3) := by decide +kernel
theorem dX9_cheats_11 : decode cX9_cheats 11 = .ok (.invokevirtual 243, 3) := by decide +kernel
theorem dX9_cheats_14 : decode cX9_cheats 14 = .ok (.iand, 1) := by decide +kernel
theorem dX9_cheats_15 : decode cX9_cheats 15 = .ok (.ireturn, 1) := by decide +kernel
set_option maxRecDepth 20000 in
theorem ggX9_keep_X7_put : GoodIn wsX9_keep wsX7_put := goodIn_r _ [8, 9, 10, 11, 12, 13, 14, 15, 16, 17, 18, 19, 20, 21, 22, 23, 24, 25, 26, 27, 28, 29, 30, 51, 52, 40, 41, 42, 43, 44, 45, 46, 47, 48, 49, 50] (by decide +kernel) (by decide +kernel)
set_option maxRecDepth 20000 in
theorem gX9_keep_X7_put : GoodIn wsX9_keep (wsV RX9 246 RX7 yX7_put wsX7_put) := goodIn_app (goodIn_of _ (by decide +kernel)) ggX9_keep_X7_put
theorem dX9_keep_0 : decode cX9_keep 0 = .ok (.iload_n 1, 1) := by decide +kernel
theorem dX9_keep_1 : decode cX9_keep 1 = .ok (.ifCond .lt 8, 3) := by decide +kernel
theorem dX9_keep_4 : decode cX9_keep 4 = .ok (.iload_n 1, 1) := by decide +kernel
theorem dX9_keep_5 : decode cX9_keep 5 = .ok (.iconst 2, 1) := by decide +kernel
theorem dX9_keep_6 : decode cX9_keep 6 = .ok (.if_icmp .lt 5, 3) := by decide +kernel
theorem dX9_keep_9 : decode cX9_keep 9 = .ok (.iconst (-1), 1) := by decide +kernel
theorem dX9_keep_10 : decode cX9_keep 10 = .ok (.ireturn, 1) := by decide +kernel
theorem dX9_keep_11 : decode cX9_keep 11 = .ok (.aload_n 0, 1) := by decide +kernel
theorem dX9_keep_12 : decode cX9_keep 12 = .ok (.getfield 33, 3) := by decide +kernel
theorem dX9_keep_15 : decode cX9_keep 15 = .ok (.iload_n 1, 1) := by decide +kernel
theorem dX9_keep_16 : decode cX9_keep 16 = .ok (.aload_n 0, 1) := by decide +kernel
theorem dX9_keep_17 : decode cX9_keep 17 = .ok (.getfield 19, 3) := by decide +kernel
theorem dX9_keep_20 : decode cX9_keep 20 = .ok (.invokevirtual 246, 3) := by decide +kernel
theorem dX9_keep_23 : decode cX9_keep 23 = .ok (.aload_n 0, 1) := by decide +kernel
theorem dX9_keep_24 : decode cX9_keep 24 = .ok (.getfield 19, 3) := by decide +kernel
theorem dX9_keep_27 : decode cX9_keep 27 = .ok (.getfield 95, 3) := by decide +kernel
theorem dX9_keep_30 : decode cX9_keep 30 = .ok (.ireturn, 1) := by decide +kernel
set_option maxRecDepth 20000 in
theorem ggX9_again_X3_copyFrom : GoodIn wsX9_again wsX3_copyFrom := goodIn_r _ [11, 12, 13, 14, 15, 16, 17, 18, 19, 20, 21, 22, 23, 24, 25, 26, 45, 46, 47, 48, 49, 50, 51, 52, 53, 54, 55] (by decide +kernel) (by decide +kernel)
set_option maxRecDepth 20000 in
theorem gX9_again_X3_copyFrom : GoodIn wsX9_again (wsV RX9 258 RX3 yX3_copyFrom wsX3_copyFrom) := goodIn_app (goodIn_of _ (by decide +kernel)) ggX9_again_X3_copyFrom
set_option maxRecDepth 20000 in
theorem ggX9_again_X0_clear : GoodIn wsX9_again wsX0_clear := goodIn_r _ [31, 32, 33, 56, 57, 58] (by decide +kernel) (by decide +kernel)
set_option maxRecDepth 20000 in
theorem gX9_again_X0_clear : GoodIn wsX9_again (wsV RX9 88 RX0 yX0_clear wsX0_clear) := goodIn_app (goodIn_of _ (by decide +kernel)) ggX9_again_X0_clear
theorem dX9_again_0 : decode cX9_again 0 = .ok (.iload_n 1, 1) := by decide +kernel
theorem dX9_again_1 : decode cX9_again 1 = .ok (.ifCond .lt 8, 3) := by decide +kernel
theorem dX9_again_4 : decode cX9_again 4 = .ok (.iload_n 1, 1) := by decide +kernel
theorem dX9_again_5 : decode cX9_again 5 = .ok (.iconst 2, 1) := by decide +kernel
theorem dX9_again_6 : decode cX9_again 6 = .ok (.if_icmp .lt 5, 3) := by decide +kernel
theorem dX9_again_9 : decode cX9_again 9 = .ok (.iconst (-1), 1) := by decide +kernel
theorem dX9_again_10 : decode cX9_again 10 = .ok (.ireturn, 1) := by decide +kernel
theorem dX9_again_11 : decode cX9_again 11 = .ok (.aload_n 0, 1) := by decide +kernel
theorem dX9_again_12 : decode cX9_again 12 = .ok (.getfield 33, 3) := by decide +kernel
theorem dX9_again_15 : decode cX9_again 15 = .ok (.getfield 250, 3) := by decide +kernel
theorem dX9_again_18 : decode cX9_again 18 = .ok (.iload_n 1, 1) := by decide +kernel
theorem dX9_again_19 : decode cX9_again 19 = .ok (.baload, 1) := by decide +kernel
theorem dX9_again_20 : decode cX9_again 20 = .ok (.ifCond .ne 6, 3) := by decide +kernel
theorem dX9_again_23 : decode cX9_again 23 = .ok (.bipush (-3), 2) := by decide +kernel
theorem dX9_again_25 : decode cX9_again 25 = .ok (.ireturn, 1) := by decide +kernel
theorem dX9_again_26 : decode cX9_again 26 = .ok (.aload_n 0, 1) := by decide +kernel
theorem dX9_again_27 : decode cX9_again 27 = .ok (.getfield 19, 3) := by decide +kernel
theorem dX9_again_30 : decode cX9_again 30 = .ok (.aload_n 0, 1) := by decide +kernel
theorem dX9_again_31 : decode cX9_again 31 = .ok (.getfield 33, 3) := by decide +kernel
theorem dX9_again_34 : decode cX9_again 34 = .ok (.getfield 254, 3) := by decide +kernel
theorem dX9_again_37 : decode cX9_again 37 = .ok (.iload_n 1, 1) := by decide +kernel
theorem dX9_again_38 : decode cX9_again 38 = .ok (.aaload, 1) := by decide +kernel
theorem dX9_again_39 : decode cX9_again 39 = .ok (.invokevirtual 258, 3) := by decide +kernel
theorem dX9_again_42 : decode cX9_again 42 = .ok (.aload_n 0, 1) := by decide +kernel
theorem dX9_again_43 : decode cX9_again 43 = .ok (.getfield 26, 3) := by decide +kernel
theorem dX9_again_46 : decode cX9_again 46 = .ok (.invokevirtual 88, 3) := by decide +kernel
theorem dX9_again_49 : decode cX9_again 49 = .ok (.aload_n 0, 1) := by decide +kernel
theorem dX9_again_50 : decode cX9_again 50 = .ok (.getfield 19, 3) := by decide +kernel
theorem dX9_again_53 : decode cX9_again 53 = .ok (.getfield 95, 3) := by decide +kernel
theorem dX9_again_56 : decode cX9_again 56 = .ok (.ireturn, 1) := by decide +kernel
set_option maxRecDepth 20000 in
theorem ggX9_refusalOfWish_X3_has : GoodIn wsX9_refusalOfWish wsX3_has := goodIn_r _ [6, 7, 28, 29, 30, 31, 32, 33, 34, 35, 36, 37, 38] (by decide +kernel) (by decide +kernel)
set_option maxRecDepth 20000 in
theorem gX9_refusalOfWish_X3_has : GoodIn wsX9_refusalOfWish (wsV RX9 117 RX3 yX3_has wsX3_has) := goodIn_app (goodIn_of _ (by decide +kernel)) ggX9_refusalOfWish_X3_has
set_option maxRecDepth 20000 in
theorem ggX9_refusalOfWish_X9_isLoan : GoodIn wsX9_refusalOfWish wsX9_isLoan := goodIn_r _ [11] (by decide +kernel) (by decide +kernel)
set_option maxRecDepth 20000 in
theorem gX9_refusalOfWish_X9_isLoan : GoodIn wsX9_refusalOfWish (va_wsS RX9 156 yX9_isLoan wsX9_isLoan) := goodIn_app (goodIn_of _ (by decide +kernel)) ggX9_refusalOfWish_X9_isLoan
set_option maxRecDepth 20000 in
theorem ggX9_refusalOfWish_X3_isAlive : GoodIn wsX9_refusalOfWish wsX3_isAlive := goodIn_r _ [15, 16, 17, 10, 18, 28, 29, 30, 31, 32, 33, 34, 35, 36, 37, 38] (by decide +kernel) (by decide +kernel)
set_option maxRecDepth 20000 in
theorem gX9_refusalOfWish_X3_isAlive : GoodIn wsX9_refusalOfWish (wsV RX9 128 RX3 yX3_isAlive wsX3_isAlive) := goodIn_app (goodIn_of _ (by decide +kernel)) ggX9_refusalOfWish_X3_isAlive
theorem dX9_refusalOfWish_0 : decode cX9_refusalOfWish 0 = .ok (.aload_n 0, 1) := by decide +kernel
theorem dX9_refusalOfWish_1 : decode cX9_refusalOfWish 1 = .ok (.getfield 19, 3) := by decide +kernel
theorem dX9_refusalOfWish_4 : decode cX9_refusalOfWish 4 = .ok (.iload_n 1, 1) := by decide +kernel
theorem dX9_refusalOfWish_5 : decode cX9_refusalOfWish 5 = .ok (.invokevirtual 117, 3) := by decide +kernel
theorem dX9_refusalOfWish_8 : decode cX9_refusalOfWish 8 = .ok (.ifCond .ne 5, 3) := by decide +kernel
theorem dX9_refusalOfWish_11 : decode cX9_refusalOfWish 11 = .ok (.iconst (-1), 1) := by decide +kernel
theorem dX9_refusalOfWish_12 : decode cX9_refusalOfWish 12 = .ok (.ireturn, 1) := by decide +kernel
theorem dX9_refusalOfWish_13 : decode cX9_refusalOfWish 13 = .ok (.iload_n 2, 1) := by decide +kernel
theorem dX9_refusalOfWish_14 : decode cX9_refusalOfWish 14 = .ok (.invokestatic 156, 3) := by decide +kernel
theorem dX9_refusalOfWish_17 : decode cX9_refusalOfWish 17 = .ok (.ifCond .ne 6, 3) := by decide +kernel
theorem dX9_refusalOfWish_20 : decode cX9_refusalOfWish 20 = .ok (.bipush (-2), 2) := by decide +kernel
theorem dX9_refusalOfWish_22 : decode cX9_refusalOfWish 22 = .ok (.ireturn, 1) := by decide +kernel
theorem dX9_refusalOfWish_23 : decode cX9_refusalOfWish 23 = .ok (.aload_n 0, 1) := by decide +kernel
theorem dX9_refusalOfWish_24 : decode cX9_refusalOfWish 24 = .ok (.getfield 19, 3) := by decide +kernel
theorem dX9_refusalOfWish_27 : decode cX9_refusalOfWish 27 = .ok (.iload_n 1, 1) := by decide +kernel
theorem dX9_refusalOfWish_28 : decode cX9_refusalOfWish 28 = .ok (.invokevirtual 128, 3) := by decide +kernel
theorem dX9_refusalOfWish_31 : decode cX9_refusalOfWish 31 = .ok (.ifCond .eq 7, 3) := by decide +kernel
theorem dX9_refusalOfWish_34 : decode cX9_refusalOfWish 34 = .ok (.iconst 0, 1) := by decide +kernel
theorem dX9_refusalOfWish_35 : decode cX9_refusalOfWish 35 = .ok (.goto 5, 3) := by decide +kernel
theorem dX9_refusalOfWish_38 : decode cX9_refusalOfWish 38 = .ok (.bipush (-3), 2) := by decide +kernel
theorem dX9_refusalOfWish_40 : decode cX9_refusalOfWish 40 = .ok (.ireturn, 1) := by decide +kernel
theorem dX9_isLoan_0 : decode cX9_isLoan 0 = .ok (.iload_n 0, 1) := by decide +kernel
theorem dX9_isLoan_1 : decode cX9_isLoan 1 = .ok (.iconst 1, 1) := by decide +kernel
theorem dX9_isLoan_2 : decode cX9_isLoan 2 = .ok (.if_icmp .lt 13, 3) := by decide +kernel
theorem dX9_isLoan_5 : decode cX9_isLoan 5 = .ok (.iload_n 0, 1) := by decide +kernel
theorem dX9_isLoan_6 : decode cX9_isLoan 6 = .ok (.bipush 99, 2) := by decide +kernel
theorem dX9_isLoan_8 : decode cX9_isLoan 8 = .ok (.if_icmp .gt 7, 3) := by decide +kernel
theorem dX9_isLoan_11 : decode cX9_isLoan 11 = .ok (.iconst 1, 1) := by decide +kernel
theorem dX9_isLoan_12 : decode cX9_isLoan 12 = .ok (.goto 4, 3) := by decide +kernel
theorem dX9_isLoan_15 : decode cX9_isLoan 15 = .ok (.iconst 0, 1) := by decide +kernel
theorem dX9_isLoan_16 : decode cX9_isLoan 16 = .ok (.ireturn, 1) := by decide +kernel
theorem dX9_isIn_0 : decode cX9_isIn 0 = .ok (.iload_n 0, 1) := by decide +kernel
theorem dX9_isIn_1 : decode cX9_isIn 1 = .ok (.iload_n 1, 1) := by decide +kernel
theorem dX9_isIn_2 : decode cX9_isIn 2 = .ok (.ishr, 1) := by decide +kernel
theorem dX9_isIn_3 : decode cX9_isIn 3 = .ok (.iconst 1, 1) := by decide +kernel
theorem dX9_isIn_4 : decode cX9_isIn 4 = .ok (.iand, 1) := by decide +kernel
theorem dX9_isIn_5 : decode cX9_isIn 5 = .ok (.ifCond .eq 7, 3) := by decide +kernel
theorem dX9_isIn_8 : decode cX9_isIn 8 = .ok (.iconst 1, 1) := by decide +kernel
theorem dX9_isIn_9 : decode cX9_isIn 9 = .ok (.goto 4, 3) := by decide +kernel
theorem dX9_isIn_12 : decode cX9_isIn 12 = .ok (.iconst 0, 1) := by decide +kernel
theorem dX9_isIn_13 : decode cX9_isIn 13 = .ok (.ireturn, 1) := by decide +kernel
theorem dX9_askedFor_0 : decode cX9_askedFor 0 = .ok (.iload_n 0, 1) := by decide +kernel
theorem dX9_askedFor_1 : decode cX9_askedFor 1 = .ok (.iconst 1, 1) := by decide +kernel
theorem dX9_askedFor_2 : decode cX9_askedFor 2 = .ok (.iadd, 1) := by decide +kernel
theorem dX9_askedFor_3 : decode cX9_askedFor 3 = .ok (.iconst 2, 1) := by decide +kernel
theorem dX9_askedFor_4 : decode cX9_askedFor 4 = .ok (.idiv, 1) := by decide +kernel
theorem dX9_askedFor_5 : decode cX9_askedFor 5 = .ok (.iload_n 1, 1) := by decide +kernel
theorem dX9_askedFor_6 : decode cX9_askedFor 6 = .ok (.imul, 1) := by decide +kernel
theorem dX9_askedFor_7 : decode cX9_askedFor 7 = .ok (.ireturn, 1) := by decide +kernel
theorem dX9_commonDivisor_0 : decode cX9_commonDivisor 0 = .ok (.iload_n 0, 1) := by decide +kernel
theorem dX9_commonDivisor_1 : decode cX9_commonDivisor 1 = .ok (.istore_n 2, 1) := by decide +kernel
theorem dX9_commonDivisor_2 : decode cX9_commonDivisor 2 = .ok (.iload_n 1, 1) := by decide +kernel
theorem dX9_commonDivisor_3 : decode cX9_commonDivisor 3 = .ok (.istore_n 3, 1) := by decide +kernel
theorem dX9_commonDivisor_4 : decode cX9_commonDivisor 4 = .ok (.iconst 0, 1) := by decide +kernel
theorem dX9_commonDivisor_5 : decode cX9_commonDivisor 5 = .ok (.istore 4, 2) := by decide +kernel
theorem dX9_commonDivisor_7 : decode cX9_commonDivisor 7 = .ok (.iload 4, 2) := by decide +kernel
theorem dX9_commonDivisor_9 : decode cX9_commonDivisor 9 = .ok (.bipush 50, 2) := by decide +kernel
theorem dX9_commonDivisor_11 : decode cX9_commonDivisor 11 = .ok (.if_icmp .ge 23, 3) := by decide +kernel
theorem dX9_commonDivisor_14 : decode cX9_commonDivisor 14 = .ok (.iload_n 3, 1) := by decide +kernel
theorem dX9_commonDivisor_15 : decode cX9_commonDivisor 15 = .ok (.ifCond .eq 19, 3) := by decide +kernel
theorem dX9_commonDivisor_18 : decode cX9_commonDivisor 18 = .ok (.iload_n 2, 1) := by decide +kernel
theorem dX9_commonDivisor_19 : decode cX9_commonDivisor 19 = .ok (.iload_n 3, 1) := by decide +kernel
theorem dX9_commonDivisor_20 : decode cX9_commonDivisor 20 = .ok (.irem, 1) := by decide +kernel
theorem dX9_commonDivisor_21 : decode cX9_commonDivisor 21 = .ok (.istore 5, 2) := by decide +kernel
theorem dX9_commonDivisor_23 : decode cX9_commonDivisor 23 = .ok (.iload_n 3, 1) := by decide +kernel
theorem dX9_commonDivisor_24 : decode cX9_commonDivisor 24 = .ok (.istore_n 2, 1) := by decide +kernel
theorem dX9_commonDivisor_25 : decode cX9_commonDivisor 25 = .ok (.iload 5, 2) := by decide +kernel
theorem dX9_commonDivisor_27 : decode cX9_commonDivisor 27 = .ok (.istore_n 3, 1) := by decide +kernel
theorem dX9_commonDivisor_28 : decode cX9_commonDivisor 28 = .ok (.iinc 4 1, 3) := by decide +kernel
theorem dX9_commonDivisor_31 : decode cX9_commonDivisor 31 = .ok (.goto (-24), 3) := by decide +kernel
theorem dX9_commonDivisor_34 : decode cX9_commonDivisor 34 = .ok (.iload_n 2, 1) := by decide +kernel
theorem dX9_commonDivisor_35 : decode cX9_commonDivisor 35 = .ok (.ireturn, 1) := by decide +kernel
theorem dJ6_bitCount_0f7a4_0 : decode cJ6_bitCount_0f7a4 0 = .ok (.iload_n 0, 1) := by decide +kernel
theorem dJ6_bitCount_0f7a4_1 : decode cJ6_bitCount_0f7a4 1 = .ok (.iload_n 0, 1) := by decide +kernel
theorem dJ6_bitCount_0f7a4_2 : decode cJ6_bitCount_0f7a4 2 = .ok (.iconst 1, 1) := by decide +kernel
theorem dJ6_bitCount_0f7a4_3 : decode cJ6_bitCount_0f7a4 3 = .ok (.iushr, 1) := by decide +kernel
theorem dJ6_bitCount_0f7a4_4 : decode cJ6_bitCount_0f7a4 4 = .ok (.ldc_w 265, 3) := by decide +kernel
theorem dJ6_bitCount_0f7a4_7 : decode cJ6_bitCount_0f7a4 7 = .ok (.iand, 1) := by decide +kernel
theorem dJ6_bitCount_0f7a4_8 : decode cJ6_bitCount_0f7a4 8 = .ok (.isub, 1) := by decide +kernel
theorem dJ6_bitCount_0f7a4_9 : decode cJ6_bitCount_0f7a4 9 = .ok (.istore_n 0, 1) := by decide +kernel
theorem dJ6_bitCount_0f7a4_10 : decode cJ6_bitCount_0f7a4 10 = .ok (.iload_n 0, 1) := by decide +kernel
theorem dJ6_bitCount_0f7a4_11 : decode cJ6_bitCount_0f7a4 11 = .ok (.ldc_w 266, 3) := by decide +kernel
theorem dJ6_bitCount_0f7a4_14 : decode cJ6_bitCount_0f7a4 14 = .ok (.iand, 1) := by decide +kernel
theorem dJ6_bitCount_0f7a4_15 : decode cJ6_bitCount_0f7a4 15 = .ok (.iload_n 0, 1) := by decide +kernel
theorem dJ6_bitCount_0f7a4_16 : decode cJ6_bitCount_0f7a4 16 = .ok (.iconst 2, 1) := by decide +kernel
theorem dJ6_bitCount_0f7a4_17 : decode cJ6_bitCount_0f7a4 17 = .ok (.iushr, 1) := by decide +kernel
theorem dJ6_bitCount_0f7a4_18 : decode cJ6_bitCount_0f7a4 18 = .ok (.ldc_w 266, 3) := by decide +kernel
theorem dJ6_bitCount_0f7a4_21 : decode cJ6_bitCount_0f7a4 21 = .ok (.iand, 1) := by decide +kernel
theorem dJ6_bitCount_0f7a4_22 : decode cJ6_bitCount_0f7a4 22 = .ok (.iadd, 1) := by decide +kernel
theorem dJ6_bitCount_0f7a4_23 : decode cJ6_bitCount_0f7a4 23 = .ok (.istore_n 0, 1) := by decide +kernel
theorem dJ6_bitCount_0f7a4_24 : decode cJ6_bitCount_0f7a4 24 = .ok (.iload_n 0, 1) := by decide +kernel
theorem dJ6_bitCount_0f7a4_25 : decode cJ6_bitCount_0f7a4 25 = .ok (.iload_n 0, 1) := by decide +kernel
theorem dJ6_bitCount_0f7a4_26 : decode cJ6_bitCount_0f7a4 26 = .ok (.iconst 4, 1) := by decide +kernel
theorem dJ6_bitCount_0f7a4_27 : decode cJ6_bitCount_0f7a4 27 = .ok (.iushr, 1) := by decide +kernel
theorem dJ6_bitCount_0f7a4_28 : decode cJ6_bitCount_0f7a4 28 = .ok (.iadd, 1) := by decide +kernel
theorem dJ6_bitCount_0f7a4_29 : decode cJ6_bitCount_0f7a4 29 = .ok (.ldc_w 267, 3) := by decide +kernel
theorem dJ6_bitCount_0f7a4_32 : decode cJ6_bitCount_0f7a4 32 = .ok (.iand, 1) := by decide +kernel
theorem dJ6_bitCount_0f7a4_33 : decode cJ6_bitCount_0f7a4 33 = .ok (.istore_n 0, 1) := by decide +kernel
theorem dJ6_bitCount_0f7a4_34 : decode cJ6_bitCount_0f7a4 34 = .ok (.iload_n 0, 1) := by decide +kernel
theorem dJ6_bitCount_0f7a4_35 : decode cJ6_bitCount_0f7a4 35 = .ok (.iload_n 0, 1) := by decide +kernel
theorem dJ6_bitCount_0f7a4_36 : decode cJ6_bitCount_0f7a4 36 = .ok (.bipush 8, 2) := by decide +kernel
theorem dJ6_bitCount_0f7a4_38 : decode cJ6_bitCount_0f7a4 38 = .ok (.iushr, 1) := by decide +kernel
theorem dJ6_bitCount_0f7a4_39 : decode cJ6_bitCount_0f7a4 39 = .ok (.iadd, 1) := by decide +kernel
theorem dJ6_bitCount_0f7a4_40 : decode cJ6_bitCount_0f7a4 40 = .ok (.istore_n 0, 1) := by decide +kernel
theorem dJ6_bitCount_0f7a4_41 : decode cJ6_bitCount_0f7a4 41 = .ok (.iload_n 0, 1) := by decide +kernel
theorem dJ6_bitCount_0f7a4_42 : decode cJ6_bitCount_0f7a4 42 = .ok (.iload_n 0, 1) := by decide +kernel
theorem dJ6_bitCount_0f7a4_43 : decode cJ6_bitCount_0f7a4 43 = .ok (.bipush 16, 2) := by decide +kernel
theorem dJ6_bitCount_0f7a4_45 : decode cJ6_bitCount_0f7a4 45 = .ok (.iushr, 1) := by decide +kernel
theorem dJ6_bitCount_0f7a4_46 : decode cJ6_bitCount_0f7a4 46 = .ok (.iadd, 1) := by decide +kernel
theorem dJ6_bitCount_0f7a4_47 : decode cJ6_bitCount_0f7a4 47 = .ok (.istore_n 0, 1) := by decide +kernel
theorem dJ6_bitCount_0f7a4_48 : decode cJ6_bitCount_0f7a4 48 = .ok (.iload_n 0, 1) := by decide +kernel
theorem dJ6_bitCount_0f7a4_49 : decode cJ6_bitCount_0f7a4 49 = .ok (.bipush 63, 2) := by decide +kernel
theorem dJ6_bitCount_0f7a4_51 : decode cJ6_bitCount_0f7a4 51 = .ok (.iand, 1) := by decide +kernel
theorem dJ6_bitCount_0f7a4_52 : decode cJ6_bitCount_0f7a4 52 = .ok (.ireturn, 1) := by decide +kernel
theorem dJ9_max_7cf53_0 : decode cJ9_max_7cf53 0 = .ok (.iload_n 0, 1) := by decide +kernel
theorem dJ9_max_7cf53_1 : decode cJ9_max_7cf53 1 = .ok (.iload_n 1, 1) := by decide +kernel
theorem dJ9_max_7cf53_2 : decode cJ9_max_7cf53 2 = .ok (.if_icmp .lt 7, 3) := by decide +kernel
theorem dJ9_max_7cf53_5 : decode cJ9_max_7cf53 5 = .ok (.iload_n 0, 1) := by decide +kernel
theorem dJ9_max_7cf53_6 : decode cJ9_max_7cf53 6 = .ok (.goto 4, 3) := by decide +kernel
theorem dJ9_max_7cf53_9 : decode cJ9_max_7cf53 9 = .ok (.iload_n 1, 1) := by decide +kernel
theorem dJ9_max_7cf53_10 : decode cJ9_max_7cf53 10 = .ok (.ireturn, 1) := by decide +kernel
theorem dJ9_min_7cf53_0 : decode cJ9_min_7cf53 0 = .ok (.iload_n 0, 1) := by decide +kernel
theorem dJ9_min_7cf53_1 : decode cJ9_min_7cf53 1 = .ok (.iload_n 1, 1) := by decide +kernel
theorem dJ9_min_7cf53_2 : decode cJ9_min_7cf53 2 = .ok (.if_icmp .gt 7, 3) := by decide +kernel
theorem dJ9_min_7cf53_5 : decode cJ9_min_7cf53 5 = .ok (.iload_n 0, 1) := by decide +kernel
theorem dJ9_min_7cf53_6 : decode cJ9_min_7cf53 6 = .ok (.goto 4, 3) := by decide +kernel
theorem dJ9_min_7cf53_9 : decode cJ9_min_7cf53 9 = .ok (.iload_n 1, 1) := by decide +kernel
theorem dJ9_min_7cf53_10 : decode cJ9_min_7cf53 10 = .ok (.ireturn, 1) := by decide +kernel

theorem dX8_mayStandInDebt_53 : decode cX8_mayStandInDebt 53 = .ok (.iconst 1, 1) := by decide +kernel
theorem dX8_mayStandInDebt_54 : decode cX8_mayStandInDebt 54 = .ok (.isub, 1) := by decide +kernel
theorem dX8_mayStandInDebt_55 : decode cX8_mayStandInDebt 55 = .ok (.invokevirtual 31, 3) := by decide +kernel
theorem dX8_mayStandInDebt_58 : decode cX8_mayStandInDebt 58 = .ok (.if_icmp .eq 7, 3) := by decide +kernel
theorem dX8_mayStandInDebt_61 : decode cX8_mayStandInDebt 61 = .ok (.iconst 1, 1) := by decide +kernel
theorem dX8_mayStandInDebt_62 : decode cX8_mayStandInDebt 62 = .ok (.goto 4, 3) := by decide +kernel
theorem dX8_mayStandInDebt_65 : decode cX8_mayStandInDebt 65 = .ok (.iconst 0, 1) := by decide +kernel
theorem dX8_mayStandInDebt_66 : decode cX8_mayStandInDebt 66 = .ok (.ireturn, 1) := by decide +kernel
theorem dX8_mayStandInDebt_67 : decode cX8_mayStandInDebt 67 = .ok (.iconst 1, 1) := by decide +kernel
theorem dX8_mayStandInDebt_68 : decode cX8_mayStandInDebt 68 = .ok (.ireturn, 1) := by decide +kernel
theorem dX8_mayStandInDebt_69 : decode cX8_mayStandInDebt 69 = .ok (.iload_n 3, 1) := by decide +kernel
theorem dX8_mayStandInDebt_70 : decode cX8_mayStandInDebt 70 = .ok (.ifCond .ne 13, 3) := by decide +kernel
theorem dX8_mayStandInDebt_73 : decode cX8_mayStandInDebt 73 = .ok (.aload_n 0, 1) := by decide +kernel
theorem dX8_mayStandInDebt_74 : decode cX8_mayStandInDebt 74 = .ok (.iload_n 1, 1) := by decide +kernel
theorem dX8_mayStandInDebt_75 : decode cX8_mayStandInDebt 75 = .ok (.iconst 1, 1) := by decide +kernel
theorem dX8_mayStandInDebt_76 : decode cX8_mayStandInDebt 76 = .ok (.isub, 1) := by decide +kernel
theorem dX8_mayStandInDebt_77 : decode cX8_mayStandInDebt 77 = .ok (.invokevirtual 31, 3) := by decide +kernel
theorem dX8_mayStandInDebt_80 : decode cX8_mayStandInDebt 80 = .ok (.ifCond .eq 7, 3) := by decide +kernel
theorem dX8_mayStandInDebt_83 : decode cX8_mayStandInDebt 83 = .ok (.iconst 1, 1) := by decide +kernel
theorem dX8_mayStandInDebt_84 : decode cX8_mayStandInDebt 84 = .ok (.goto 4, 3) := by decide +kernel
theorem dX8_mayStandInDebt_87 : decode cX8_mayStandInDebt 87 = .ok (.iconst 0, 1) := by decide +kernel
theorem dX8_mayStandInDebt_88 : decode cX8_mayStandInDebt 88 = .ok (.ireturn, 1) := by decide +kernel
theorem dX8_mayStandInDebt_89 : decode cX8_mayStandInDebt 89 = .ok (.iload_n 3, 1) := by decide +kernel
theorem dX8_mayStandInDebt_90 : decode cX8_mayStandInDebt 90 = .ok (.ifCond .eq 7, 3) := by decide +kernel
theorem dX8_mayStandInDebt_93 : decode cX8_mayStandInDebt 93 = .ok (.iconst 1, 1) := by decide +kernel
theorem dX8_mayStandInDebt_94 : decode cX8_mayStandInDebt 94 = .ok (.goto 4, 3) := by decide +kernel
theorem dX8_mayStandInDebt_97 : decode cX8_mayStandInDebt 97 = .ok (.iconst 0, 1) := by decide +kernel
theorem dX8_mayStandInDebt_98 : decode cX8_mayStandInDebt 98 = .ok (.ireturn, 1) := by decide +kernel
theorem dX8_digitAt_0 : decode cX8_digitAt 0 = .ok (.iload_n 1, 1) := by decide +kernel
theorem dX8_digitAt_1 : decode cX8_digitAt 1 = .ok (.ifCond .lt 11, 3) := by decide +kernel
theorem dX8_digitAt_4 : decode cX8_digitAt 4 = .ok (.iload_n 1, 1) := by decide +kernel
theorem dX8_digitAt_5 : decode cX8_digitAt 5 = .ok (.aload_n 0, 1) := by decide +kernel
theorem dX8_digitAt_6 : decode cX8_digitAt 6 = .ok (.getfield 15, 3) := by decide +kernel
theorem dX8_digitAt_9 : decode cX8_digitAt 9 = .ok (.if_icmp .lt 5, 3) := by decide +kernel
theorem dX8_digitAt_12 : decode cX8_digitAt 12 = .ok (.iconst (-1), 1) := by decide +kernel
theorem dX8_digitAt_13 : decode cX8_digitAt 13 = .ok (.ireturn, 1) := by decide +kernel
theorem dX8_digitAt_14 : decode cX8_digitAt 14 = .ok (.aload_n 0, 1) := by decide +kernel
theorem dX8_digitAt_15 : decode cX8_digitAt 15 = .ok (.getfield 9, 3) := by decide +kernel
theorem dX8_digitAt_18 : decode cX8_digitAt 18 = .ok (.iload_n 1, 1) := by decide +kernel
theorem dX8_digitAt_19 : decode cX8_digitAt 19 = .ok (.baload, 1) := by decide +kernel
theorem dX8_digitAt_20 : decode cX8_digitAt 20 = .ok (.istore_n 2, 1) := by decide +kernel
theorem dX8_digitAt_21 : decode cX8_digitAt 21 = .ok (.iload_n 2, 1) := by decide +kernel
theorem dX8_digitAt_22 : decode cX8_digitAt 22 = .ok (.bipush 48, 2) := by decide +kernel
theorem dX8_digitAt_24 : decode cX8_digitAt 24 = .ok (.if_icmp .lt 16, 3) := by decide +kernel
theorem dX8_digitAt_27 : decode cX8_digitAt 27 = .ok (.iload_n 2, 1) := by decide +kernel
theorem dX8_digitAt_28 : decode cX8_digitAt 28 = .ok (.bipush 57, 2) := by decide +kernel
theorem dX8_digitAt_30 : decode cX8_digitAt 30 = .ok (.if_icmp .gt 10, 3) := by decide +kernel
theorem dX8_digitAt_33 : decode cX8_digitAt 33 = .ok (.iload_n 2, 1) := by decide +kernel
theorem dX8_digitAt_34 : decode cX8_digitAt 34 = .ok (.bipush 48, 2) := by decide +kernel
theorem dX8_digitAt_36 : decode cX8_digitAt 36 = .ok (.isub, 1) := by decide +kernel
theorem dX8_digitAt_37 : decode cX8_digitAt 37 = .ok (.goto 4, 3) := by decide +kernel
theorem dX8_digitAt_40 : decode cX8_digitAt 40 = .ok (.iconst (-1), 1) := by decide +kernel
theorem dX8_digitAt_41 : decode cX8_digitAt 41 = .ok (.ireturn, 1) := by decide +kernel
set_option maxRecDepth 20000 in
theorem ggX8_twoDigitsAt_X8_digitAt : GoodIn wsX8_twoDigitsAt wsX8_digitAt := goodIn_r _ [5, 6, 7, 8, 9] (by decide +kernel) (by decide +kernel)
set_option maxRecDepth 20000 in
theorem gX8_twoDigitsAt_X8_digitAt : GoodIn wsX8_twoDigitsAt (wsV RX8 31 RX8 yX8_digitAt wsX8_digitAt) := goodIn_app (goodIn_of _ (by decide +kernel)) ggX8_twoDigitsAt_X8_digitAt
theorem dX8_twoDigitsAt_0 : decode cX8_twoDigitsAt 0 = .ok (.bipush 10, 2) := by decide +kernel
theorem dX8_twoDigitsAt_2 : decode cX8_twoDigitsAt 2 = .ok (.aload_n 0, 1) := by decide +kernel
theorem dX8_twoDigitsAt_3 : decode cX8_twoDigitsAt 3 = .ok (.iload_n 1, 1) := by decide +kernel
theorem dX8_twoDigitsAt_4 : decode cX8_twoDigitsAt 4 = .ok (.invokevirtual 31, 3) := by decide +kernel
theorem dX8_twoDigitsAt_7 : decode cX8_twoDigitsAt 7 = .ok (.imul, 1) := by decide +kernel
theorem dX8_twoDigitsAt_8 : decode cX8_twoDigitsAt 8 = .ok (.aload_n 0, 1) := by decide +kernel
theorem dX8_twoDigitsAt_9 : decode cX8_twoDigitsAt 9 = .ok (.iload_n 1, 1) := by decide +kernel
theorem dX8_twoDigitsAt_10 : decode cX8_twoDigitsAt 10 = .ok (.iconst 1, 1) := by decide +kernel
theorem dX8_twoDigitsAt_11 : decode cX8_twoDigitsAt 11 = .ok (.iadd, 1) := by decide +kernel
theorem dX8_twoDigitsAt_12 : decode cX8_twoDigitsAt 12 = .ok (.invokevirtual 31, 3) := by decide +kernel
theorem dX8_twoDigitsAt_15 : decode cX8_twoDigitsAt 15 = .ok (.iadd, 1) := by decide +kernel
theorem dX8_twoDigitsAt_16 : decode cX8_twoDigitsAt 16 = .ok (.ireturn, 1) := by decide +kernel
set_option maxRecDepth 20000 in
theorem ggX8_tellTo_X3_clear : GoodIn wsX8_tellTo wsX3_clear := goodIn_r _ [7, 8, 9, 10, 11, 12, 46, 47, 48, 49, 50, 51, 52, 53, 54, 55, 56] (by decide +kernel) (by decide +kernel)
set_option maxRecDepth 20000 in
theorem gX8_tellTo_X3_clear : GoodIn wsX8_tellTo (wsV RX8 37 RX3 yX3_clear wsX3_clear) := goodIn_app (goodIn_of _ (by decide +kernel)) ggX8_tellTo_X3_clear
set_option maxRecDepth 20000 in
theorem ggX8_tellTo_X8_twoDigitsAt : GoodIn wsX8_tellTo wsX8_twoDigitsAt := goodIn_r _ [17, 18, 19, 20, 16, 21, 1, 2, 44, 45] (by decide +kernel) (by decide +kernel)
set_option maxRecDepth 20000 in
theorem gX8_tellTo_X8_twoDigitsAt : GoodIn wsX8_tellTo (wsV RX8 42 RX8 yX8_twoDigitsAt wsX8_twoDigitsAt) := goodIn_app (goodIn_of _ (by decide +kernel)) ggX8_tellTo_X8_twoDigitsAt
set_option maxRecDepth 20000 in
theorem ggX8_tellTo_X8_digitAt : GoodIn wsX8_tellTo wsX8_digitAt := goodIn_r _ [21, 1, 2, 44, 45] (by decide +kernel) (by decide +kernel)
set_option maxRecDepth 20000 in
theorem gX8_tellTo_X8_digitAt : GoodIn wsX8_tellTo (wsV RX8 31 RX8 yX8_digitAt wsX8_digitAt) := goodIn_app (goodIn_of _ (by decide +kernel)) ggX8_tellTo_X8_digitAt
set_option maxRecDepth 20000 in
theorem ggX8_tellTo_X3_addPerson : GoodIn wsX8_tellTo wsX3_addPerson := goodIn_r _ [25, 8, 26, 27, 11, 46, 47, 48, 49, 50, 51, 52, 53, 54, 55, 56] (by decide +kernel) (by decide +kernel)
set_option maxRecDepth 20000 in
theorem gX8_tellTo_X3_addPerson : GoodIn wsX8_tellTo (wsV RX8 45 RX3 yX3_addPerson wsX3_addPerson) := goodIn_app (goodIn_of _ (by decide +kernel)) ggX8_tellTo_X3_addPerson
set_option maxRecDepth 20000 in
theorem ggX8_tellTo_X3_addDebt : GoodIn wsX8_tellTo wsX3_addDebt := goodIn_r _ [31, 9, 32, 33, 34, 35, 36, 37, 38, 6, 39, 8, 46, 47, 48, 49, 50, 51, 52, 53, 54, 55, 56] (by decide +kernel) (by decide +kernel)
set_option maxRecDepth 20000 in
theorem gX8_tellTo_X3_addDebt : GoodIn wsX8_tellTo (wsV RX8 49 RX3 yX3_addDebt wsX3_addDebt) := goodIn_app (goodIn_of _ (by decide +kernel)) ggX8_tellTo_X3_addDebt
set_option maxRecDepth 20000 in
theorem ggX8_tellTo_X8_bytesOfPart : GoodIn wsX8_tellTo wsX8_bytesOfPart := goodIn_r _ [43, 2, 44, 45] (by decide +kernel) (by decide +kernel)
set_option maxRecDepth 20000 in
theorem gX8_tellTo_X8_bytesOfPart : GoodIn wsX8_tellTo (wsV RX8 23 RX8 yX8_bytesOfPart wsX8_bytesOfPart) := goodIn_app (goodIn_of _ (by decide +kernel)) ggX8_tellTo_X8_bytesOfPart
theorem dX8_tellTo_0 : decode cX8_tellTo 0 = .ok (.aload_n 1, 1) := by decide +kernel
theorem dX8_tellTo_1 : decode cX8_tellTo 1 = .ok (.invokevirtual 37, 3) := by decide +kernel
theorem dX8_tellTo_4 : decode cX8_tellTo 4 = .ok (.iconst 0, 1) := by decide +kernel
theorem dX8_tellTo_5 : decode cX8_tellTo 5 = .ok (.istore_n 2, 1) := by decide +kernel
theorem dX8_tellTo_6 : decode cX8_tellTo 6 = .ok (.iconst 0, 1) := by decide +kernel
theorem dX8_tellTo_7 : decode cX8_tellTo 7 = .ok (.istore_n 3, 1) := by decide +kernel
theorem dX8_tellTo_8 : decode cX8_tellTo 8 = .ok (.iload_n 3, 1) := by decide +kernel
theorem dX8_tellTo_9 : decode cX8_tellTo 9 = .ok (.bipush 14, 2) := by decide +kernel
theorem dX8_tellTo_11 : decode cX8_tellTo 11 = .ok (.if_icmp .ge 89, 3) := by decide +kernel
theorem dX8_tellTo_14 : decode cX8_tellTo 14 = .ok (.iload_n 2, 1) := by decide +kernel
theorem dX8_tellTo_15 : decode cX8_tellTo 15 = .ok (.aload_n 0, 1) := by decide +kernel
theorem dX8_tellTo_16 : decode cX8_tellTo 16 = .ok (.getfield 15, 3) := by decide +kernel
theorem dX8_tellTo_19 : decode cX8_tellTo 19 = .ok (.if_icmp .ge 81, 3) := by decide +kernel
theorem dX8_tellTo_22 : decode cX8_tellTo 22 = .ok (.aload_n 0, 1) := by decide +kernel
theorem dX8_tellTo_23 : decode cX8_tellTo 23 = .ok (.getfield 9, 3) := by decide +kernel
theorem dX8_tellTo_26 : decode cX8_tellTo 26 = .ok (.iload_n 2, 1) := by decide +kernel
theorem dX8_tellTo_27 : decode cX8_tellTo 27 = .ok (.baload, 1) := by decide +kernel
theorem dX8_tellTo_28 : decode cX8_tellTo 28 = .ok (.bipush 80, 2) := by decide +kernel
theorem dX8_tellTo_30 : decode cX8_tellTo 30 = .ok (.if_icmp .ne 24, 3) := by decide +kernel
theorem dX8_tellTo_33 : decode cX8_tellTo 33 = .ok (.aload_n 1, 1) := by decide +kernel
theorem dX8_tellTo_34 : decode cX8_tellTo 34 = .ok (.aload_n 0, 1) := by decide +kernel
theorem dX8_tellTo_35 : decode cX8_tellTo 35 = .ok (.iload_n 2, 1) := by decide +kernel
theorem dX8_tellTo_36 : decode cX8_tellTo 36 = .ok (.iconst 1, 1) := by decide +kernel
theorem dX8_tellTo_37 : decode cX8_tellTo 37 = .ok (.iadd, 1) := by decide +kernel
theorem dX8_tellTo_38 : decode cX8_tellTo 38 = .ok (.invokevirtual 42, 3) := by decide +kernel
theorem dX8_tellTo_41 : decode cX8_tellTo 41 = .ok (.aload_n 0, 1) := by decide +kernel
theorem dX8_tellTo_42 : decode cX8_tellTo 42 = .ok (.iload_n 2, 1) := by decide +kernel
theorem dX8_tellTo_43 : decode cX8_tellTo 43 = .ok (.iconst 3, 1) := by decide +kernel
theorem dX8_tellTo_44 : decode cX8_tellTo 44 = .ok (.iadd, 1) := by decide +kernel
theorem dX8_tellTo_45 : decode cX8_tellTo 45 = .ok (.invokevirtual 31, 3) := by decide +kernel
theorem dX8_tellTo_48 : decode cX8_tellTo 48 = .ok (.invokevirtual 45, 3) := by decide +kernel
theorem dX8_tellTo_51 : decode cX8_tellTo 51 = .ok (.goto 35, 3) := by decide +kernel
theorem dX8_tellTo_54 : decode cX8_tellTo 54 = .ok (.aload_n 1, 1) := by decide +kernel
theorem dX8_tellTo_55 : decode cX8_tellTo 55 = .ok (.aload_n 0, 1) := by decide +kernel
theorem dX8_tellTo_56 : decode cX8_tellTo 56 = .ok (.iload_n 2, 1) := by decide +kernel
theorem dX8_tellTo_57 : decode cX8_tellTo 57 = .ok (.iconst 1, 1) := by decide +kernel
theorem dX8_tellTo_58 : decode cX8_tellTo 58 = .ok (.iadd, 1) := by decide +kernel
theorem dX8_tellTo_59 : decode cX8_tellTo 59 = .ok (.invokevirtual 31, 3) := by decide +kernel
theorem dX8_tellTo_62 : decode cX8_tellTo 62 = .ok (.aload_n 0, 1) := by decide +kernel
theorem dX8_tellTo_63 : decode cX8_tellTo 63 = .ok (.iload_n 2, 1) := by decide +kernel
theorem dX8_tellTo_64 : decode cX8_tellTo 64 = .ok (.iconst 2, 1) := by decide +kernel
theorem dX8_tellTo_65 : decode cX8_tellTo 65 = .ok (.iadd, 1) := by decide +kernel
theorem dX8_tellTo_66 : decode cX8_tellTo 66 = .ok (.invokevirtual 31, 3) := by decide +kernel
theorem dX8_tellTo_69 : decode cX8_tellTo 69 = .ok (.aload_n 0, 1) := by decide +kernel
theorem dX8_tellTo_70 : decode cX8_tellTo 70 = .ok (.iload_n 2, 1) := by decide +kernel
theorem dX8_tellTo_71 : decode cX8_tellTo 71 = .ok (.iconst 3, 1) := by decide +kernel
theorem dX8_tellTo_72 : decode cX8_tellTo 72 = .ok (.iadd, 1) := by decide +kernel
theorem dX8_tellTo_73 : decode cX8_tellTo 73 = .ok (.invokevirtual 42, 3) := by decide +kernel
theorem dX8_tellTo_76 : decode cX8_tellTo 76 = .ok (.aload_n 0, 1) := by decide +kernel
theorem dX8_tellTo_77 : decode cX8_tellTo 77 = .ok (.iload_n 2, 1) := by decide +kernel
theorem dX8_tellTo_78 : decode cX8_tellTo 78 = .ok (.iconst 5, 1) := by decide +kernel
theorem dX8_tellTo_79 : decode cX8_tellTo 79 = .ok (.iadd, 1) := by decide +kernel
theorem dX8_tellTo_80 : decode cX8_tellTo 80 = .ok (.invokevirtual 31, 3) := by decide +kernel
theorem dX8_tellTo_83 : decode cX8_tellTo 83 = .ok (.invokevirtual 49, 3) := by decide +kernel
theorem dX8_tellTo_86 : decode cX8_tellTo 86 = .ok (.iload_n 2, 1) := by decide +kernel
theorem dX8_tellTo_87 : decode cX8_tellTo 87 = .ok (.aload_n 0, 1) := by decide +kernel
theorem dX8_tellTo_88 : decode cX8_tellTo 88 = .ok (.iload_n 2, 1) := by decide +kernel
theorem dX8_tellTo_89 : decode cX8_tellTo 89 = .ok (.invokevirtual 23, 3) := by decide +kernel
theorem dX8_tellTo_92 : decode cX8_tellTo 92 = .ok (.iadd, 1) := by decide +kernel
theorem dX8_tellTo_93 : decode cX8_tellTo 93 = .ok (.istore_n 2, 1) := by decide +kernel
theorem dX8_tellTo_94 : decode cX8_tellTo 94 = .ok (.iinc 3 1, 3) := by decide +kernel
theorem dX8_tellTo_97 : decode cX8_tellTo 97 = .ok (.goto (-89), 3) := by decide +kernel
theorem dX8_tellTo_100 : decode cX8_tellTo 100 = .ok (.return_, 1) := by decide +kernel
set_option maxRecDepth 20000 in
theorem ggX9_init_X8_init : GoodIn wsX9_init wsX8_init := goodIn_r _ [41, 42, 2, 3, 43, 44, 45, 106, 107] (by decide +kernel) (by decide +kernel)
set_option maxRecDepth 20000 in
theorem gX9_init_X8_init_n9 : GoodIn wsX9_init (wsX8_init) := ggX9_init_X8_init
set_option maxRecDepth 20000 in
theorem ggX9_init_X3_init : GoodIn wsX9_init wsX3_init := goodIn_r _ [47, 48, 2, 3, 49, 50, 51, 52, 53, 54, 55, 56, 57, 58, 59, 60, 117, 118, 119, 120, 121, 122, 123, 124, 125, 126, 127] (by decide +kernel) (by decide +kernel)
set_option maxRecDepth 20000 in
theorem gX9_init_X3_init_n18 : GoodIn wsX9_init (wsX3_init) := ggX9_init_X3_init
set_option maxRecDepth 20000 in
theorem ggX9_init_X0_init : GoodIn wsX9_init wsX0_init := goodIn_r _ [63, 64, 2, 3, 65, 66, 67, 68, 9, 10, 46, 47, 48, 49, 50, 51, 52, 53, 54, 55, 56, 57, 58, 59, 60, 128, 129, 130, 117, 118, 119, 120, 121, 122, 123, 124, 125, 126, 127] (by decide +kernel) (by decide +kernel)
set_option maxRecDepth 20000 in
theorem gX9_init_X0_init : GoodIn wsX9_init (wsX0_init) := ggX9_init_X0_init
set_option maxRecDepth 20000 in
theorem ggX9_init_X7_init : GoodIn wsX9_init wsX7_init := goodIn_r _ [71, 72, 2, 3, 73, 74, 75, 76, 9, 10, 46, 47, 48, 49, 50, 51, 52, 53, 54, 55, 56, 57, 58, 59, 60, 131, 132, 117, 118, 119, 120, 121, 122, 123, 124, 125, 126, 127] (by decide +kernel) (by decide +kernel)
set_option maxRecDepth 20000 in
theorem gX9_init_X7_init : GoodIn wsX9_init (wsX7_init) := ggX9_init_X7_init
set_option maxRecDepth 20000 in
theorem ggX9_init_X2_init : GoodIn wsX9_init wsX2_init := goodIn_r _ [78, 79, 2, 3, 54, 80, 81, 75, 82, 83, 133, 134, 135, 136] (by decide +kernel) (by decide +kernel)
set_option maxRecDepth 20000 in
theorem gX9_init_X2_init_n39 : GoodIn wsX9_init (wsX2_init) := ggX9_init_X2_init
set_option maxRecDepth 20000 in
theorem ggX9_init_X6_init : GoodIn wsX9_init wsX6_init := goodIn_r _ [85, 86, 2, 3, 54, 87, 88, 137, 138] (by decide +kernel) (by decide +kernel)
set_option maxRecDepth 20000 in
theorem gX9_init_X6_init_n46 : GoodIn wsX9_init (wsX6_init) := ggX9_init_X6_init
set_option maxRecDepth 20000 in
theorem ggX9_init_X5_init : GoodIn wsX9_init wsX5_init := goodIn_r _ [90, 91, 2, 3, 54, 92, 139] (by decide +kernel) (by decide +kernel)
set_option maxRecDepth 20000 in
theorem gX9_init_X5_init_n53 : GoodIn wsX9_init (wsX5_init) := ggX9_init_X5_init
set_option maxRecDepth 20000 in
theorem ggX9_init_X4_init : GoodIn wsX9_init wsX4_init := goodIn_r _ [94, 95, 2, 3, 96, 54, 97, 98, 140, 141] (by decide +kernel) (by decide +kernel)
set_option maxRecDepth 20000 in
theorem gX9_init_X4_init_n60 : GoodIn wsX9_init (wsX4_init) := ggX9_init_X4_init
set_option maxRecDepth 20000 in
theorem ggX9_init_X1_init : GoodIn wsX9_init wsX1_init := goodIn_r _ [100, 101, 2, 3, 54, 102, 103, 104, 105, 142, 143, 144, 145] (by decide +kernel) (by decide +kernel)
set_option maxRecDepth 20000 in
theorem gX9_init_X1_init_n67 : GoodIn wsX9_init (wsX1_init) := ggX9_init_X1_init
theorem dX9_init_0 : decode cX9_init 0 = .ok (.aload_n 0, 1) := by decide +kernel
theorem dX9_init_1 : decode cX9_init 1 = .ok (.invokespecial 1, 3) := by decide +kernel
theorem dX9_init_4 : decode cX9_init 4 = .ok (.aload_n 0, 1) := by decide +kernel
theorem dX9_init_5 : decode cX9_init 5 = .ok (.new 7, 3) := by decide +kernel
theorem dX9_init_8 : decode cX9_init 8 = .ok (.dup, 1) := by decide +kernel
theorem dX9_init_9 : decode cX9_init 9 = .ok (.invokespecial 9, 3) := by decide +kernel
theorem dX9_init_12 : decode cX9_init 12 = .ok (.putfield 10, 3) := by decide +kernel
theorem dX9_init_15 : decode cX9_init 15 = .ok (.aload_n 0, 1) := by decide +kernel
theorem dX9_init_16 : decode cX9_init 16 = .ok (.new 16, 3) := by decide +kernel
theorem dX9_init_19 : decode cX9_init 19 = .ok (.dup, 1) := by decide +kernel
theorem dX9_init_20 : decode cX9_init 20 = .ok (.invokespecial 18, 3) := by decide +kernel
theorem dX9_init_23 : decode cX9_init 23 = .ok (.putfield 19, 3) := by decide +kernel
theorem dX9_init_26 : decode cX9_init 26 = .ok (.aload_n 0, 1) := by decide +kernel
theorem dX9_init_27 : decode cX9_init 27 = .ok (.new 23, 3) := by decide +kernel
theorem dX9_init_30 : decode cX9_init 30 = .ok (.dup, 1) := by decide +kernel
theorem dX9_init_31 : decode cX9_init 31 = .ok (.invokespecial 25, 3) := by decide +kernel
theorem dX9_init_34 : decode cX9_init 34 = .ok (.putfield 26, 3) := by decide +kernel
theorem dX9_init_37 : decode cX9_init 37 = .ok (.aload_n 0, 1) := by decide +kernel
theorem dX9_init_38 : decode cX9_init 38 = .ok (.new 30, 3) := by decide +kernel
theorem dX9_init_41 : decode cX9_init 41 = .ok (.dup, 1) := by decide +kernel
theorem dX9_init_42 : decode cX9_init 42 = .ok (.invokespecial 32, 3) := by decide +kernel
theorem dX9_init_45 : decode cX9_init 45 = .ok (.putfield 33, 3) := by decide +kernel
theorem dX9_init_48 : decode cX9_init 48 = .ok (.aload_n 0, 1) := by decide +kernel
theorem dX9_init_49 : decode cX9_init 49 = .ok (.new 37, 3) := by decide +kernel
theorem dX9_init_52 : decode cX9_init 52 = .ok (.dup, 1) := by decide +kernel
theorem dX9_init_53 : decode cX9_init 53 = .ok (.invokespecial 39, 3) := by decide +kernel
theorem dX9_init_56 : decode cX9_init 56 = .ok (.putfield 40, 3) := by decide +kernel
theorem dX9_init_59 : decode cX9_init 59 = .ok (.aload_n 0, 1) := by decide +kernel
theorem dX9_init_60 : decode cX9_init 60 = .ok (.new 44, 3) := by decide +kernel
theorem dX9_init_63 : decode cX9_init 63 = .ok (.dup, 1) := by decide +kernel
theorem dX9_init_64 : decode cX9_init 64 = .ok (.invokespecial 46, 3) := by decide +kernel
theorem dX9_init_67 : decode cX9_init 67 = .ok (.putfield 47, 3) := by decide +kernel
theorem dX9_init_70 : decode cX9_init 70 = .ok (.aload_n 0, 1) := by decide +kernel
theorem dX9_init_71 : decode cX9_init 71 = .ok (.new 51, 3) := by decide +kernel
theorem dX9_init_74 : decode cX9_init 74 = .ok (.dup, 1) := by decide +kernel
theorem dX9_init_75 : decode cX9_init 75 = .ok (.invokespecial 53, 3) := by decide +kernel
theorem dX9_init_78 : decode cX9_init 78 = .ok (.putfield 54, 3) := by decide +kernel
theorem dX9_init_81 : decode cX9_init 81 = .ok (.aload_n 0, 1) := by decide +kernel
theorem dX9_init_82 : decode cX9_init 82 = .ok (.new 58, 3) := by decide +kernel
theorem dX9_init_85 : decode cX9_init 85 = .ok (.dup, 1) := by decide +kernel
theorem dX9_init_86 : decode cX9_init 86 = .ok (.invokespecial 60, 3) := by decide +kernel
theorem dX9_init_89 : decode cX9_init 89 = .ok (.putfield 61, 3) := by decide +kernel
theorem dX9_init_92 : decode cX9_init 92 = .ok (.aload_n 0, 1) := by decide +kernel
theorem dX9_init_93 : decode cX9_init 93 = .ok (.new 65, 3) := by decide +kernel
theorem dX9_init_96 : decode cX9_init 96 = .ok (.dup, 1) := by decide +kernel
theorem dX9_init_97 : decode cX9_init 97 = .ok (.invokespecial 67, 3) := by decide +kernel
theorem dX9_init_100 : decode cX9_init 100 = .ok (.putfield 68, 3) := by decide +kernel
theorem dX9_init_103 : decode cX9_init 103 = .ok (.return_, 1) := by decide +kernel
set_option maxRecDepth 20000 in
theorem ggX9_write_X8_append : GoodIn wsX9_write wsX8_append := goodIn_r _ [7, 8, 9, 19, 20] (by decide +kernel) (by decide +kernel)
set_option maxRecDepth 20000 in
theorem gX9_write_X8_append : GoodIn wsX9_write (wsV RX9 72 RX8 yX8_append wsX8_append) := goodIn_app (goodIn_of _ (by decide +kernel)) ggX9_write_X8_append
theorem dX9_write_0 : decode cX9_write 0 = .ok (.iload_n 1, 1) := by decide +kernel
theorem dX9_write_1 : decode cX9_write 1 = .ok (.iconst 1, 1) := by decide +kernel
theorem dX9_write_2 : decode cX9_write 2 = .ok (.if_icmp .lt 9, 3) := by decide +kernel
theorem dX9_write_5 : decode cX9_write 5 = .ok (.iload_n 1, 1) := by decide +kernel
theorem dX9_write_6 : decode cX9_write 6 = .ok (.bipush 8, 2) := by decide +kernel
theorem dX9_write_8 : decode cX9_write 8 = .ok (.if_icmp .le 6, 3) := by decide +kernel
theorem dX9_write_11 : decode cX9_write 11 = .ok (.bipush (-2), 2) := by decide +kernel
theorem dX9_write_13 : decode cX9_write 13 = .ok (.ireturn, 1) := by decide +kernel
theorem dX9_write_14 : decode cX9_write 14 = .ok (.aload_n 0, 1) := by decide +kernel
theorem dX9_write_15 : decode cX9_write 15 = .ok (.getfield 10, 3) := by decide +kernel
theorem dX9_write_18 : decode cX9_write 18 = .ok (.iload_n 1, 1) := by decide +kernel
theorem dX9_write_19 : decode cX9_write 19 = .ok (.lload_n 2, 1) := by decide +kernel
theorem dX9_write_20 : decode cX9_write 20 = .ok (.invokevirtual 72, 3) := by decide +kernel
theorem dX9_write_23 : decode cX9_write 23 = .ok (.ifCond .eq 13, 3) := by decide +kernel
theorem dX9_write_26 : decode cX9_write 26 = .ok (.aload_n 0, 1) := by decide +kernel
theorem dX9_write_27 : decode cX9_write 27 = .ok (.getfield 10, 3) := by decide +kernel
theorem dX9_write_30 : decode cX9_write 30 = .ok (.getfield 76, 3) := by decide +kernel
theorem dX9_write_33 : decode cX9_write 33 = .ok (.goto 5, 3) := by decide +kernel
theorem dX9_write_36 : decode cX9_write 36 = .ok (.bipush (-4), 2) := by decide +kernel
theorem dX9_write_38 : decode cX9_write 38 = .ok (.ireturn, 1) := by decide +kernel
theorem dX9_wipe_0 : decode cX9_wipe 0 = .ok (.aload_n 0, 1) := by decide +kernel
theorem dX9_wipe_1 : decode cX9_wipe 1 = .ok (.getfield 10, 3) := by decide +kernel
theorem dX9_wipe_4 : decode cX9_wipe 4 = .ok (.getfield 76, 3) := by decide +kernel
theorem dX9_wipe_7 : decode cX9_wipe 7 = .ok (.istore_n 1, 1) := by decide +kernel
theorem dX9_wipe_8 : decode cX9_wipe 8 = .ok (.aload_n 0, 1) := by decide +kernel
theorem dX9_wipe_9 : decode cX9_wipe 9 = .ok (.getfield 10, 3) := by decide +kernel
theorem dX9_wipe_12 : decode cX9_wipe 12 = .ok (.iconst 0, 1) := by decide +kernel
theorem dX9_wipe_13 : decode cX9_wipe 13 = .ok (.putfield 76, 3) := by decide +kernel
theorem dX9_wipe_16 : decode cX9_wipe 16 = .ok (.iload_n 1, 1) := by decide +kernel
theorem dX9_wipe_17 : decode cX9_wipe 17 = .ok (.ireturn, 1) := by decide +kernel
set_option maxRecDepth 20000 in
theorem ggX9_fault_X8_firstFault : GoodIn wsX9_fault wsX8_firstFault := goodIn_r _ [6, 7, 8, 9, 10, 11, 5, 12, 13, 14, 15, 16, 17, 18, 19, 20, 21, 22, 23, 24, 25, 26, 27, 37, 38] (by decide +kernel) (by decide +kernel)
set_option maxRecDepth 20000 in
theorem gX9_fault_X8_firstFault : GoodIn wsX9_fault (wsV RX9 80 RX8 yX8_firstFault wsX8_firstFault) := goodIn_app (goodIn_of _ (by decide +kernel)) ggX9_fault_X8_firstFault
theorem dX9_fault_0 : decode cX9_fault 0 = .ok (.aload_n 0, 1) := by decide +kernel
theorem dX9_fault_1 : decode cX9_fault 1 = .ok (.getfield 10, 3) := by decide +kernel
theorem dX9_fault_4 : decode cX9_fault 4 = .ok (.invokevirtual 80, 3) := by decide +kernel
theorem dX9_fault_7 : decode cX9_fault 7 = .ok (.ireturn, 1) := by decide +kernel
set_option maxRecDepth 20000 in
theorem ggX9_book_X8_firstFault : GoodIn wsX9_book wsX8_firstFault := goodIn_r _ [10, 11, 12, 13, 14, 15, 9, 16, 17, 18, 19, 20, 21, 22, 23, 24, 25, 26, 27, 28, 29, 30, 31, 101, 102] (by decide +kernel) (by decide +kernel)
set_option maxRecDepth 20000 in
theorem gX9_book_X8_firstFault : GoodIn wsX9_book (wsV RX9 80 RX8 yX8_firstFault wsX8_firstFault) := goodIn_app (goodIn_of _ (by decide +kernel)) ggX9_book_X8_firstFault
set_option maxRecDepth 20000 in
theorem ggX9_book_X8_tellTo : GoodIn wsX9_book wsX8_tellTo := goodIn_r _ [35, 11, 12, 36, 37, 38, 39, 40, 41, 42, 43, 44, 45, 46, 47, 48, 9, 49, 20, 21, 22, 23, 50, 51, 52, 53, 54, 55, 56, 57, 58, 59, 60, 61, 62, 63, 64, 65, 66, 67, 28, 29, 30, 31, 101, 102, 90, 91, 92, 93, 94, 95, 96, 97, 98, 99, 100] (by decide +kernel) (by decide +kernel)
set_option maxRecDepth 20000 in
theorem gX9_book_X8_tellTo : GoodIn wsX9_book (wsV RX9 84 RX8 yX8_tellTo wsX8_tellTo) := goodIn_app (goodIn_of _ (by decide +kernel)) ggX9_book_X8_tellTo
set_option maxRecDepth 20000 in
theorem ggX9_book_X0_clear : GoodIn wsX9_book wsX0_clear := goodIn_r _ [72, 73, 74, 103, 104, 105] (by decide +kernel) (by decide +kernel)
set_option maxRecDepth 20000 in
theorem gX9_book_X0_clear : GoodIn wsX9_book (wsV RX9 88 RX0 yX0_clear wsX0_clear) := goodIn_app (goodIn_of _ (by decide +kernel)) ggX9_book_X0_clear
set_option maxRecDepth 20000 in
theorem ggX9_book_X7_clear : GoodIn wsX9_book wsX7_clear := goodIn_r _ [79, 80, 106, 107] (by decide +kernel) (by decide +kernel)
set_option maxRecDepth 20000 in
theorem gX9_book_X7_clear : GoodIn wsX9_book (wsV RX9 91 RX7 yX7_clear wsX7_clear) := goodIn_app (goodIn_of _ (by decide +kernel)) ggX9_book_X7_clear
theorem dX9_book_0 : decode cX9_book 0 = .ok (.aload_n 0, 1) := by decide +kernel
theorem dX9_book_1 : decode cX9_book 1 = .ok (.getfield 10, 3) := by decide +kernel
theorem dX9_book_4 : decode cX9_book 4 = .ok (.invokevirtual 80, 3) := by decide +kernel
theorem dX9_book_7 : decode cX9_book 7 = .ok (.bipush (-9), 2) := by decide +kernel
theorem dX9_book_9 : decode cX9_book 9 = .ok (.if_icmp .eq 6, 3) := by decide +kernel
theorem dX9_book_12 : decode cX9_book 12 = .ok (.bipush (-3), 2) := by decide +kernel
theorem dX9_book_14 : decode cX9_book 14 = .ok (.ireturn, 1) := by decide +kernel
theorem dX9_book_15 : decode cX9_book 15 = .ok (.aload_n 0, 1) := by decide +kernel
theorem dX9_book_16 : decode cX9_book 16 = .ok (.getfield 10, 3) := by decide +kernel
theorem dX9_book_19 : decode cX9_book 19 = .ok (.aload_n 0, 1) := by decide +kernel
theorem dX9_book_20 : decode cX9_book 20 = .ok (.getfield 19, 3) := by decide +kernel
theorem dX9_book_23 : decode cX9_book 23 = .ok (.invokevirtual 84, 3) := by decide +kernel
theorem dX9_book_26 : decode cX9_book 26 = .ok (.aload_n 0, 1) := by decide +kernel
theorem dX9_book_27 : decode cX9_book 27 = .ok (.getfield 26, 3) := by decide +kernel
theorem dX9_book_30 : decode cX9_book 30 = .ok (.invokevirtual 88, 3) := by decide +kernel
theorem dX9_book_33 : decode cX9_book 33 = .ok (.aload_n 0, 1) := by decide +kernel
theorem dX9_book_34 : decode cX9_book 34 = .ok (.getfield 33, 3) := by decide +kernel
theorem dX9_book_37 : decode cX9_book 37 = .ok (.invokevirtual 91, 3) := by decide +kernel
theorem dX9_book_40 : decode cX9_book 40 = .ok (.aload_n 0, 1) := by decide +kernel
theorem dX9_book_41 : decode cX9_book 41 = .ok (.getfield 19, 3) := by decide +kernel
theorem dX9_book_44 : decode cX9_book 44 = .ok (.getfield 92, 3) := by decide +kernel
theorem dX9_book_47 : decode cX9_book 47 = .ok (.ireturn, 1) := by decide +kernel
set_option maxRecDepth 20000 in
theorem ggX9_about_X3_allMornings : GoodIn wsX9_about wsX3_allMornings := goodIn_r _ [17, 18, 19, 35, 36, 37, 38, 39, 40, 41, 42, 43, 44, 45] (by decide +kernel) (by decide +kernel)
set_option maxRecDepth 20000 in
theorem gX9_about_X3_allMornings : GoodIn wsX9_about (wsV RX9 110 RX3 yX3_allMornings wsX3_allMornings) := goodIn_app (goodIn_of _ (by decide +kernel)) ggX9_about_X3_allMornings
set_option maxRecDepth 20000 in
theorem ggX9_about_X3_allOwed : GoodIn wsX9_about wsX3_allOwed := goodIn_r _ [23, 24, 25, 35, 36, 37, 38, 39, 40, 41, 42, 43, 44, 45] (by decide +kernel) (by decide +kernel)
set_option maxRecDepth 20000 in
theorem gX9_about_X3_allOwed : GoodIn wsX9_about (wsV RX9 113 RX3 yX3_allOwed wsX3_allOwed) := goodIn_app (goodIn_of _ (by decide +kernel)) ggX9_about_X3_allOwed
theorem dX9_about_0 : decode cX9_about 0 = .ok (.iload_n 1, 1) := by decide +kernel
theorem dX9_about_1 : decode cX9_about 1 = .ok (.tableswitch 135 0 9 #[55, 63, 71, 79, 87, 95, 103, 111, 119, 127], 55) := by decide +kernel
theorem dX9_about_56 : decode cX9_about 56 = .ok (.aload_n 0, 1) := by decide +kernel
theorem dX9_about_57 : decode cX9_about 57 = .ok (.getfield 19, 3) := by decide +kernel
theorem dX9_about_60 : decode cX9_about 60 = .ok (.getfield 92, 3) := by decide +kernel
theorem dX9_about_63 : decode cX9_about 63 = .ok (.ireturn, 1) := by decide +kernel
theorem dX9_about_64 : decode cX9_about 64 = .ok (.aload_n 0, 1) := by decide +kernel
theorem dX9_about_65 : decode cX9_about 65 = .ok (.getfield 19, 3) := by decide +kernel
theorem dX9_about_68 : decode cX9_about 68 = .ok (.getfield 95, 3) := by decide +kernel
theorem dX9_about_71 : decode cX9_about 71 = .ok (.ireturn, 1) := by decide +kernel
theorem dX9_about_72 : decode cX9_about 72 = .ok (.aload_n 0, 1) := by decide +kernel
theorem dX9_about_73 : decode cX9_about 73 = .ok (.getfield 19, 3) := by decide +kernel
theorem dX9_about_76 : decode cX9_about 76 = .ok (.getfield 98, 3) := by decide +kernel
theorem dX9_about_79 : decode cX9_about 79 = .ok (.ireturn, 1) := by decide +kernel
theorem dX9_about_80 : decode cX9_about 80 = .ok (.aload_n 0, 1) := by decide +kernel
theorem dX9_about_81 : decode cX9_about 81 = .ok (.getfield 26, 3) := by decide +kernel
theorem dX9_about_84 : decode cX9_about 84 = .ok (.getfield 101, 3) := by decide +kernel
theorem dX9_about_87 : decode cX9_about 87 = .ok (.ireturn, 1) := by decide +kernel
theorem dX9_about_88 : decode cX9_about 88 = .ok (.aload_n 0, 1) := by decide +kernel
theorem dX9_about_89 : decode cX9_about 89 = .ok (.getfield 19, 3) := by decide +kernel
theorem dX9_about_92 : decode cX9_about 92 = .ok (.getfield 104, 3) := by decide +kernel
theorem dX9_about_95 : decode cX9_about 95 = .ok (.ireturn, 1) := by decide +kernel
theorem dX9_about_96 : decode cX9_about 96 = .ok (.aload_n 0, 1) := by decide +kernel
theorem dX9_about_97 : decode cX9_about 97 = .ok (.getfield 19, 3) := by decide +kernel
theorem dX9_about_100 : decode cX9_about 100 = .ok (.getfield 107, 3) := by decide +kernel
theorem dX9_about_103 : decode cX9_about 103 = .ok (.ireturn, 1) := by decide +kernel
theorem dX9_about_104 : decode cX9_about 104 = .ok (.aload_n 0, 1) := by decide +kernel
theorem dX9_about_105 : decode cX9_about 105 = .ok (.getfield 19, 3) := by decide +kernel
theorem dX9_about_108 : decode cX9_about 108 = .ok (.invokevirtual 110, 3) := by decide +kernel
theorem dX9_about_111 : decode cX9_about 111 = .ok (.ireturn, 1) := by decide +kernel
theorem dX9_about_112 : decode cX9_about 112 = .ok (.aload_n 0, 1) := by decide +kernel
theorem dX9_about_113 : decode cX9_about 113 = .ok (.getfield 19, 3) := by decide +kernel
theorem dX9_about_116 : decode cX9_about 116 = .ok (.invokevirtual 113, 3) := by decide +kernel
theorem dX9_about_119 : decode cX9_about 119 = .ok (.ireturn, 1) := by decide +kernel
theorem dX9_about_120 : decode cX9_about 120 = .ok (.aload_n 0, 1) := by decide +kernel
theorem dX9_about_121 : decode cX9_about 121 = .ok (.getfield 40, 3) := by decide +kernel
theorem dX9_about_124 : decode cX9_about 124 = .ok (.getfield 116, 3) := by decide +kernel
theorem dX9_about_127 : decode cX9_about 127 = .ok (.ireturn, 1) := by decide +kernel
theorem dX9_about_128 : decode cX9_about 128 = .ok (.aload_n 0, 1) := by decide +kernel
theorem dX9_about_129 : decode cX9_about 129 = .ok (.getfield 10, 3) := by decide +kernel
theorem dX9_about_132 : decode cX9_about 132 = .ok (.getfield 76, 3) := by decide +kernel
theorem dX9_about_135 : decode cX9_about 135 = .ok (.ireturn, 1) := by decide +kernel
theorem dX9_about_136 : decode cX9_about 136 = .ok (.bipush (-2), 2) := by decide +kernel
theorem dX9_about_138 : decode cX9_about 138 = .ok (.ireturn, 1) := by decide +kernel
set_option maxRecDepth 20000 in
theorem ggX9_person_X3_has : GoodIn wsX9_person wsX3_has := goodIn_r _ [8, 9, 50, 51, 52, 53, 54, 55, 56, 57, 58, 59, 60] (by decide +kernel) (by decide +kernel)
set_option maxRecDepth 20000 in
theorem gX9_person_X3_has : GoodIn wsX9_person (wsV RX9 117 RX3 yX3_has wsX3_has) := goodIn_app (goodIn_of _ (by decide +kernel)) ggX9_person_X3_has
set_option maxRecDepth 20000 in
theorem ggX9_person_X3_isAlive : GoodIn wsX9_person wsX3_isAlive := goodIn_r _ [13, 14, 15, 16, 17, 50, 51, 52, 53, 54, 55, 56, 57, 58, 59, 60] (by decide +kernel) (by decide +kernel)
set_option maxRecDepth 20000 in
theorem gX9_person_X3_isAlive : GoodIn wsX9_person (wsV RX9 128 RX3 yX3_isAlive wsX3_isAlive) := goodIn_app (goodIn_of _ (by decide +kernel)) ggX9_person_X3_isAlive
set_option maxRecDepth 20000 in
theorem ggX9_person_X3_isBroken : GoodIn wsX9_person wsX3_isBroken := goodIn_r _ [21, 22, 15, 16, 17, 50, 51, 52, 53, 54, 55, 56, 57, 58, 59, 60] (by decide +kernel) (by decide +kernel)
set_option maxRecDepth 20000 in
theorem gX9_person_X3_isBroken : GoodIn wsX9_person (wsV RX9 131 RX3 yX3_isBroken wsX3_isBroken) := goodIn_app (goodIn_of _ (by decide +kernel)) ggX9_person_X3_isBroken
set_option maxRecDepth 20000 in
theorem ggX9_person_X3_owedBy : GoodIn wsX9_person wsX3_owedBy := goodIn_r _ [26, 27, 28, 29, 50, 51, 52, 53, 54, 55, 56, 57, 58, 59, 60] (by decide +kernel) (by decide +kernel)
set_option maxRecDepth 20000 in
theorem gX9_person_X3_owedBy : GoodIn wsX9_person (wsV RX9 134 RX3 yX3_owedBy wsX3_owedBy) := goodIn_app (goodIn_of _ (by decide +kernel)) ggX9_person_X3_owedBy
set_option maxRecDepth 20000 in
theorem ggX9_person_X3_owedTo : GoodIn wsX9_person wsX3_owedTo := goodIn_r _ [33, 27, 34, 29, 50, 51, 52, 53, 54, 55, 56, 57, 58, 59, 60] (by decide +kernel) (by decide +kernel)
set_option maxRecDepth 20000 in
theorem gX9_person_X3_owedTo : GoodIn wsX9_person (wsV RX9 138 RX3 yX3_owedTo wsX3_owedTo) := goodIn_app (goodIn_of _ (by decide +kernel)) ggX9_person_X3_owedTo
set_option maxRecDepth 20000 in
theorem ggX9_person_X3_netOf : GoodIn wsX9_person wsX3_netOf := goodIn_r _ [38, 39, 31, 32, 7, 33, 27, 34, 29, 40, 24, 25, 26, 28, 50, 51, 52, 53, 54, 55, 56, 57, 58, 59, 60] (by decide +kernel) (by decide +kernel)
set_option maxRecDepth 20000 in
theorem gX9_person_X3_netOf : GoodIn wsX9_person (wsV RX9 141 RX3 yX3_netOf wsX3_netOf) := goodIn_app (goodIn_of _ (by decide +kernel)) ggX9_person_X3_netOf
theorem dX9_person_0 : decode cX9_person 0 = .ok (.aload_n 0, 1) := by decide +kernel
theorem dX9_person_1 : decode cX9_person 1 = .ok (.getfield 19, 3) := by decide +kernel
theorem dX9_person_4 : decode cX9_person 4 = .ok (.iload_n 1, 1) := by decide +kernel
theorem dX9_person_5 : decode cX9_person 5 = .ok (.invokevirtual 117, 3) := by decide +kernel
theorem dX9_person_8 : decode cX9_person 8 = .ok (.ifCond .ne 5, 3) := by decide +kernel
theorem dX9_person_11 : decode cX9_person 11 = .ok (.iconst (-1), 1) := by decide +kernel
theorem dX9_person_12 : decode cX9_person 12 = .ok (.ireturn, 1) := by decide +kernel
theorem dX9_person_13 : decode cX9_person 13 = .ok (.iload_n 2, 1) := by decide +kernel
theorem dX9_person_14 : decode cX9_person 14 = .ok (.tableswitch 127 0 6 #[42, 52, 62, 79, 96, 105, 114], 42) := by decide +kernel
theorem dX9_person_56 : decode cX9_person 56 = .ok (.aload_n 0, 1) := by decide +kernel
theorem dX9_person_57 : decode cX9_person 57 = .ok (.getfield 19, 3) := by decide +kernel
theorem dX9_person_60 : decode cX9_person 60 = .ok (.getfield 121, 3) := by decide +kernel
theorem dX9_person_63 : decode cX9_person 63 = .ok (.iload_n 1, 1) := by decide +kernel
theorem dX9_person_64 : decode cX9_person 64 = .ok (.iaload, 1) := by decide +kernel
theorem dX9_person_65 : decode cX9_person 65 = .ok (.ireturn, 1) := by decide +kernel
theorem dX9_person_66 : decode cX9_person 66 = .ok (.aload_n 0, 1) := by decide +kernel
theorem dX9_person_67 : decode cX9_person 67 = .ok (.getfield 19, 3) := by decide +kernel
theorem dX9_person_70 : decode cX9_person 70 = .ok (.getfield 125, 3) := by decide +kernel
theorem dX9_person_73 : decode cX9_person 73 = .ok (.iload_n 1, 1) := by decide +kernel
theorem dX9_person_74 : decode cX9_person 74 = .ok (.iaload, 1) := by decide +kernel
theorem dX9_person_75 : decode cX9_person 75 = .ok (.ireturn, 1) := by decide +kernel
theorem dX9_person_76 : decode cX9_person 76 = .ok (.aload_n 0, 1) := by decide +kernel
theorem dX9_person_77 : decode cX9_person 77 = .ok (.getfield 19, 3) := by decide +kernel
theorem dX9_person_80 : decode cX9_person 80 = .ok (.iload_n 1, 1) := by decide +kernel
theorem dX9_person_81 : decode cX9_person 81 = .ok (.invokevirtual 128, 3) := by decide +kernel
theorem dX9_person_84 : decode cX9_person 84 = .ok (.ifCond .eq 7, 3) := by decide +kernel
theorem dX9_person_87 : decode cX9_person 87 = .ok (.iconst 1, 1) := by decide +kernel
theorem dX9_person_88 : decode cX9_person 88 = .ok (.goto 4, 3) := by decide +kernel
theorem dX9_person_91 : decode cX9_person 91 = .ok (.iconst 0, 1) := by decide +kernel
theorem dX9_person_92 : decode cX9_person 92 = .ok (.ireturn, 1) := by decide +kernel
theorem dX9_person_93 : decode cX9_person 93 = .ok (.aload_n 0, 1) := by decide +kernel
theorem dX9_person_94 : decode cX9_person 94 = .ok (.getfield 19, 3) := by decide +kernel
theorem dX9_person_97 : decode cX9_person 97 = .ok (.iload_n 1, 1) := by decide +kernel
theorem dX9_person_98 : decode cX9_person 98 = .ok (.invokevirtual 131, 3) := by decide +kernel
theorem dX9_person_101 : decode cX9_person 101 = .ok (.ifCond .eq 7, 3) := by decide +kernel
theorem dX9_person_104 : decode cX9_person 104 = .ok (.iconst 1, 1) := by decide +kernel
theorem dX9_person_105 : decode cX9_person 105 = .ok (.goto 4, 3) := by decide +kernel
theorem dX9_person_108 : decode cX9_person 108 = .ok (.iconst 0, 1) := by decide +kernel
theorem dX9_person_109 : decode cX9_person 109 = .ok (.ireturn, 1) := by decide +kernel
theorem dX9_person_110 : decode cX9_person 110 = .ok (.aload_n 0, 1) := by decide +kernel
theorem dX9_person_111 : decode cX9_person 111 = .ok (.getfield 19, 3) := by decide +kernel
theorem dX9_person_114 : decode cX9_person 114 = .ok (.iload_n 1, 1) := by decide +kernel
theorem dX9_person_115 : decode cX9_person 115 = .ok (.invokevirtual 134, 3) := by decide +kernel
theorem dX9_person_118 : decode cX9_person 118 = .ok (.ireturn, 1) := by decide +kernel
theorem dX9_person_119 : decode cX9_person 119 = .ok (.aload_n 0, 1) := by decide +kernel
theorem dX9_person_120 : decode cX9_person 120 = .ok (.getfield 19, 3) := by decide +kernel
theorem dX9_person_123 : decode cX9_person 123 = .ok (.iload_n 1, 1) := by decide +kernel
theorem dX9_person_124 : decode cX9_person 124 = .ok (.invokevirtual 138, 3) := by decide +kernel
theorem dX9_person_127 : decode cX9_person 127 = .ok (.ireturn, 1) := by decide +kernel
theorem dX9_person_128 : decode cX9_person 128 = .ok (.aload_n 0, 1) := by decide +kernel
theorem dX9_person_129 : decode cX9_person 129 = .ok (.getfield 19, 3) := by decide +kernel
theorem dX9_person_132 : decode cX9_person 132 = .ok (.iload_n 1, 1) := by decide +kernel
theorem dX9_person_133 : decode cX9_person 133 = .ok (.invokevirtual 141, 3) := by decide +kernel
theorem dX9_person_136 : decode cX9_person 136 = .ok (.sipush 10000, 3) := by decide +kernel
theorem dX9_person_139 : decode cX9_person 139 = .ok (.iadd, 1) := by decide +kernel
theorem dX9_person_140 : decode cX9_person 140 = .ok (.ireturn, 1) := by decide +kernel
theorem dX9_person_141 : decode cX9_person 141 = .ok (.bipush (-2), 2) := by decide +kernel
theorem dX9_person_143 : decode cX9_person 143 = .ok (.ireturn, 1) := by decide +kernel
theorem dX9_debt_0 : decode cX9_debt 0 = .ok (.iload_n 1, 1) := by decide +kernel
theorem dX9_debt_1 : decode cX9_debt 1 = .ok (.ifCond .lt 20, 3) := by decide +kernel
theorem dX9_debt_4 : decode cX9_debt 4 = .ok (.iload_n 1, 1) := by decide +kernel
theorem dX9_debt_5 : decode cX9_debt 5 = .ok (.aload_n 0, 1) := by decide +kernel
theorem dX9_debt_6 : decode cX9_debt 6 = .ok (.getfield 19, 3) := by decide +kernel
theorem dX9_debt_9 : decode cX9_debt 9 = .ok (.getfield 95, 3) := by decide +kernel
theorem dX9_debt_12 : decode cX9_debt 12 = .ok (.if_icmp .ge 9, 3) := by decide +kernel
theorem dX9_debt_15 : decode cX9_debt 15 = .ok (.iload_n 1, 1) := by decide +kernel
theorem dX9_debt_16 : decode cX9_debt 16 = .ok (.bipush 12, 2) := by decide +kernel
theorem dX9_debt_18 : decode cX9_debt 18 = .ok (.if_icmp .lt 5, 3) := by decide +kernel
theorem dX9_debt_21 : decode cX9_debt 21 = .ok (.iconst (-1), 1) := by decide +kernel
theorem dX9_debt_22 : decode cX9_debt 22 = .ok (.ireturn, 1) := by decide +kernel
theorem dX9_debt_23 : decode cX9_debt 23 = .ok (.iload_n 2, 1) := by decide +kernel
theorem dX9_debt_24 : decode cX9_debt 24 = .ok (.tableswitch 72 0 3 #[32, 42, 52, 62], 32) := by decide +kernel
theorem dX9_debt_56 : decode cX9_debt 56 = .ok (.aload_n 0, 1) := by decide +kernel
theorem dX9_debt_57 : decode cX9_debt 57 = .ok (.getfield 19, 3) := by decide +kernel
theorem dX9_debt_60 : decode cX9_debt 60 = .ok (.getfield 144, 3) := by decide +kernel
theorem dX9_debt_63 : decode cX9_debt 63 = .ok (.iload_n 1, 1) := by decide +kernel
theorem dX9_debt_64 : decode cX9_debt 64 = .ok (.iaload, 1) := by decide +kernel
theorem dX9_debt_65 : decode cX9_debt 65 = .ok (.ireturn, 1) := by decide +kernel
theorem dX9_debt_66 : decode cX9_debt 66 = .ok (.aload_n 0, 1) := by decide +kernel
theorem dX9_debt_67 : decode cX9_debt 67 = .ok (.getfield 19, 3) := by decide +kernel
theorem dX9_debt_70 : decode cX9_debt 70 = .ok (.getfield 147, 3) := by decide +kernel
theorem dX9_debt_73 : decode cX9_debt 73 = .ok (.iload_n 1, 1) := by decide +kernel
theorem dX9_debt_74 : decode cX9_debt 74 = .ok (.iaload, 1) := by decide +kernel
theorem dX9_debt_75 : decode cX9_debt 75 = .ok (.ireturn, 1) := by decide +kernel
theorem dX9_debt_76 : decode cX9_debt 76 = .ok (.aload_n 0, 1) := by decide +kernel
theorem dX9_debt_77 : decode cX9_debt 77 = .ok (.getfield 19, 3) := by decide +kernel
theorem dX9_debt_80 : decode cX9_debt 80 = .ok (.getfield 150, 3) := by decide +kernel
theorem dX9_debt_83 : decode cX9_debt 83 = .ok (.iload_n 1, 1) := by decide +kernel
theorem dX9_debt_84 : decode cX9_debt 84 = .ok (.iaload, 1) := by decide +kernel
theorem dX9_debt_85 : decode cX9_debt 85 = .ok (.ireturn, 1) := by decide +kernel
theorem dX9_debt_86 : decode cX9_debt 86 = .ok (.aload_n 0, 1) := by decide +kernel
theorem dX9_debt_87 : decode cX9_debt 87 = .ok (.getfield 19, 3) := by decide +kernel
theorem dX9_debt_90 : decode cX9_debt 90 = .ok (.getfield 153, 3) := by decide +kernel
theorem dX9_debt_93 : decode cX9_debt 93 = .ok (.iload_n 1, 1) := by decide +kernel
theorem dX9_debt_94 : decode cX9_debt 94 = .ok (.iaload, 1) := by decide +kernel
theorem dX9_debt_95 : decode cX9_debt 95 = .ok (.ireturn, 1) := by decide +kernel
theorem dX9_debt_96 : decode cX9_debt 96 = .ok (.bipush (-2), 2) := by decide +kernel
theorem dX9_debt_98 : decode cX9_debt 98 = .ok (.ireturn, 1) := by decide +kernel
set_option maxRecDepth 20000 in
theorem ggX9_ask_X3_has : GoodIn wsX9_ask wsX3_has := goodIn_r _ [7, 8, 18, 19, 20, 21, 22, 23, 24, 25, 26, 27, 28] (by decide +kernel) (by decide +kernel)
set_option maxRecDepth 20000 in
theorem gX9_ask_X3_has : GoodIn wsX9_ask (wsV RX9 117 RX3 yX3_has wsX3_has) := goodIn_app (goodIn_of _ (by decide +kernel)) ggX9_ask_X3_has
theorem dX9_ask_0 : decode cX9_ask 0 = .ok (.aload_n 0, 1) := by decide +kernel
theorem dX9_ask_1 : decode cX9_ask 1 = .ok (.getfield 19, 3) := by decide +kernel
theorem dX9_ask_4 : decode cX9_ask 4 = .ok (.iload_n 1, 1) := by decide +kernel
theorem dX9_ask_5 : decode cX9_ask 5 = .ok (.invokevirtual 117, 3) := by decide +kernel
theorem dX9_ask_8 : decode cX9_ask 8 = .ok (.ifCond .ne 5, 3) := by decide +kernel
theorem dX9_ask_11 : decode cX9_ask 11 = .ok (.iconst (-1), 1) := by decide +kernel
theorem dX9_ask_12 : decode cX9_ask 12 = .ok (.ireturn, 1) := by decide +kernel
theorem dX9_ask_13 : decode cX9_ask 13 = .ok (.iload_n 2, 1) := by decide +kernel
theorem dX9_ask_14 : decode cX9_ask 14 = .ok (.ifCond .lt 9, 3) := by decide +kernel
theorem dX9_ask_17 : decode cX9_ask 17 = .ok (.iload_n 2, 1) := by decide +kernel
theorem dX9_ask_18 : decode cX9_ask 18 = .ok (.bipush 9, 2) := by decide +kernel
theorem dX9_ask_20 : decode cX9_ask 20 = .ok (.if_icmp .le 6, 3) := by decide +kernel
theorem dX9_ask_23 : decode cX9_ask 23 = .ok (.bipush (-2), 2) := by decide +kernel
theorem dX9_ask_25 : decode cX9_ask 25 = .ok (.ireturn, 1) := by decide +kernel
theorem dX9_ask_26 : decode cX9_ask 26 = .ok (.aload_n 0, 1) := by decide +kernel
theorem dX9_ask_27 : decode cX9_ask 27 = .ok (.getfield 19, 3) := by decide +kernel
theorem dX9_ask_30 : decode cX9_ask 30 = .ok (.getfield 125, 3) := by decide +kernel
theorem dX9_ask_33 : decode cX9_ask 33 = .ok (.iload_n 1, 1) := by decide +kernel
theorem dX9_ask_34 : decode cX9_ask 34 = .ok (.iaload, 1) := by decide +kernel
theorem dX9_ask_35 : decode cX9_ask 35 = .ok (.istore_n 3, 1) := by decide +kernel
theorem dX9_ask_36 : decode cX9_ask 36 = .ok (.aload_n 0, 1) := by decide +kernel
theorem dX9_ask_37 : decode cX9_ask 37 = .ok (.getfield 19, 3) := by decide +kernel
theorem dX9_ask_40 : decode cX9_ask 40 = .ok (.getfield 125, 3) := by decide +kernel
theorem dX9_ask_43 : decode cX9_ask 43 = .ok (.iload_n 1, 1) := by decide +kernel
theorem dX9_ask_44 : decode cX9_ask 44 = .ok (.iload_n 2, 1) := by decide +kernel
theorem dX9_ask_45 : decode cX9_ask 45 = .ok (.iastore, 1) := by decide +kernel
theorem dX9_ask_46 : decode cX9_ask 46 = .ok (.iload_n 3, 1) := by decide +kernel
theorem dX9_ask_47 : decode cX9_ask 47 = .ok (.ireturn, 1) := by decide +kernel
set_option maxRecDepth 20000 in
theorem ggX9_lend_X3_has : GoodIn wsX9_lend wsX3_has := goodIn_r _ [8, 9, 86, 87, 88, 89, 90, 91, 92, 93, 94, 95, 96] (by decide +kernel) (by decide +kernel)
set_option maxRecDepth 20000 in
theorem gX9_lend_X3_has : GoodIn wsX9_lend (wsV RX9 117 RX3 yX3_has wsX3_has) := goodIn_app (goodIn_of _ (by decide +kernel)) ggX9_lend_X3_has
set_option maxRecDepth 20000 in
theorem ggX9_lend_X9_isLoan : GoodIn wsX9_lend wsX9_isLoan := goodIn_r _ [13] (by decide +kernel) (by decide +kernel)
set_option maxRecDepth 20000 in
theorem gX9_lend_X9_isLoan : GoodIn wsX9_lend (va_wsS RX9 156 yX9_isLoan wsX9_isLoan) := goodIn_app (goodIn_of _ (by decide +kernel)) ggX9_lend_X9_isLoan
set_option maxRecDepth 20000 in
theorem ggX9_lend_X3_mayLend : GoodIn wsX9_lend wsX3_mayLend := goodIn_r _ [17, 18, 19, 20, 21, 7, 22, 23, 24, 12, 25, 26, 27, 28, 29, 30, 31, 32, 33, 34, 35, 36, 37, 38, 39, 40, 41, 42, 43, 44, 86, 87, 88, 89, 90, 91, 92, 93, 94, 95, 96] (by decide +kernel) (by decide +kernel)
set_option maxRecDepth 20000 in
theorem gX9_lend_X3_mayLend : GoodIn wsX9_lend (wsV RX9 159 RX3 yX3_mayLend wsX3_mayLend) := goodIn_app (goodIn_of _ (by decide +kernel)) ggX9_lend_X3_mayLend
set_option maxRecDepth 20000 in
theorem ggX9_lend_X0_remember : GoodIn wsX9_lend wsX0_remember := goodIn_r _ [49, 50, 51, 52, 53, 54, 55, 48, 56, 57, 58, 59, 7, 60, 9, 35, 61, 23, 30, 18, 62, 63, 64, 65, 42, 66, 36, 37, 67, 97, 98, 99, 86, 87, 88, 89, 90, 91, 92, 93, 94, 95, 96] (by decide +kernel) (by decide +kernel)
set_option maxRecDepth 20000 in
theorem gX9_lend_X0_remember : GoodIn wsX9_lend (wsV RX9 163 RX0 yX0_remember wsX0_remember) := goodIn_app (goodIn_of _ (by decide +kernel)) ggX9_lend_X0_remember
set_option maxRecDepth 20000 in
theorem ggX9_lend_X3_giveAsLoan : GoodIn wsX9_lend wsX3_giveAsLoan := goodIn_r _ [71, 18, 61, 38, 39, 40, 7, 41, 42, 43, 12, 44, 72, 73, 74, 75, 35, 66, 36, 37, 67, 76, 5, 6, 8, 9, 86, 87, 88, 89, 90, 91, 92, 93, 94, 95, 96] (by decide +kernel) (by decide +kernel)
set_option maxRecDepth 20000 in
theorem gX9_lend_X3_giveAsLoan : GoodIn wsX9_lend (wsV RX9 166 RX3 yX3_giveAsLoan wsX3_giveAsLoan) := goodIn_app (goodIn_of _ (by decide +kernel)) ggX9_lend_X3_giveAsLoan
theorem dX9_lend_0 : decode cX9_lend 0 = .ok (.aload_n 0, 1) := by decide +kernel
theorem dX9_lend_1 : decode cX9_lend 1 = .ok (.getfield 19, 3) := by decide +kernel
theorem dX9_lend_4 : decode cX9_lend 4 = .ok (.iload_n 1, 1) := by decide +kernel
theorem dX9_lend_5 : decode cX9_lend 5 = .ok (.invokevirtual 117, 3) := by decide +kernel
theorem dX9_lend_8 : decode cX9_lend 8 = .ok (.ifCond .eq 14, 3) := by decide +kernel
theorem dX9_lend_11 : decode cX9_lend 11 = .ok (.aload_n 0, 1) := by decide +kernel
theorem dX9_lend_12 : decode cX9_lend 12 = .ok (.getfield 19, 3) := by decide +kernel
theorem dX9_lend_15 : decode cX9_lend 15 = .ok (.iload_n 2, 1) := by decide +kernel
theorem dX9_lend_16 : decode cX9_lend 16 = .ok (.invokevirtual 117, 3) := by decide +kernel
theorem dX9_lend_19 : decode cX9_lend 19 = .ok (.ifCond .ne 5, 3) := by decide +kernel
theorem dX9_lend_22 : decode cX9_lend 22 = .ok (.iconst (-1), 1) := by decide +kernel
theorem dX9_lend_23 : decode cX9_lend 23 = .ok (.ireturn, 1) := by decide +kernel
theorem dX9_lend_24 : decode cX9_lend 24 = .ok (.iload_n 1, 1) := by decide +kernel
theorem dX9_lend_25 : decode cX9_lend 25 = .ok (.iload_n 2, 1) := by decide +kernel
theorem dX9_lend_26 : decode cX9_lend 26 = .ok (.if_icmp .eq 23, 3) := by decide +kernel
theorem dX9_lend_29 : decode cX9_lend 29 = .ok (.iload_n 3, 1) := by decide +kernel
theorem dX9_lend_30 : decode cX9_lend 30 = .ok (.invokestatic 156, 3) := by decide +kernel
theorem dX9_lend_33 : decode cX9_lend 33 = .ok (.ifCond .eq 16, 3) := by decide +kernel
theorem dX9_lend_36 : decode cX9_lend 36 = .ok (.iload 4, 2) := by decide +kernel
theorem dX9_lend_38 : decode cX9_lend 38 = .ok (.iconst 1, 1) := by decide +kernel
theorem dX9_lend_39 : decode cX9_lend 39 = .ok (.if_icmp .lt 10, 3) := by decide +kernel
theorem dX9_lend_42 : decode cX9_lend 42 = .ok (.iload 4, 2) := by decide +kernel
theorem dX9_lend_44 : decode cX9_lend 44 = .ok (.bipush 9, 2) := by decide +kernel
theorem dX9_lend_46 : decode cX9_lend 46 = .ok (.if_icmp .le 6, 3) := by decide +kernel
theorem dX9_lend_49 : decode cX9_lend 49 = .ok (.bipush (-2), 2) := by decide +kernel
theorem dX9_lend_51 : decode cX9_lend 51 = .ok (.ireturn, 1) := by decide +kernel
theorem dX9_lend_52 : decode cX9_lend 52 = .ok (.aload_n 0, 1) := by decide +kernel
theorem dX9_lend_53 : decode cX9_lend 53 = .ok (.getfield 19, 3) := by decide +kernel
theorem dX9_lend_56 : decode cX9_lend 56 = .ok (.iload_n 1, 1) := by decide +kernel
theorem dX9_lend_57 : decode cX9_lend 57 = .ok (.iload_n 2, 1) := by decide +kernel
theorem dX9_lend_58 : decode cX9_lend 58 = .ok (.iload_n 3, 1) := by decide +kernel
theorem dX9_lend_59 : decode cX9_lend 59 = .ok (.invokevirtual 159, 3) := by decide +kernel
theorem dX9_lend_62 : decode cX9_lend 62 = .ok (.ifCond .ne 6, 3) := by decide +kernel
theorem dX9_lend_65 : decode cX9_lend 65 = .ok (.bipush (-3), 2) := by decide +kernel
theorem dX9_lend_67 : decode cX9_lend 67 = .ok (.ireturn, 1) := by decide +kernel
theorem dX9_lend_68 : decode cX9_lend 68 = .ok (.aload_n 0, 1) := by decide +kernel
theorem dX9_lend_69 : decode cX9_lend 69 = .ok (.getfield 19, 3) := by decide +kernel
theorem dX9_lend_72 : decode cX9_lend 72 = .ok (.getfield 95, 3) := by decide +kernel
theorem dX9_lend_75 : decode cX9_lend 75 = .ok (.bipush 12, 2) := by decide +kernel
theorem dX9_lend_77 : decode cX9_lend 77 = .ok (.if_icmp .lt 6, 3) := by decide +kernel
theorem dX9_lend_80 : decode cX9_lend 80 = .ok (.bipush (-4), 2) := by decide +kernel
theorem dX9_lend_82 : decode cX9_lend 82 = .ok (.ireturn, 1) := by decide +kernel
theorem dX9_lend_83 : decode cX9_lend 83 = .ok (.aload_n 0, 1) := by decide +kernel
theorem dX9_lend_84 : decode cX9_lend 84 = .ok (.getfield 26, 3) := by decide +kernel
theorem dX9_lend_87 : decode cX9_lend 87 = .ok (.aload_n 0, 1) := by decide +kernel
theorem dX9_lend_88 : decode cX9_lend 88 = .ok (.getfield 19, 3) := by decide +kernel
theorem dX9_lend_91 : decode cX9_lend 91 = .ok (.invokevirtual 163, 3) := by decide +kernel
theorem dX9_lend_94 : decode cX9_lend 94 = .ok (.aload_n 0, 1) := by decide +kernel
theorem dX9_lend_95 : decode cX9_lend 95 = .ok (.getfield 19, 3) := by decide +kernel
theorem dX9_lend_98 : decode cX9_lend 98 = .ok (.iload_n 1, 1) := by decide +kernel
theorem dX9_lend_99 : decode cX9_lend 99 = .ok (.iload_n 2, 1) := by decide +kernel
theorem dX9_lend_100 : decode cX9_lend 100 = .ok (.iload_n 3, 1) := by decide +kernel
theorem dX9_lend_101 : decode cX9_lend 101 = .ok (.iload 4, 2) := by decide +kernel
theorem dX9_lend_103 : decode cX9_lend 103 = .ok (.invokevirtual 166, 3) := by decide +kernel
theorem dX9_lend_106 : decode cX9_lend 106 = .ok (.ireturn, 1) := by decide +kernel
set_option maxRecDepth 20000 in
theorem ggX9_week_X0_remember : GoodIn wsX9_week wsX0_remember := goodIn_r _ [7, 8, 9, 10, 11, 12, 13, 6, 14, 15, 16, 17, 18, 19, 20, 21, 22, 23, 24, 25, 26, 27, 28, 29, 30, 31, 32, 33, 34, 64, 65, 66, 67, 68, 69, 70, 71, 72, 73, 74, 75, 76, 77] (by decide +kernel) (by decide +kernel)
set_option maxRecDepth 20000 in
theorem gX9_week_X0_remember : GoodIn wsX9_week (wsV RX9 163 RX0 yX0_remember wsX0_remember) := goodIn_app (goodIn_of _ (by decide +kernel)) ggX9_week_X0_remember
set_option maxRecDepth 20000 in
theorem ggX9_week_X3_passWeek : GoodIn wsX9_week wsX3_passWeek := goodIn_r _ [38, 24, 22, 21, 34, 39, 40, 41, 18, 42, 32, 33, 25, 43, 44, 45, 46, 31, 47, 48, 49, 50, 51, 52, 53, 54, 20, 67, 68, 69, 70, 71, 72, 73, 74, 75, 76, 77] (by decide +kernel) (by decide +kernel)
set_option maxRecDepth 20000 in
theorem gX9_week_X3_passWeek : GoodIn wsX9_week (wsV RX9 170 RX3 yX3_passWeek wsX3_passWeek) := goodIn_app (goodIn_of _ (by decide +kernel)) ggX9_week_X3_passWeek
theorem dX9_week_0 : decode cX9_week 0 = .ok (.aload_n 0, 1) := by decide +kernel
theorem dX9_week_1 : decode cX9_week 1 = .ok (.getfield 26, 3) := by decide +kernel
theorem dX9_week_4 : decode cX9_week 4 = .ok (.aload_n 0, 1) := by decide +kernel
theorem dX9_week_5 : decode cX9_week 5 = .ok (.getfield 19, 3) := by decide +kernel
theorem dX9_week_8 : decode cX9_week 8 = .ok (.invokevirtual 163, 3) := by decide +kernel
theorem dX9_week_11 : decode cX9_week 11 = .ok (.aload_n 0, 1) := by decide +kernel
theorem dX9_week_12 : decode cX9_week 12 = .ok (.getfield 19, 3) := by decide +kernel
theorem dX9_week_15 : decode cX9_week 15 = .ok (.invokevirtual 170, 3) := by decide +kernel
theorem dX9_week_18 : decode cX9_week 18 = .ok (.ireturn, 1) := by decide +kernel
set_option maxRecDepth 20000 in
theorem ggX9_heirs_X3_has : GoodIn wsX9_heirs wsX3_has := goodIn_r _ [8, 9, 88, 89, 90, 91, 92, 93, 94, 95, 96, 97, 98] (by decide +kernel) (by decide +kernel)
set_option maxRecDepth 20000 in
theorem gX9_heirs_X3_has : GoodIn wsX9_heirs (wsV RX9 117 RX3 yX3_has wsX3_has) := goodIn_app (goodIn_of _ (by decide +kernel)) ggX9_heirs_X3_has
set_option maxRecDepth 20000 in
theorem ggX9_heirs_X3_areAllPeople : GoodIn wsX9_heirs wsX3_areAllPeople := goodIn_r _ [13, 14, 15, 16, 7, 17, 9, 88, 89, 90, 91, 92, 93, 94, 95, 96, 97, 98] (by decide +kernel) (by decide +kernel)
set_option maxRecDepth 20000 in
theorem gX9_heirs_X3_areAllPeople : GoodIn wsX9_heirs (wsV RX9 173 RX3 yX3_areAllPeople wsX3_areAllPeople) := goodIn_app (goodIn_of _ (by decide +kernel)) ggX9_heirs_X3_areAllPeople
set_option maxRecDepth 20000 in
theorem ggX9_heirs_X9_isIn : GoodIn wsX9_heirs wsX9_isIn := goodIn_r _ [21] (by decide +kernel) (by decide +kernel)
set_option maxRecDepth 20000 in
theorem gX9_heirs_X9_isIn : GoodIn wsX9_heirs (va_wsS RX9 176 yX9_isIn wsX9_isIn) := goodIn_app (goodIn_of _ (by decide +kernel)) ggX9_heirs_X9_isIn
set_option maxRecDepth 20000 in
theorem ggX9_heirs_X3_isAlive : GoodIn wsX9_heirs wsX3_isAlive := goodIn_r _ [25, 26, 19, 20, 21, 88, 89, 90, 91, 92, 93, 94, 95, 96, 97, 98] (by decide +kernel) (by decide +kernel)
set_option maxRecDepth 20000 in
theorem gX9_heirs_X3_isAlive : GoodIn wsX9_heirs (wsV RX9 128 RX3 yX3_isAlive wsX3_isAlive) := goodIn_app (goodIn_of _ (by decide +kernel)) ggX9_heirs_X3_isAlive
set_option maxRecDepth 20000 in
theorem ggX9_heirs_X0_remember : GoodIn wsX9_heirs wsX0_remember := goodIn_r _ [31, 32, 33, 34, 35, 36, 37, 30, 38, 39, 40, 41, 7, 42, 9, 43, 44, 26, 45, 46, 47, 48, 49, 50, 51, 52, 53, 54, 55, 99, 100, 101, 88, 89, 90, 91, 92, 93, 94, 95, 96, 97, 98] (by decide +kernel) (by decide +kernel)
set_option maxRecDepth 20000 in
theorem gX9_heirs_X0_remember : GoodIn wsX9_heirs (wsV RX9 163 RX0 yX0_remember wsX0_remember) := goodIn_app (goodIn_of _ (by decide +kernel)) ggX9_heirs_X0_remember
set_option maxRecDepth 20000 in
theorem ggX9_heirs_X3_passOn : GoodIn wsX9_heirs wsX3_passOn := goodIn_r _ [59, 46, 9, 26, 60, 61, 62, 63, 64, 65, 66, 67, 68, 69, 7, 70, 19, 20, 21, 71, 72, 73, 74, 43, 52, 53, 75, 76, 77, 78, 54, 55, 88, 89, 90, 91, 92, 93, 94, 95, 96, 97, 98] (by decide +kernel) (by decide +kernel)
set_option maxRecDepth 20000 in
theorem gX9_heirs_X3_passOn : GoodIn wsX9_heirs (wsV RX9 180 RX3 yX3_passOn wsX3_passOn) := goodIn_app (goodIn_of _ (by decide +kernel)) ggX9_heirs_X3_passOn
theorem dX9_heirs_0 : decode cX9_heirs 0 = .ok (.aload_n 0, 1) := by decide +kernel
theorem dX9_heirs_1 : decode cX9_heirs 1 = .ok (.getfield 19, 3) := by decide +kernel
theorem dX9_heirs_4 : decode cX9_heirs 4 = .ok (.iload_n 1, 1) := by decide +kernel
theorem dX9_heirs_5 : decode cX9_heirs 5 = .ok (.invokevirtual 117, 3) := by decide +kernel
theorem dX9_heirs_8 : decode cX9_heirs 8 = .ok (.ifCond .ne 5, 3) := by decide +kernel
theorem dX9_heirs_11 : decode cX9_heirs 11 = .ok (.iconst (-1), 1) := by decide +kernel
theorem dX9_heirs_12 : decode cX9_heirs 12 = .ok (.ireturn, 1) := by decide +kernel
theorem dX9_heirs_13 : decode cX9_heirs 13 = .ok (.aload_n 0, 1) := by decide +kernel
theorem dX9_heirs_14 : decode cX9_heirs 14 = .ok (.getfield 19, 3) := by decide +kernel
theorem dX9_heirs_17 : decode cX9_heirs 17 = .ok (.iload_n 2, 1) := by decide +kernel
theorem dX9_heirs_18 : decode cX9_heirs 18 = .ok (.invokevirtual 173, 3) := by decide +kernel
theorem dX9_heirs_21 : decode cX9_heirs 21 = .ok (.ifCond .eq 15, 3) := by decide +kernel
theorem dX9_heirs_24 : decode cX9_heirs 24 = .ok (.iload_n 2, 1) := by decide +kernel
theorem dX9_heirs_25 : decode cX9_heirs 25 = .ok (.ifCond .eq 11, 3) := by decide +kernel
theorem dX9_heirs_28 : decode cX9_heirs 28 = .ok (.iload_n 2, 1) := by decide +kernel
theorem dX9_heirs_29 : decode cX9_heirs 29 = .ok (.iload_n 1, 1) := by decide +kernel
theorem dX9_heirs_30 : decode cX9_heirs 30 = .ok (.invokestatic 176, 3) := by decide +kernel
theorem dX9_heirs_33 : decode cX9_heirs 33 = .ok (.ifCond .eq 6, 3) := by decide +kernel
theorem dX9_heirs_36 : decode cX9_heirs 36 = .ok (.bipush (-2), 2) := by decide +kernel
theorem dX9_heirs_38 : decode cX9_heirs 38 = .ok (.ireturn, 1) := by decide +kernel
theorem dX9_heirs_39 : decode cX9_heirs 39 = .ok (.aload_n 0, 1) := by decide +kernel
theorem dX9_heirs_40 : decode cX9_heirs 40 = .ok (.getfield 19, 3) := by decide +kernel
theorem dX9_heirs_43 : decode cX9_heirs 43 = .ok (.iload_n 1, 1) := by decide +kernel
theorem dX9_heirs_44 : decode cX9_heirs 44 = .ok (.invokevirtual 128, 3) := by decide +kernel
theorem dX9_heirs_47 : decode cX9_heirs 47 = .ok (.ifCond .eq 17, 3) := by decide +kernel
theorem dX9_heirs_50 : decode cX9_heirs 50 = .ok (.iload_n 2, 1) := by decide +kernel
theorem dX9_heirs_51 : decode cX9_heirs 51 = .ok (.aload_n 0, 1) := by decide +kernel
theorem dX9_heirs_52 : decode cX9_heirs 52 = .ok (.getfield 19, 3) := by decide +kernel
theorem dX9_heirs_55 : decode cX9_heirs 55 = .ok (.getfield 104, 3) := by decide +kernel
theorem dX9_heirs_58 : decode cX9_heirs 58 = .ok (.iconst (-1), 1) := by decide +kernel
theorem dX9_heirs_59 : decode cX9_heirs 59 = .ok (.ixor, 1) := by decide +kernel
theorem dX9_heirs_60 : decode cX9_heirs 60 = .ok (.iand, 1) := by decide +kernel
theorem dX9_heirs_61 : decode cX9_heirs 61 = .ok (.ifCond .eq 6, 3) := by decide +kernel
theorem dX9_heirs_64 : decode cX9_heirs 64 = .ok (.bipush (-3), 2) := by decide +kernel
theorem dX9_heirs_66 : decode cX9_heirs 66 = .ok (.ireturn, 1) := by decide +kernel
theorem dX9_heirs_67 : decode cX9_heirs 67 = .ok (.aload_n 0, 1) := by decide +kernel
theorem dX9_heirs_68 : decode cX9_heirs 68 = .ok (.getfield 26, 3) := by decide +kernel
theorem dX9_heirs_71 : decode cX9_heirs 71 = .ok (.aload_n 0, 1) := by decide +kernel
theorem dX9_heirs_72 : decode cX9_heirs 72 = .ok (.getfield 19, 3) := by decide +kernel
theorem dX9_heirs_75 : decode cX9_heirs 75 = .ok (.invokevirtual 163, 3) := by decide +kernel
theorem dX9_heirs_78 : decode cX9_heirs 78 = .ok (.aload_n 0, 1) := by decide +kernel
theorem dX9_heirs_79 : decode cX9_heirs 79 = .ok (.getfield 19, 3) := by decide +kernel
theorem dX9_heirs_82 : decode cX9_heirs 82 = .ok (.iload_n 1, 1) := by decide +kernel
theorem dX9_heirs_83 : decode cX9_heirs 83 = .ok (.iload_n 2, 1) := by decide +kernel
theorem dX9_heirs_84 : decode cX9_heirs 84 = .ok (.invokevirtual 180, 3) := by decide +kernel
theorem dX9_heirs_87 : decode cX9_heirs 87 = .ok (.ireturn, 1) := by decide +kernel
set_option maxRecDepth 20000 in
theorem ggX9_jubilee_X0_remember : GoodIn wsX9_jubilee wsX0_remember := goodIn_r _ [7, 8, 9, 10, 11, 12, 13, 6, 14, 15, 16, 17, 18, 19, 20, 21, 22, 23, 24, 25, 26, 27, 28, 29, 30, 31, 32, 33, 34, 48, 49, 50, 51, 52, 53, 54, 55, 56, 57, 58, 59, 60, 61] (by decide +kernel) (by decide +kernel)
set_option maxRecDepth 20000 in
theorem gX9_jubilee_X0_remember : GoodIn wsX9_jubilee (wsV RX9 163 RX0 yX0_remember wsX0_remember) := goodIn_app (goodIn_of _ (by decide +kernel)) ggX9_jubilee_X0_remember
set_option maxRecDepth 20000 in
theorem ggX9_jubilee_X3_forgive : GoodIn wsX9_jubilee wsX3_forgive := goodIn_r _ [38, 21, 24, 51, 52, 53, 54, 55, 56, 57, 58, 59, 60, 61] (by decide +kernel) (by decide +kernel)
set_option maxRecDepth 20000 in
theorem gX9_jubilee_X3_forgive : GoodIn wsX9_jubilee (wsV RX9 184 RX3 yX3_forgive wsX3_forgive) := goodIn_app (goodIn_of _ (by decide +kernel)) ggX9_jubilee_X3_forgive
theorem dX9_jubilee_0 : decode cX9_jubilee 0 = .ok (.aload_n 0, 1) := by decide +kernel
theorem dX9_jubilee_1 : decode cX9_jubilee 1 = .ok (.getfield 26, 3) := by decide +kernel
theorem dX9_jubilee_4 : decode cX9_jubilee 4 = .ok (.aload_n 0, 1) := by decide +kernel
theorem dX9_jubilee_5 : decode cX9_jubilee 5 = .ok (.getfield 19, 3) := by decide +kernel
theorem dX9_jubilee_8 : decode cX9_jubilee 8 = .ok (.invokevirtual 163, 3) := by decide +kernel
theorem dX9_jubilee_11 : decode cX9_jubilee 11 = .ok (.aload_n 0, 1) := by decide +kernel
theorem dX9_jubilee_12 : decode cX9_jubilee 12 = .ok (.getfield 19, 3) := by decide +kernel
theorem dX9_jubilee_15 : decode cX9_jubilee 15 = .ok (.invokevirtual 184, 3) := by decide +kernel
theorem dX9_jubilee_18 : decode cX9_jubilee 18 = .ok (.ireturn, 1) := by decide +kernel
set_option maxRecDepth 20000 in
theorem ggX9_undo_X0_takeBack : GoodIn wsX9_undo wsX0_takeBack := goodIn_r _ [8, 9, 10, 11, 12, 13, 7, 14, 15, 16, 17, 18, 19, 20, 21, 22, 23, 24, 25, 26, 27, 28, 29, 30, 31, 32, 33, 34, 35, 45, 46, 47, 48, 49, 50, 51, 52, 53, 54, 55, 56, 57, 58] (by decide +kernel) (by decide +kernel)
set_option maxRecDepth 20000 in
theorem gX9_undo_X0_takeBack : GoodIn wsX9_undo (wsV RX9 187 RX0 yX0_takeBack wsX0_takeBack) := goodIn_app (goodIn_of _ (by decide +kernel)) ggX9_undo_X0_takeBack
theorem dX9_undo_0 : decode cX9_undo 0 = .ok (.aload_n 0, 1) := by decide +kernel
theorem dX9_undo_1 : decode cX9_undo 1 = .ok (.getfield 26, 3) := by decide +kernel
theorem dX9_undo_4 : decode cX9_undo 4 = .ok (.getfield 101, 3) := by decide +kernel
theorem dX9_undo_7 : decode cX9_undo 7 = .ok (.ifCond .ne 6, 3) := by decide +kernel
theorem dX9_undo_10 : decode cX9_undo 10 = .ok (.bipush (-3), 2) := by decide +kernel
theorem dX9_undo_12 : decode cX9_undo 12 = .ok (.ireturn, 1) := by decide +kernel
theorem dX9_undo_13 : decode cX9_undo 13 = .ok (.aload_n 0, 1) := by decide +kernel
theorem dX9_undo_14 : decode cX9_undo 14 = .ok (.getfield 26, 3) := by decide +kernel
theorem dX9_undo_17 : decode cX9_undo 17 = .ok (.aload_n 0, 1) := by decide +kernel
theorem dX9_undo_18 : decode cX9_undo 18 = .ok (.getfield 19, 3) := by decide +kernel
theorem dX9_undo_21 : decode cX9_undo 21 = .ok (.invokevirtual 187, 3) := by decide +kernel
theorem dX9_undo_24 : decode cX9_undo 24 = .ok (.aload_n 0, 1) := by decide +kernel
theorem dX9_undo_25 : decode cX9_undo 25 = .ok (.getfield 26, 3) := by decide +kernel
theorem dX9_undo_28 : decode cX9_undo 28 = .ok (.getfield 101, 3) := by decide +kernel
theorem dX9_undo_31 : decode cX9_undo 31 = .ok (.ireturn, 1) := by decide +kernel
set_option maxRecDepth 20000 in
theorem ggX9_fewest_X6_fewestPayments : GoodIn wsX9_fewest wsX6_fewestPayments := goodIn_r _ [7, 8, 9, 10, 11, 12, 13, 14, 15, 16, 17, 18, 6, 19, 20, 21, 22, 23, 24, 25, 26, 27, 28, 29, 30, 31, 32, 33, 34, 35, 36, 37, 38, 39, 40, 41, 42, 43, 53, 54, 55, 56, 57, 58, 59, 60, 61, 62, 63, 64, 65] (by decide +kernel) (by decide +kernel)
set_option maxRecDepth 20000 in
theorem gX9_fewest_X6_fewestPayments : GoodIn wsX9_fewest (wsV RX9 190 RX6 yX6_fewestPayments wsX6_fewestPayments) := goodIn_app (goodIn_of _ (by decide +kernel)) ggX9_fewest_X6_fewestPayments
theorem dX9_fewest_0 : decode cX9_fewest 0 = .ok (.aload_n 0, 1) := by decide +kernel
theorem dX9_fewest_1 : decode cX9_fewest 1 = .ok (.getfield 47, 3) := by decide +kernel
theorem dX9_fewest_4 : decode cX9_fewest 4 = .ok (.aload_n 0, 1) := by decide +kernel
theorem dX9_fewest_5 : decode cX9_fewest 5 = .ok (.getfield 19, 3) := by decide +kernel
theorem dX9_fewest_8 : decode cX9_fewest 8 = .ok (.invokevirtual 190, 3) := by decide +kernel
theorem dX9_fewest_11 : decode cX9_fewest 11 = .ok (.ireturn, 1) := by decide +kernel
set_option maxRecDepth 20000 in
theorem ggX9_falls_X3_areAllPeople : GoodIn wsX9_falls wsX3_areAllPeople := goodIn_r _ [7, 8, 9, 10, 6, 11, 12, 52, 53, 54, 55, 56, 57, 58, 59, 60, 61, 62] (by decide +kernel) (by decide +kernel)
set_option maxRecDepth 20000 in
theorem gX9_falls_X3_areAllPeople : GoodIn wsX9_falls (wsV RX9 173 RX3 yX3_areAllPeople wsX3_areAllPeople) := goodIn_app (goodIn_of _ (by decide +kernel)) ggX9_falls_X3_areAllPeople
set_option maxRecDepth 20000 in
theorem ggX9_falls_X6_fallen : GoodIn wsX9_falls wsX6_fallen := goodIn_r _ [17, 18, 9, 10, 6, 11, 12, 19, 20, 21, 16, 22, 23, 24, 25, 26, 27, 28, 29, 30, 31, 32, 33, 34, 35, 36, 37, 38, 39, 40, 41, 42, 52, 53, 54, 55, 56, 57, 58, 59, 60, 61, 62] (by decide +kernel) (by decide +kernel)
set_option maxRecDepth 20000 in
theorem gX9_falls_X6_fallen : GoodIn wsX9_falls (wsV RX9 194 RX6 yX6_fallen wsX6_fallen) := goodIn_app (goodIn_of _ (by decide +kernel)) ggX9_falls_X6_fallen
theorem dX9_falls_0 : decode cX9_falls 0 = .ok (.aload_n 0, 1) := by decide +kernel
theorem dX9_falls_1 : decode cX9_falls 1 = .ok (.getfield 19, 3) := by decide +kernel
theorem dX9_falls_4 : decode cX9_falls 4 = .ok (.iload_n 1, 1) := by decide +kernel
theorem dX9_falls_5 : decode cX9_falls 5 = .ok (.invokevirtual 173, 3) := by decide +kernel
theorem dX9_falls_8 : decode cX9_falls 8 = .ok (.ifCond .ne 6, 3) := by decide +kernel
theorem dX9_falls_11 : decode cX9_falls 11 = .ok (.bipush (-2), 2) := by decide +kernel
theorem dX9_falls_13 : decode cX9_falls 13 = .ok (.ireturn, 1) := by decide +kernel
theorem dX9_falls_14 : decode cX9_falls 14 = .ok (.aload_n 0, 1) := by decide +kernel
theorem dX9_falls_15 : decode cX9_falls 15 = .ok (.getfield 47, 3) := by decide +kernel
theorem dX9_falls_18 : decode cX9_falls 18 = .ok (.aload_n 0, 1) := by decide +kernel
theorem dX9_falls_19 : decode cX9_falls 19 = .ok (.getfield 19, 3) := by decide +kernel
theorem dX9_falls_22 : decode cX9_falls 22 = .ok (.iload_n 1, 1) := by decide +kernel
theorem dX9_falls_23 : decode cX9_falls 23 = .ok (.invokevirtual 194, 3) := by decide +kernel
theorem dX9_falls_26 : decode cX9_falls 26 = .ok (.ireturn, 1) := by decide +kernel
set_option maxRecDepth 20000 in
theorem ggX9_ring_X3_has : GoodIn wsX9_ring wsX3_has := goodIn_r _ [7, 8, 35, 36, 37, 38, 39, 40, 41, 42, 43, 44, 45] (by decide +kernel) (by decide +kernel)
set_option maxRecDepth 20000 in
theorem gX9_ring_X3_has : GoodIn wsX9_ring (wsV RX9 117 RX3 yX3_has wsX3_has) := goodIn_app (goodIn_of _ (by decide +kernel)) ggX9_ring_X3_has
set_option maxRecDepth 20000 in
theorem ggX9_ring_X5_fewestDebts : GoodIn wsX9_ring wsX5_fewestDebts := goodIn_r _ [13, 14, 15, 16, 17, 18, 19, 20, 21, 22, 23, 24, 12, 25, 35, 36, 37, 38, 39, 40, 41, 42, 43, 44, 45, 46] (by decide +kernel) (by decide +kernel)
set_option maxRecDepth 20000 in
theorem gX9_ring_X5_fewestDebts : GoodIn wsX9_ring (wsV RX9 198 RX5 yX5_fewestDebts wsX5_fewestDebts) := goodIn_app (goodIn_of _ (by decide +kernel)) ggX9_ring_X5_fewestDebts
theorem dX9_ring_0 : decode cX9_ring 0 = .ok (.aload_n 0, 1) := by decide +kernel
theorem dX9_ring_1 : decode cX9_ring 1 = .ok (.getfield 19, 3) := by decide +kernel
theorem dX9_ring_4 : decode cX9_ring 4 = .ok (.iload_n 1, 1) := by decide +kernel
theorem dX9_ring_5 : decode cX9_ring 5 = .ok (.invokevirtual 117, 3) := by decide +kernel
theorem dX9_ring_8 : decode cX9_ring 8 = .ok (.ifCond .ne 5, 3) := by decide +kernel
theorem dX9_ring_11 : decode cX9_ring 11 = .ok (.iconst (-1), 1) := by decide +kernel
theorem dX9_ring_12 : decode cX9_ring 12 = .ok (.ireturn, 1) := by decide +kernel
theorem dX9_ring_13 : decode cX9_ring 13 = .ok (.aload_n 0, 1) := by decide +kernel
theorem dX9_ring_14 : decode cX9_ring 14 = .ok (.getfield 54, 3) := by decide +kernel
theorem dX9_ring_17 : decode cX9_ring 17 = .ok (.aload_n 0, 1) := by decide +kernel
theorem dX9_ring_18 : decode cX9_ring 18 = .ok (.getfield 19, 3) := by decide +kernel
theorem dX9_ring_21 : decode cX9_ring 21 = .ok (.iload_n 1, 1) := by decide +kernel
theorem dX9_ring_22 : decode cX9_ring 22 = .ok (.invokevirtual 198, 3) := by decide +kernel
theorem dX9_ring_25 : decode cX9_ring 25 = .ok (.ireturn, 1) := by decide +kernel
set_option maxRecDepth 20000 in
theorem ggX9_room_X3_has : GoodIn wsX9_room wsX3_has := goodIn_r _ [7, 8, 44, 45, 46, 47, 48, 49, 50, 51, 52, 53, 54] (by decide +kernel) (by decide +kernel)
set_option maxRecDepth 20000 in
theorem gX9_room_X3_has : GoodIn wsX9_room (wsV RX9 117 RX3 yX3_has wsX3_has) := goodIn_app (goodIn_of _ (by decide +kernel)) ggX9_room_X3_has
set_option maxRecDepth 20000 in
theorem ggX9_room_X5_leastAmount : GoodIn wsX9_room wsX5_leastAmount := goodIn_r _ [13, 14, 15, 16, 17, 18, 19, 20, 21, 22, 12, 23, 24, 25, 26, 27, 28, 29, 30, 31, 32, 33, 34, 44, 45, 46, 47, 48, 49, 50, 51, 52, 53, 54, 55] (by decide +kernel) (by decide +kernel)
set_option maxRecDepth 20000 in
theorem gX9_room_X5_leastAmount : GoodIn wsX9_room (wsV RX9 201 RX5 yX5_leastAmount wsX5_leastAmount) := goodIn_app (goodIn_of _ (by decide +kernel)) ggX9_room_X5_leastAmount
theorem dX9_room_0 : decode cX9_room 0 = .ok (.aload_n 0, 1) := by decide +kernel
theorem dX9_room_1 : decode cX9_room 1 = .ok (.getfield 19, 3) := by decide +kernel
theorem dX9_room_4 : decode cX9_room 4 = .ok (.iload_n 1, 1) := by decide +kernel
theorem dX9_room_5 : decode cX9_room 5 = .ok (.invokevirtual 117, 3) := by decide +kernel
theorem dX9_room_8 : decode cX9_room 8 = .ok (.ifCond .ne 5, 3) := by decide +kernel
theorem dX9_room_11 : decode cX9_room 11 = .ok (.iconst (-1), 1) := by decide +kernel
theorem dX9_room_12 : decode cX9_room 12 = .ok (.ireturn, 1) := by decide +kernel
theorem dX9_room_13 : decode cX9_room 13 = .ok (.aload_n 0, 1) := by decide +kernel
theorem dX9_room_14 : decode cX9_room 14 = .ok (.getfield 54, 3) := by decide +kernel
theorem dX9_room_17 : decode cX9_room 17 = .ok (.aload_n 0, 1) := by decide +kernel
theorem dX9_room_18 : decode cX9_room 18 = .ok (.getfield 19, 3) := by decide +kernel
theorem dX9_room_21 : decode cX9_room 21 = .ok (.iload_n 1, 1) := by decide +kernel
theorem dX9_room_22 : decode cX9_room 22 = .ok (.invokevirtual 201, 3) := by decide +kernel
theorem dX9_room_25 : decode cX9_room 25 = .ok (.ireturn, 1) := by decide +kernel
set_option maxRecDepth 20000 in
theorem ggX9_wish_X9_refusalOfWish : GoodIn wsX9_wish wsX9_refusalOfWish := goodIn_r _ [7, 2, 8, 9, 10, 11, 12, 13, 14, 15, 6, 16, 17, 18, 19, 20, 21, 22, 23, 50, 51, 52, 53, 54, 55, 56, 57, 58, 59, 60, 61, 62, 63, 64, 65, 66, 67, 68, 69] (by decide +kernel) (by decide +kernel)
set_option maxRecDepth 20000 in
theorem gX9_wish_X9_refusalOfWish : GoodIn wsX9_wish (wsV RX9 204 RX9 yX9_refusalOfWish wsX9_refusalOfWish) := goodIn_app (goodIn_of _ (by decide +kernel)) ggX9_wish_X9_refusalOfWish
set_option maxRecDepth 20000 in
theorem ggX9_wish_X4_weigh : GoodIn wsX9_wish wsX4_weigh := goodIn_r _ [28, 29, 30, 31, 32, 33, 34, 35, 18, 19, 11, 20, 21, 22, 6, 23, 36, 37, 38, 27, 39, 40, 41, 42, 43, 44, 45, 70, 71, 59, 60, 61, 62, 63, 64, 65, 66, 67, 68, 69] (by decide +kernel) (by decide +kernel)
set_option maxRecDepth 20000 in
theorem gX9_wish_X4_weigh : GoodIn wsX9_wish (wsV RX9 207 RX4 yX4_weigh wsX4_weigh) := goodIn_app (goodIn_of _ (by decide +kernel)) ggX9_wish_X4_weigh
set_option maxRecDepth 20000 in
theorem ggX9_wish_X4_cheapest : GoodIn wsX9_wish wsX4_cheapest := goodIn_r _ [49, 29, 31, 70, 71] (by decide +kernel) (by decide +kernel)
set_option maxRecDepth 20000 in
theorem gX9_wish_X4_cheapest : GoodIn wsX9_wish (wsV RX9 211 RX4 yX4_cheapest wsX4_cheapest) := goodIn_app (goodIn_of _ (by decide +kernel)) ggX9_wish_X4_cheapest
theorem dX9_wish_0 : decode cX9_wish 0 = .ok (.aload_n 0, 1) := by decide +kernel
theorem dX9_wish_1 : decode cX9_wish 1 = .ok (.iload_n 1, 1) := by decide +kernel

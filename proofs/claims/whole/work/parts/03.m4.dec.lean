theorem dX10_enough_57 : decode cX10_enough 57 = .ok (.ldc2_w 225, 3) := by decide +kernel
theorem dX10_enough_60 : decode cX10_enough 60 = .ok (.lmul, 1) := by decide +kernel
theorem dX10_enough_61 : decode cX10_enough 61 = .ok (.iload_n 3, 1) := by decide +kernel
theorem dX10_enough_62 : decode cX10_enough 62 = .ok (.i2l, 1) := by decide +kernel
theorem dX10_enough_63 : decode cX10_enough 63 = .ok (.aload_n 0, 1) := by decide +kernel
theorem dX10_enough_64 : decode cX10_enough 64 = .ok (.invokevirtual 217, 3) := by decide +kernel
theorem dX10_enough_67 : decode cX10_enough 67 = .ok (.lmul, 1) := by decide +kernel
theorem dX10_enough_68 : decode cX10_enough 68 = .ok (.lcmp, 1) := by decide +kernel
theorem dX10_enough_69 : decode cX10_enough 69 = .ok (.ifCond .ge 9, 3) := by decide +kernel
theorem dX10_enough_72 : decode cX10_enough 72 = .ok (.iinc 4 1, 3) := by decide +kernel
theorem dX10_enough_75 : decode cX10_enough 75 = .ok (.goto (-25), 3) := by decide +kernel
theorem dX10_enough_78 : decode cX10_enough 78 = .ok (.iload 4, 2) := by decide +kernel
theorem dX10_enough_80 : decode cX10_enough 80 = .ok (.ireturn, 1) := by decide +kernel
set_option maxRecDepth 20000 in
theorem ggX10_day_X10_noOne : GoodIn wsX10_day wsX10_noOne := goodIn_r _ [11, 12, 13, 14, 10, 15, 16, 17, 18, 19, 20, 21, 22, 23, 24, 25, 26, 27, 28, 29, 30, 31, 32, 33, 34, 35, 36, 37, 38, 39, 40, 41, 42, 43, 44, 45, 46, 47, 48, 49, 50, 51, 52, 53] (by decide +kernel) (by decide +kernel)
set_option maxRecDepth 20000 in
theorem gX10_day_X10_noOne : GoodIn wsX10_day (wsV RX10 151 RX10 yX10_noOne wsX10_noOne) := goodIn_app (goodIn_of _ (by decide +kernel)) ggX10_day_X10_noOne
set_option maxRecDepth 20000 in
theorem ggX10_day_X10_in : GoodIn wsX10_day wsX10_in := goodIn_r _ [15] (by decide +kernel) (by decide +kernel)
set_option maxRecDepth 20000 in
theorem gX10_day_X10_in : GoodIn wsX10_day (va_wsS RX10 99 yX10_in wsX10_in) := goodIn_app (goodIn_of _ (by decide +kernel)) ggX10_day_X10_in
theorem dX10_day_0 : decode cX10_day 0 = .ok (.aload_n 0, 1) := by decide +kernel
theorem dX10_day_1 : decode cX10_day 1 = .ok (.iconst 0, 1) := by decide +kernel
theorem dX10_day_2 : decode cX10_day 2 = .ok (.putfield 92, 3) := by decide +kernel
theorem dX10_day_5 : decode cX10_day 5 = .ok (.aload_n 0, 1) := by decide +kernel
theorem dX10_day_6 : decode cX10_day 6 = .ok (.iload_n 1, 1) := by decide +kernel
theorem dX10_day_7 : decode cX10_day 7 = .ok (.invokevirtual 151, 3) := by decide +kernel
theorem dX10_day_10 : decode cX10_day 10 = .ok (.ifCond .eq 5, 3) := by decide +kernel
theorem dX10_day_13 : decode cX10_day 13 = .ok (.iconst (-1), 1) := by decide +kernel
theorem dX10_day_14 : decode cX10_day 14 = .ok (.ireturn, 1) := by decide +kernel
theorem dX10_day_15 : decode cX10_day 15 = .ok (.iload_n 2, 1) := by decide +kernel
theorem dX10_day_16 : decode cX10_day 16 = .ok (.i2l, 1) := by decide +kernel
theorem dX10_day_17 : decode cX10_day 17 = .ok (.lconst 0, 1) := by decide +kernel
theorem dX10_day_18 : decode cX10_day 18 = .ok (.ldc2_w 168, 3) := by decide +kernel
theorem dX10_day_21 : decode cX10_day 21 = .ok (.invokestatic 99, 3) := by decide +kernel
theorem dX10_day_24 : decode cX10_day 24 = .ok (.ifCond .ne 6, 3) := by decide +kernel
theorem dX10_day_27 : decode cX10_day 27 = .ok (.bipush (-2), 2) := by decide +kernel
theorem dX10_day_29 : decode cX10_day 29 = .ok (.ireturn, 1) := by decide +kernel
theorem dX10_day_30 : decode cX10_day 30 = .ok (.aload_n 0, 1) := by decide +kernel
theorem dX10_day_31 : decode cX10_day 31 = .ok (.getfield 148, 3) := by decide +kernel
theorem dX10_day_34 : decode cX10_day 34 = .ok (.bipush 12, 2) := by decide +kernel
theorem dX10_day_36 : decode cX10_day 36 = .ok (.if_icmp .ne 6, 3) := by decide +kernel
theorem dX10_day_39 : decode cX10_day 39 = .ok (.bipush (-4), 2) := by decide +kernel
theorem dX10_day_41 : decode cX10_day 41 = .ok (.ireturn, 1) := by decide +kernel
theorem dX10_day_42 : decode cX10_day 42 = .ok (.aload_n 0, 1) := by decide +kernel
theorem dX10_day_43 : decode cX10_day 43 = .ok (.getfield 65, 3) := by decide +kernel
theorem dX10_day_46 : decode cX10_day 46 = .ok (.aload_n 0, 1) := by decide +kernel
theorem dX10_day_47 : decode cX10_day 47 = .ok (.getfield 148, 3) := by decide +kernel
theorem dX10_day_50 : decode cX10_day 50 = .ok (.iload_n 1, 1) := by decide +kernel
theorem dX10_day_51 : decode cX10_day 51 = .ok (.iastore, 1) := by decide +kernel
theorem dX10_day_52 : decode cX10_day 52 = .ok (.aload_n 0, 1) := by decide +kernel
theorem dX10_day_53 : decode cX10_day 53 = .ok (.getfield 68, 3) := by decide +kernel
theorem dX10_day_56 : decode cX10_day 56 = .ok (.aload_n 0, 1) := by decide +kernel
theorem dX10_day_57 : decode cX10_day 57 = .ok (.getfield 148, 3) := by decide +kernel
theorem dX10_day_60 : decode cX10_day 60 = .ok (.iload_n 2, 1) := by decide +kernel
theorem dX10_day_61 : decode cX10_day 61 = .ok (.iastore, 1) := by decide +kernel
theorem dX10_day_62 : decode cX10_day 62 = .ok (.aload_n 0, 1) := by decide +kernel
theorem dX10_day_63 : decode cX10_day 63 = .ok (.getfield 71, 3) := by decide +kernel
theorem dX10_day_66 : decode cX10_day 66 = .ok (.aload_n 0, 1) := by decide +kernel
theorem dX10_day_67 : decode cX10_day 67 = .ok (.getfield 148, 3) := by decide +kernel
theorem dX10_day_70 : decode cX10_day 70 = .ok (.iload_n 3, 1) := by decide +kernel
theorem dX10_day_71 : decode cX10_day 71 = .ok (.bastore, 1) := by decide +kernel
theorem dX10_day_72 : decode cX10_day 72 = .ok (.aload_n 0, 1) := by decide +kernel
theorem dX10_day_73 : decode cX10_day 73 = .ok (.dup, 1) := by decide +kernel
theorem dX10_day_74 : decode cX10_day 74 = .ok (.getfield 148, 3) := by decide +kernel
theorem dX10_day_77 : decode cX10_day 77 = .ok (.iconst 1, 1) := by decide +kernel
theorem dX10_day_78 : decode cX10_day 78 = .ok (.iadd, 1) := by decide +kernel
theorem dX10_day_79 : decode cX10_day 79 = .ok (.putfield 148, 3) := by decide +kernel
theorem dX10_day_82 : decode cX10_day 82 = .ok (.aload_n 0, 1) := by decide +kernel
theorem dX10_day_83 : decode cX10_day 83 = .ok (.getfield 148, 3) := by decide +kernel
theorem dX10_day_86 : decode cX10_day 86 = .ok (.ireturn, 1) := by decide +kernel
theorem dX10_forget_0 : decode cX10_forget 0 = .ok (.aload_n 0, 1) := by decide +kernel
theorem dX10_forget_1 : decode cX10_forget 1 = .ok (.iconst 0, 1) := by decide +kernel
theorem dX10_forget_2 : decode cX10_forget 2 = .ok (.putfield 92, 3) := by decide +kernel
theorem dX10_forget_5 : decode cX10_forget 5 = .ok (.aload_n 0, 1) := by decide +kernel
theorem dX10_forget_6 : decode cX10_forget 6 = .ok (.getfield 148, 3) := by decide +kernel
theorem dX10_forget_9 : decode cX10_forget 9 = .ok (.istore_n 1, 1) := by decide +kernel
theorem dX10_forget_10 : decode cX10_forget 10 = .ok (.aload_n 0, 1) := by decide +kernel
theorem dX10_forget_11 : decode cX10_forget 11 = .ok (.iconst 0, 1) := by decide +kernel
theorem dX10_forget_12 : decode cX10_forget 12 = .ok (.putfield 148, 3) := by decide +kernel
theorem dX10_forget_15 : decode cX10_forget 15 = .ok (.iload_n 1, 1) := by decide +kernel
theorem dX10_forget_16 : decode cX10_forget 16 = .ok (.ireturn, 1) := by decide +kernel
set_option maxRecDepth 20000 in
theorem ggX10_cheats_X10_noOne : GoodIn wsX10_cheats wsX10_noOne := goodIn_r _ [10, 11, 12, 13, 9, 14, 15, 16, 17, 18, 19, 20, 21, 22, 23, 24, 25, 26, 27, 28, 29, 30, 31, 32, 33, 34, 35, 36, 37, 38, 39, 40, 41, 42, 43, 44, 45, 46, 47, 48, 49, 50, 51, 52] (by decide +kernel) (by decide +kernel)
set_option maxRecDepth 20000 in
theorem gX10_cheats_X10_noOne : GoodIn wsX10_cheats (wsV RX10 151 RX10 yX10_noOne wsX10_noOne) := goodIn_app (goodIn_of _ (by decide +kernel)) ggX10_cheats_X10_noOne
theorem dX10_cheats_0 : decode cX10_cheats 0 = .ok (.aload_n 0, 1) := by decide +kernel
theorem dX10_cheats_1 : decode cX10_cheats 1 = .ok (.iconst 0, 1) := by decide +kernel
theorem dX10_cheats_2 : decode cX10_cheats 2 = .ok (.putfield 92, 3) := by decide +kernel
theorem dX10_cheats_5 : decode cX10_cheats 5 = .ok (.iconst 0, 1) := by decide +kernel
theorem dX10_cheats_6 : decode cX10_cheats 6 = .ok (.istore_n 1, 1) := by decide +kernel
theorem dX10_cheats_7 : decode cX10_cheats 7 = .ok (.iconst 0, 1) := by decide +kernel
theorem dX10_cheats_8 : decode cX10_cheats 8 = .ok (.istore_n 2, 1) := by decide +kernel
theorem dX10_cheats_9 : decode cX10_cheats 9 = .ok (.iload_n 2, 1) := by decide +kernel
theorem dX10_cheats_10 : decode cX10_cheats 10 = .ok (.aload_n 0, 1) := by decide +kernel
theorem dX10_cheats_11 : decode cX10_cheats 11 = .ok (.getfield 148, 3) := by decide +kernel
theorem dX10_cheats_14 : decode cX10_cheats 14 = .ok (.if_icmp .ge 109, 3) := by decide +kernel
theorem dX10_cheats_17 : decode cX10_cheats 17 = .ok (.iconst 0, 1) := by decide +kernel
theorem dX10_cheats_18 : decode cX10_cheats 18 = .ok (.istore_n 3, 1) := by decide +kernel
theorem dX10_cheats_19 : decode cX10_cheats 19 = .ok (.iload_n 3, 1) := by decide +kernel
theorem dX10_cheats_20 : decode cX10_cheats 20 = .ok (.aload_n 0, 1) := by decide +kernel
theorem dX10_cheats_21 : decode cX10_cheats 21 = .ok (.getfield 148, 3) := by decide +kernel
theorem dX10_cheats_24 : decode cX10_cheats 24 = .ok (.if_icmp .ge 93, 3) := by decide +kernel
theorem dX10_cheats_27 : decode cX10_cheats 27 = .ok (.iload_n 3, 1) := by decide +kernel
theorem dX10_cheats_28 : decode cX10_cheats 28 = .ok (.iload_n 2, 1) := by decide +kernel
theorem dX10_cheats_29 : decode cX10_cheats 29 = .ok (.if_icmp .eq 46, 3) := by decide +kernel
theorem dX10_cheats_32 : decode cX10_cheats 32 = .ok (.aload_n 0, 1) := by decide +kernel
theorem dX10_cheats_33 : decode cX10_cheats 33 = .ok (.getfield 71, 3) := by decide +kernel
theorem dX10_cheats_36 : decode cX10_cheats 36 = .ok (.iload_n 2, 1) := by decide +kernel
theorem dX10_cheats_37 : decode cX10_cheats 37 = .ok (.baload, 1) := by decide +kernel
theorem dX10_cheats_38 : decode cX10_cheats 38 = .ok (.ifCond .ne 37, 3) := by decide +kernel
theorem dX10_cheats_41 : decode cX10_cheats 41 = .ok (.aload_n 0, 1) := by decide +kernel
theorem dX10_cheats_42 : decode cX10_cheats 42 = .ok (.getfield 65, 3) := by decide +kernel
theorem dX10_cheats_45 : decode cX10_cheats 45 = .ok (.iload_n 3, 1) := by decide +kernel
theorem dX10_cheats_46 : decode cX10_cheats 46 = .ok (.iaload, 1) := by decide +kernel
theorem dX10_cheats_47 : decode cX10_cheats 47 = .ok (.aload_n 0, 1) := by decide +kernel
theorem dX10_cheats_48 : decode cX10_cheats 48 = .ok (.getfield 65, 3) := by decide +kernel
theorem dX10_cheats_51 : decode cX10_cheats 51 = .ok (.iload_n 2, 1) := by decide +kernel
theorem dX10_cheats_52 : decode cX10_cheats 52 = .ok (.iaload, 1) := by decide +kernel
theorem dX10_cheats_53 : decode cX10_cheats 53 = .ok (.if_icmp .ne 22, 3) := by decide +kernel
theorem dX10_cheats_56 : decode cX10_cheats 56 = .ok (.aload_n 0, 1) := by decide +kernel
theorem dX10_cheats_57 : decode cX10_cheats 57 = .ok (.getfield 68, 3) := by decide +kernel
theorem dX10_cheats_60 : decode cX10_cheats 60 = .ok (.iload_n 3, 1) := by decide +kernel
theorem dX10_cheats_61 : decode cX10_cheats 61 = .ok (.iaload, 1) := by decide +kernel
theorem dX10_cheats_62 : decode cX10_cheats 62 = .ok (.aload_n 0, 1) := by decide +kernel
theorem dX10_cheats_63 : decode cX10_cheats 63 = .ok (.getfield 68, 3) := by decide +kernel
theorem dX10_cheats_66 : decode cX10_cheats 66 = .ok (.iload_n 2, 1) := by decide +kernel
theorem dX10_cheats_67 : decode cX10_cheats 67 = .ok (.iaload, 1) := by decide +kernel
theorem dX10_cheats_68 : decode cX10_cheats 68 = .ok (.if_icmp .ne 7, 3) := by decide +kernel
theorem dX10_cheats_71 : decode cX10_cheats 71 = .ok (.iconst 1, 1) := by decide +kernel
theorem dX10_cheats_72 : decode cX10_cheats 72 = .ok (.goto 4, 3) := by decide +kernel
theorem dX10_cheats_75 : decode cX10_cheats 75 = .ok (.iconst 0, 1) := by decide +kernel
theorem dX10_cheats_76 : decode cX10_cheats 76 = .ok (.istore 4, 2) := by decide +kernel
theorem dX10_cheats_78 : decode cX10_cheats 78 = .ok (.iload_n 1, 1) := by decide +kernel
theorem dX10_cheats_79 : decode cX10_cheats 79 = .ok (.iload 4, 2) := by decide +kernel
theorem dX10_cheats_81 : decode cX10_cheats 81 = .ok (.ifCond .eq 27, 3) := by decide +kernel
theorem dX10_cheats_84 : decode cX10_cheats 84 = .ok (.aload_n 0, 1) := by decide +kernel
theorem dX10_cheats_85 : decode cX10_cheats 85 = .ok (.aload_n 0, 1) := by decide +kernel
theorem dX10_cheats_86 : decode cX10_cheats 86 = .ok (.getfield 65, 3) := by decide +kernel
theorem dX10_cheats_89 : decode cX10_cheats 89 = .ok (.iload_n 2, 1) := by decide +kernel
theorem dX10_cheats_90 : decode cX10_cheats 90 = .ok (.iaload, 1) := by decide +kernel
theorem dX10_cheats_91 : decode cX10_cheats 91 = .ok (.invokevirtual 151, 3) := by decide +kernel
theorem dX10_cheats_94 : decode cX10_cheats 94 = .ok (.ifCond .ne 14, 3) := by decide +kernel
theorem dX10_cheats_97 : decode cX10_cheats 97 = .ok (.iconst 1, 1) := by decide +kernel
theorem dX10_cheats_98 : decode cX10_cheats 98 = .ok (.aload_n 0, 1) := by decide +kernel
theorem dX10_cheats_99 : decode cX10_cheats 99 = .ok (.getfield 65, 3) := by decide +kernel
theorem dX10_cheats_102 : decode cX10_cheats 102 = .ok (.iload_n 2, 1) := by decide +kernel
theorem dX10_cheats_103 : decode cX10_cheats 103 = .ok (.iaload, 1) := by decide +kernel
theorem dX10_cheats_104 : decode cX10_cheats 104 = .ok (.ishl, 1) := by decide +kernel
theorem dX10_cheats_105 : decode cX10_cheats 105 = .ok (.goto 4, 3) := by decide +kernel
theorem dX10_cheats_108 : decode cX10_cheats 108 = .ok (.iconst 0, 1) := by decide +kernel
theorem dX10_cheats_109 : decode cX10_cheats 109 = .ok (.ior, 1) := by decide +kernel
theorem dX10_cheats_110 : decode cX10_cheats 110 = .ok (.istore_n 1, 1) := by decide +kernel
theorem dX10_cheats_111 : decode cX10_cheats 111 = .ok (.iinc 3 1, 3) := by decide +kernel
theorem dX10_cheats_114 : decode cX10_cheats 114 = .ok (.goto (-95), 3) := by decide +kernel
theorem dX10_cheats_117 : decode cX10_cheats 117 = .ok (.iinc 2 1, 3) := by decide +kernel
theorem dX10_cheats_120 : decode cX10_cheats 120 = .ok (.goto (-111), 3) := by decide +kernel
theorem dX10_cheats_123 : decode cX10_cheats 123 = .ok (.iload_n 1, 1) := by decide +kernel
theorem dX10_cheats_124 : decode cX10_cheats 124 = .ok (.ireturn, 1) := by decide +kernel
set_option maxRecDepth 20000 in
theorem ggX10_keep_X10_in : GoodIn wsX10_keep wsX10_in := goodIn_r _ [8] (by decide +kernel) (by decide +kernel)
set_option maxRecDepth 20000 in
theorem gX10_keep_X10_in : GoodIn wsX10_keep (va_wsS RX10 99 yX10_in wsX10_in) := goodIn_app (goodIn_of _ (by decide +kernel)) ggX10_keep_X10_in
set_option maxRecDepth 20000 in
theorem ggX10_keep_X10_layPage : GoodIn wsX10_keep wsX10_layPage := goodIn_r _ [12, 13, 14, 15, 16, 17, 18, 19, 20, 4, 21, 22, 23, 24, 25, 26, 27, 28, 29, 30, 31, 32, 33, 34, 35, 36, 37, 38, 39, 40, 41, 42, 43, 44, 45, 46, 47, 48, 49, 50, 51, 52, 53, 54, 55, 56, 57, 58, 59] (by decide +kernel) (by decide +kernel)
set_option maxRecDepth 20000 in
theorem gX10_keep_X10_layPage : GoodIn wsX10_keep (wsV RX10 164 RX10 yX10_layPage wsX10_layPage) := goodIn_app (goodIn_of _ (by decide +kernel)) ggX10_keep_X10_layPage
theorem dX10_keep_0 : decode cX10_keep 0 = .ok (.aload_n 0, 1) := by decide +kernel
theorem dX10_keep_1 : decode cX10_keep 1 = .ok (.iconst 0, 1) := by decide +kernel
theorem dX10_keep_2 : decode cX10_keep 2 = .ok (.putfield 92, 3) := by decide +kernel
theorem dX10_keep_5 : decode cX10_keep 5 = .ok (.iload_n 1, 1) := by decide +kernel
theorem dX10_keep_6 : decode cX10_keep 6 = .ok (.i2l, 1) := by decide +kernel
theorem dX10_keep_7 : decode cX10_keep 7 = .ok (.lconst 0, 1) := by decide +kernel
theorem dX10_keep_8 : decode cX10_keep 8 = .ok (.lconst 1, 1) := by decide +kernel
theorem dX10_keep_9 : decode cX10_keep 9 = .ok (.invokestatic 99, 3) := by decide +kernel
theorem dX10_keep_12 : decode cX10_keep 12 = .ok (.ifCond .ne 5, 3) := by decide +kernel
theorem dX10_keep_15 : decode cX10_keep 15 = .ok (.iconst (-1), 1) := by decide +kernel
theorem dX10_keep_16 : decode cX10_keep 16 = .ok (.ireturn, 1) := by decide +kernel
theorem dX10_keep_17 : decode cX10_keep 17 = .ok (.aload_n 0, 1) := by decide +kernel
theorem dX10_keep_18 : decode cX10_keep 18 = .ok (.getfield 62, 3) := by decide +kernel
theorem dX10_keep_21 : decode cX10_keep 21 = .ok (.iload_n 1, 1) := by decide +kernel
theorem dX10_keep_22 : decode cX10_keep 22 = .ok (.iconst 1, 1) := by decide +kernel
theorem dX10_keep_23 : decode cX10_keep 23 = .ok (.bastore, 1) := by decide +kernel
theorem dX10_keep_24 : decode cX10_keep 24 = .ok (.aload_n 0, 1) := by decide +kernel
theorem dX10_keep_25 : decode cX10_keep 25 = .ok (.aload_n 0, 1) := by decide +kernel
theorem dX10_keep_26 : decode cX10_keep 26 = .ok (.getfield 59, 3) := by decide +kernel
theorem dX10_keep_29 : decode cX10_keep 29 = .ok (.bipush 74, 2) := by decide +kernel
theorem dX10_keep_31 : decode cX10_keep 31 = .ok (.iload_n 1, 1) := by decide +kernel
theorem dX10_keep_32 : decode cX10_keep 32 = .ok (.imul, 1) := by decide +kernel
theorem dX10_keep_33 : decode cX10_keep 33 = .ok (.invokevirtual 164, 3) := by decide +kernel
theorem dX10_keep_36 : decode cX10_keep 36 = .ok (.aload_n 0, 1) := by decide +kernel
theorem dX10_keep_37 : decode cX10_keep 37 = .ok (.getfield 135, 3) := by decide +kernel
theorem dX10_keep_40 : decode cX10_keep 40 = .ok (.ireturn, 1) := by decide +kernel
set_option maxRecDepth 20000 in
theorem ggX10_again_X10_in : GoodIn wsX10_again wsX10_in := goodIn_r _ [9] (by decide +kernel) (by decide +kernel)
set_option maxRecDepth 20000 in
theorem gX10_again_X10_in : GoodIn wsX10_again (va_wsS RX10 99 yX10_in wsX10_in) := goodIn_app (goodIn_of _ (by decide +kernel)) ggX10_again_X10_in
set_option maxRecDepth 20000 in
theorem ggX10_again_X10_takePage : GoodIn wsX10_again wsX10_takePage := goodIn_r _ [13, 14, 15, 16, 17, 18, 19, 20, 21, 5, 22, 23, 24, 8, 25, 26, 27, 28, 29, 30, 31, 32, 33, 34, 35, 36, 37, 38, 39, 40, 41, 42, 43, 44, 45, 46, 47, 48, 49, 50, 51, 52, 53, 54, 55, 56, 57, 58, 59, 60, 61, 62, 63] (by decide +kernel) (by decide +kernel)
set_option maxRecDepth 20000 in
theorem gX10_again_X10_takePage : GoodIn wsX10_again (wsV RX10 180 RX10 yX10_takePage wsX10_takePage) := goodIn_app (goodIn_of _ (by decide +kernel)) ggX10_again_X10_takePage
theorem dX10_again_0 : decode cX10_again 0 = .ok (.aload_n 0, 1) := by decide +kernel
theorem dX10_again_1 : decode cX10_again 1 = .ok (.iconst 0, 1) := by decide +kernel
theorem dX10_again_2 : decode cX10_again 2 = .ok (.putfield 92, 3) := by decide +kernel
theorem dX10_again_5 : decode cX10_again 5 = .ok (.iload_n 1, 1) := by decide +kernel
theorem dX10_again_6 : decode cX10_again 6 = .ok (.i2l, 1) := by decide +kernel
theorem dX10_again_7 : decode cX10_again 7 = .ok (.lconst 0, 1) := by decide +kernel
theorem dX10_again_8 : decode cX10_again 8 = .ok (.lconst 1, 1) := by decide +kernel
theorem dX10_again_9 : decode cX10_again 9 = .ok (.invokestatic 99, 3) := by decide +kernel
theorem dX10_again_12 : decode cX10_again 12 = .ok (.ifCond .ne 5, 3) := by decide +kernel
theorem dX10_again_15 : decode cX10_again 15 = .ok (.iconst (-1), 1) := by decide +kernel
theorem dX10_again_16 : decode cX10_again 16 = .ok (.ireturn, 1) := by decide +kernel
theorem dX10_again_17 : decode cX10_again 17 = .ok (.aload_n 0, 1) := by decide +kernel
theorem dX10_again_18 : decode cX10_again 18 = .ok (.getfield 62, 3) := by decide +kernel
theorem dX10_again_21 : decode cX10_again 21 = .ok (.iload_n 1, 1) := by decide +kernel
theorem dX10_again_22 : decode cX10_again 22 = .ok (.baload, 1) := by decide +kernel
theorem dX10_again_23 : decode cX10_again 23 = .ok (.ifCond .ne 6, 3) := by decide +kernel
theorem dX10_again_26 : decode cX10_again 26 = .ok (.bipush (-3), 2) := by decide +kernel
theorem dX10_again_28 : decode cX10_again 28 = .ok (.ireturn, 1) := by decide +kernel
theorem dX10_again_29 : decode cX10_again 29 = .ok (.aload_n 0, 1) := by decide +kernel
theorem dX10_again_30 : decode cX10_again 30 = .ok (.aload_n 0, 1) := by decide +kernel
theorem dX10_again_31 : decode cX10_again 31 = .ok (.getfield 59, 3) := by decide +kernel
theorem dX10_again_34 : decode cX10_again 34 = .ok (.bipush 74, 2) := by decide +kernel
theorem dX10_again_36 : decode cX10_again 36 = .ok (.iload_n 1, 1) := by decide +kernel
theorem dX10_again_37 : decode cX10_again 37 = .ok (.imul, 1) := by decide +kernel
theorem dX10_again_38 : decode cX10_again 38 = .ok (.invokevirtual 180, 3) := by decide +kernel
theorem dX10_again_41 : decode cX10_again 41 = .ok (.aload_n 0, 1) := by decide +kernel
theorem dX10_again_42 : decode cX10_again 42 = .ok (.iconst 0, 1) := by decide +kernel
theorem dX10_again_43 : decode cX10_again 43 = .ok (.putfield 141, 3) := by decide +kernel
theorem dX10_again_46 : decode cX10_again 46 = .ok (.aload_n 0, 1) := by decide +kernel
theorem dX10_again_47 : decode cX10_again 47 = .ok (.getfield 135, 3) := by decide +kernel
theorem dX10_again_50 : decode cX10_again 50 = .ok (.ireturn, 1) := by decide +kernel

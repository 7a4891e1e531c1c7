set_option maxRecDepth 20000 in
theorem ggX0_init_X3_init : GoodIn wsX0_init wsX3_init := goodIn_r _ [11, 12, 2, 3, 13, 14, 15, 16, 17, 18, 19, 20, 21, 22, 23, 24, 28, 29, 30, 31, 32, 33, 34, 35, 36, 37, 38] (by decide +kernel) (by decide +kernel)
set_option maxRecDepth 20000 in
theorem gX0_init_X3_init_n24 : GoodIn wsX0_init (wsX3_init) := ggX0_init_X3_init
theorem dX0_init_0 : decode cX0_init 0 = .ok (.aload_n 0, 1) := by decide +kernel
theorem dX0_init_1 : decode cX0_init 1 = .ok (.invokespecial 3, 3) := by decide +kernel
theorem dX0_init_4 : decode cX0_init 4 = .ok (.aload_n 0, 1) := by decide +kernel
theorem dX0_init_5 : decode cX0_init 5 = .ok (.bipush 10, 2) := by decide +kernel
theorem dX0_init_7 : decode cX0_init 7 = .ok (.anewarray 9, 3) := by decide +kernel
theorem dX0_init_10 : decode cX0_init 10 = .ok (.putfield 11, 3) := by decide +kernel
theorem dX0_init_13 : decode cX0_init 13 = .ok (.aload_n 0, 1) := by decide +kernel
theorem dX0_init_14 : decode cX0_init 14 = .ok (.iconst 0, 1) := by decide +kernel
theorem dX0_init_15 : decode cX0_init 15 = .ok (.putfield 17, 3) := by decide +kernel
theorem dX0_init_18 : decode cX0_init 18 = .ok (.aload_n 0, 1) := by decide +kernel
theorem dX0_init_19 : decode cX0_init 19 = .ok (.iconst 0, 1) := by decide +kernel
theorem dX0_init_20 : decode cX0_init 20 = .ok (.putfield 21, 3) := by decide +kernel
theorem dX0_init_23 : decode cX0_init 23 = .ok (.iconst 0, 1) := by decide +kernel
theorem dX0_init_24 : decode cX0_init 24 = .ok (.istore_n 1, 1) := by decide +kernel
theorem dX0_init_25 : decode cX0_init 25 = .ok (.iload_n 1, 1) := by decide +kernel
theorem dX0_init_26 : decode cX0_init 26 = .ok (.bipush 10, 2) := by decide +kernel
theorem dX0_init_28 : decode cX0_init 28 = .ok (.if_icmp .ge 22, 3) := by decide +kernel
theorem dX0_init_31 : decode cX0_init 31 = .ok (.aload_n 0, 1) := by decide +kernel
theorem dX0_init_32 : decode cX0_init 32 = .ok (.getfield 11, 3) := by decide +kernel
theorem dX0_init_35 : decode cX0_init 35 = .ok (.iload_n 1, 1) := by decide +kernel
theorem dX0_init_36 : decode cX0_init 36 = .ok (.new 9, 3) := by decide +kernel
theorem dX0_init_39 : decode cX0_init 39 = .ok (.dup, 1) := by decide +kernel
theorem dX0_init_40 : decode cX0_init 40 = .ok (.invokespecial 24, 3) := by decide +kernel
theorem dX0_init_43 : decode cX0_init 43 = .ok (.aastore, 1) := by decide +kernel
theorem dX0_init_44 : decode cX0_init 44 = .ok (.iinc 1 1, 3) := by decide +kernel
theorem dX0_init_47 : decode cX0_init 47 = .ok (.goto (-22), 3) := by decide +kernel
theorem dX0_init_50 : decode cX0_init 50 = .ok (.return_, 1) := by decide +kernel
theorem dX0_clear_0 : decode cX0_clear 0 = .ok (.aload_n 0, 1) := by decide +kernel
theorem dX0_clear_1 : decode cX0_clear 1 = .ok (.iconst 0, 1) := by decide +kernel
theorem dX0_clear_2 : decode cX0_clear 2 = .ok (.putfield 17, 3) := by decide +kernel
theorem dX0_clear_5 : decode cX0_clear 5 = .ok (.aload_n 0, 1) := by decide +kernel
theorem dX0_clear_6 : decode cX0_clear 6 = .ok (.iconst 0, 1) := by decide +kernel
theorem dX0_clear_7 : decode cX0_clear 7 = .ok (.putfield 21, 3) := by decide +kernel
theorem dX0_clear_10 : decode cX0_clear 10 = .ok (.return_, 1) := by decide +kernel
set_option maxRecDepth 20000 in
theorem ggX0_remember_X0_placeOf : GoodIn wsX0_remember wsX0_placeOf := goodIn_r _ [8, 2, 29, 30, 31] (by decide +kernel) (by decide +kernel)
set_option maxRecDepth 20000 in
theorem gX0_remember_X0_placeOf : GoodIn wsX0_remember (wsV RX0 25 RX0 yX0_placeOf wsX0_placeOf) := goodIn_app (goodIn_of _ (by decide +kernel)) ggX0_remember_X0_placeOf
set_option maxRecDepth 20000 in
theorem ggX0_remember_X3_copyFrom : GoodIn wsX0_remember wsX3_copyFrom := goodIn_r _ [13, 14, 15, 16, 17, 18, 19, 20, 21, 22, 23, 24, 25, 26, 27, 28, 32, 33, 34, 35, 36, 37, 38, 39, 40, 41, 42] (by decide +kernel) (by decide +kernel)
set_option maxRecDepth 20000 in
theorem gX0_remember_X3_copyFrom : GoodIn wsX0_remember (wsV RX0 29 RX3 yX3_copyFrom wsX3_copyFrom) := goodIn_app (goodIn_of _ (by decide +kernel)) ggX0_remember_X3_copyFrom
theorem dX0_remember_0 : decode cX0_remember 0 = .ok (.aload_n 0, 1) := by decide +kernel
theorem dX0_remember_1 : decode cX0_remember 1 = .ok (.getfield 21, 3) := by decide +kernel
theorem dX0_remember_4 : decode cX0_remember 4 = .ok (.bipush 10, 2) := by decide +kernel
theorem dX0_remember_6 : decode cX0_remember 6 = .ok (.if_icmp .ne 22, 3) := by decide +kernel
theorem dX0_remember_9 : decode cX0_remember 9 = .ok (.aload_n 0, 1) := by decide +kernel
theorem dX0_remember_10 : decode cX0_remember 10 = .ok (.aload_n 0, 1) := by decide +kernel
theorem dX0_remember_11 : decode cX0_remember 11 = .ok (.iconst 1, 1) := by decide +kernel
theorem dX0_remember_12 : decode cX0_remember 12 = .ok (.invokevirtual 25, 3) := by decide +kernel
theorem dX0_remember_15 : decode cX0_remember 15 = .ok (.putfield 17, 3) := by decide +kernel
theorem dX0_remember_18 : decode cX0_remember 18 = .ok (.aload_n 0, 1) := by decide +kernel
theorem dX0_remember_19 : decode cX0_remember 19 = .ok (.dup, 1) := by decide +kernel
theorem dX0_remember_20 : decode cX0_remember 20 = .ok (.getfield 21, 3) := by decide +kernel
theorem dX0_remember_23 : decode cX0_remember 23 = .ok (.iconst 1, 1) := by decide +kernel
theorem dX0_remember_24 : decode cX0_remember 24 = .ok (.isub, 1) := by decide +kernel
theorem dX0_remember_25 : decode cX0_remember 25 = .ok (.putfield 21, 3) := by decide +kernel
theorem dX0_remember_28 : decode cX0_remember 28 = .ok (.aload_n 0, 1) := by decide +kernel
theorem dX0_remember_29 : decode cX0_remember 29 = .ok (.getfield 11, 3) := by decide +kernel
theorem dX0_remember_32 : decode cX0_remember 32 = .ok (.aload_n 0, 1) := by decide +kernel
theorem dX0_remember_33 : decode cX0_remember 33 = .ok (.aload_n 0, 1) := by decide +kernel
theorem dX0_remember_34 : decode cX0_remember 34 = .ok (.getfield 21, 3) := by decide +kernel
theorem dX0_remember_37 : decode cX0_remember 37 = .ok (.invokevirtual 25, 3) := by decide +kernel
theorem dX0_remember_40 : decode cX0_remember 40 = .ok (.aaload, 1) := by decide +kernel
theorem dX0_remember_41 : decode cX0_remember 41 = .ok (.aload_n 1, 1) := by decide +kernel
theorem dX0_remember_42 : decode cX0_remember 42 = .ok (.invokevirtual 29, 3) := by decide +kernel
theorem dX0_remember_45 : decode cX0_remember 45 = .ok (.aload_n 0, 1) := by decide +kernel
theorem dX0_remember_46 : decode cX0_remember 46 = .ok (.dup, 1) := by decide +kernel
theorem dX0_remember_47 : decode cX0_remember 47 = .ok (.getfield 21, 3) := by decide +kernel
theorem dX0_remember_50 : decode cX0_remember 50 = .ok (.iconst 1, 1) := by decide +kernel
theorem dX0_remember_51 : decode cX0_remember 51 = .ok (.iadd, 1) := by decide +kernel
theorem dX0_remember_52 : decode cX0_remember 52 = .ok (.putfield 21, 3) := by decide +kernel
theorem dX0_remember_55 : decode cX0_remember 55 = .ok (.return_, 1) := by decide +kernel
set_option maxRecDepth 20000 in
theorem ggX0_takeBack_X0_placeOf : GoodIn wsX0_takeBack wsX0_placeOf := goodIn_r _ [7, 8, 29, 30, 31] (by decide +kernel) (by decide +kernel)
set_option maxRecDepth 20000 in
theorem gX0_takeBack_X0_placeOf : GoodIn wsX0_takeBack (wsV RX0 25 RX0 yX0_placeOf wsX0_placeOf) := goodIn_app (goodIn_of _ (by decide +kernel)) ggX0_takeBack_X0_placeOf
set_option maxRecDepth 20000 in
theorem ggX0_takeBack_X3_copyFrom : GoodIn wsX0_takeBack wsX3_copyFrom := goodIn_r _ [13, 14, 15, 16, 17, 18, 19, 20, 21, 22, 23, 24, 25, 26, 27, 28, 32, 33, 34, 35, 36, 37, 38, 39, 40, 41, 42] (by decide +kernel) (by decide +kernel)
set_option maxRecDepth 20000 in
theorem gX0_takeBack_X3_copyFrom : GoodIn wsX0_takeBack (wsV RX0 29 RX3 yX3_copyFrom wsX3_copyFrom) := goodIn_app (goodIn_of _ (by decide +kernel)) ggX0_takeBack_X3_copyFrom
theorem dX0_takeBack_0 : decode cX0_takeBack 0 = .ok (.aload_n 0, 1) := by decide +kernel
theorem dX0_takeBack_1 : decode cX0_takeBack 1 = .ok (.dup, 1) := by decide +kernel
theorem dX0_takeBack_2 : decode cX0_takeBack 2 = .ok (.getfield 21, 3) := by decide +kernel
theorem dX0_takeBack_5 : decode cX0_takeBack 5 = .ok (.iconst 1, 1) := by decide +kernel
theorem dX0_takeBack_6 : decode cX0_takeBack 6 = .ok (.isub, 1) := by decide +kernel
theorem dX0_takeBack_7 : decode cX0_takeBack 7 = .ok (.putfield 21, 3) := by decide +kernel
theorem dX0_takeBack_10 : decode cX0_takeBack 10 = .ok (.aload_n 1, 1) := by decide +kernel
theorem dX0_takeBack_11 : decode cX0_takeBack 11 = .ok (.aload_n 0, 1) := by decide +kernel
theorem dX0_takeBack_12 : decode cX0_takeBack 12 = .ok (.getfield 11, 3) := by decide +kernel
theorem dX0_takeBack_15 : decode cX0_takeBack 15 = .ok (.aload_n 0, 1) := by decide +kernel
theorem dX0_takeBack_16 : decode cX0_takeBack 16 = .ok (.aload_n 0, 1) := by decide +kernel
theorem dX0_takeBack_17 : decode cX0_takeBack 17 = .ok (.getfield 21, 3) := by decide +kernel
theorem dX0_takeBack_20 : decode cX0_takeBack 20 = .ok (.invokevirtual 25, 3) := by decide +kernel
theorem dX0_takeBack_23 : decode cX0_takeBack 23 = .ok (.aaload, 1) := by decide +kernel
theorem dX0_takeBack_24 : decode cX0_takeBack 24 = .ok (.invokevirtual 29, 3) := by decide +kernel
theorem dX0_takeBack_27 : decode cX0_takeBack 27 = .ok (.return_, 1) := by decide +kernel
theorem dX0_placeOf_0 : decode cX0_placeOf 0 = .ok (.aload_n 0, 1) := by decide +kernel
theorem dX0_placeOf_1 : decode cX0_placeOf 1 = .ok (.getfield 17, 3) := by decide +kernel
theorem dX0_placeOf_4 : decode cX0_placeOf 4 = .ok (.iload_n 1, 1) := by decide +kernel
theorem dX0_placeOf_5 : decode cX0_placeOf 5 = .ok (.iadd, 1) := by decide +kernel
theorem dX0_placeOf_6 : decode cX0_placeOf 6 = .ok (.bipush 10, 2) := by decide +kernel
theorem dX0_placeOf_8 : decode cX0_placeOf 8 = .ok (.irem, 1) := by decide +kernel
theorem dX0_placeOf_9 : decode cX0_placeOf 9 = .ok (.ireturn, 1) := by decide +kernel
theorem dX1_init_0 : decode cX1_init 0 = .ok (.aload_n 0, 1) := by decide +kernel
theorem dX1_init_1 : decode cX1_init 1 = .ok (.invokespecial 3, 3) := by decide +kernel
theorem dX1_init_4 : decode cX1_init 4 = .ok (.aload_n 0, 1) := by decide +kernel
theorem dX1_init_5 : decode cX1_init 5 = .ok (.bipush 64, 2) := by decide +kernel
theorem dX1_init_7 : decode cX1_init 7 = .ok (.newarray .int, 2) := by decide +kernel
theorem dX1_init_9 : decode cX1_init 9 = .ok (.putfield 9, 3) := by decide +kernel
theorem dX1_init_12 : decode cX1_init 12 = .ok (.aload_n 0, 1) := by decide +kernel
theorem dX1_init_13 : decode cX1_init 13 = .ok (.bipush 64, 2) := by decide +kernel
theorem dX1_init_15 : decode cX1_init 15 = .ok (.newarray .int, 2) := by decide +kernel
theorem dX1_init_17 : decode cX1_init 17 = .ok (.putfield 15, 3) := by decide +kernel
theorem dX1_init_20 : decode cX1_init 20 = .ok (.aload_n 0, 1) := by decide +kernel
theorem dX1_init_21 : decode cX1_init 21 = .ok (.iconst 0, 1) := by decide +kernel
theorem dX1_init_22 : decode cX1_init 22 = .ok (.putfield 18, 3) := by decide +kernel
theorem dX1_init_25 : decode cX1_init 25 = .ok (.aload_n 0, 1) := by decide +kernel
theorem dX1_init_26 : decode cX1_init 26 = .ok (.iconst 1, 1) := by decide +kernel
theorem dX1_init_27 : decode cX1_init 27 = .ok (.putfield 22, 3) := by decide +kernel
theorem dX1_init_30 : decode cX1_init 30 = .ok (.return_, 1) := by decide +kernel
set_option maxRecDepth 20000 in
theorem ggX1_gather_X1_spread : GoodIn wsX1_gather wsX1_spread := goodIn_r _ [14, 1, 2, 8, 7, 15, 16, 17, 18] (by decide +kernel) (by decide +kernel)
set_option maxRecDepth 20000 in
theorem gX1_gather_X1_spread : GoodIn wsX1_gather (wsV RX1 42 RX1 yX1_spread wsX1_spread) := goodIn_app (goodIn_of _ (by decide +kernel)) ggX1_gather_X1_spread
theorem dX1_gather_0 : decode cX1_gather 0 = .ok (.aload_n 0, 1) := by decide +kernel
theorem dX1_gather_1 : decode cX1_gather 1 = .ok (.iconst 0, 1) := by decide +kernel
theorem dX1_gather_2 : decode cX1_gather 2 = .ok (.putfield 18, 3) := by decide +kernel
theorem dX1_gather_5 : decode cX1_gather 5 = .ok (.iconst 0, 1) := by decide +kernel
theorem dX1_gather_6 : decode cX1_gather 6 = .ok (.istore 4, 2) := by decide +kernel
theorem dX1_gather_8 : decode cX1_gather 8 = .ok (.iload 4, 2) := by decide +kernel
theorem dX1_gather_10 : decode cX1_gather 10 = .ok (.bipush 64, 2) := by decide +kernel
theorem dX1_gather_12 : decode cX1_gather 12 = .ok (.if_icmp .ge 17, 3) := by decide +kernel
theorem dX1_gather_15 : decode cX1_gather 15 = .ok (.aload_n 0, 1) := by decide +kernel
theorem dX1_gather_16 : decode cX1_gather 16 = .ok (.getfield 9, 3) := by decide +kernel
theorem dX1_gather_19 : decode cX1_gather 19 = .ok (.iload 4, 2) := by decide +kernel
theorem dX1_gather_21 : decode cX1_gather 21 = .ok (.iconst 0, 1) := by decide +kernel
theorem dX1_gather_22 : decode cX1_gather 22 = .ok (.iastore, 1) := by decide +kernel
theorem dX1_gather_23 : decode cX1_gather 23 = .ok (.iinc 4 1, 3) := by decide +kernel
theorem dX1_gather_26 : decode cX1_gather 26 = .ok (.goto (-18), 3) := by decide +kernel
theorem dX1_gather_29 : decode cX1_gather 29 = .ok (.iconst 0, 1) := by decide +kernel
theorem dX1_gather_30 : decode cX1_gather 30 = .ok (.istore 4, 2) := by decide +kernel
theorem dX1_gather_32 : decode cX1_gather 32 = .ok (.iload 4, 2) := by decide +kernel
theorem dX1_gather_34 : decode cX1_gather 34 = .ok (.aload_n 1, 1) := by decide +kernel
theorem dX1_gather_35 : decode cX1_gather 35 = .ok (.getfield 25, 3) := by decide +kernel
theorem dX1_gather_38 : decode cX1_gather 38 = .ok (.if_icmp .ge 59, 3) := by decide +kernel
theorem dX1_gather_41 : decode cX1_gather 41 = .ok (.aload_n 1, 1) := by decide +kernel
theorem dX1_gather_42 : decode cX1_gather 42 = .ok (.getfield 30, 3) := by decide +kernel
theorem dX1_gather_45 : decode cX1_gather 45 = .ok (.iload 4, 2) := by decide +kernel
theorem dX1_gather_47 : decode cX1_gather 47 = .ok (.iaload, 1) := by decide +kernel
theorem dX1_gather_48 : decode cX1_gather 48 = .ok (.iload_n 2, 1) := by decide +kernel
theorem dX1_gather_49 : decode cX1_gather 49 = .ok (.if_icmp .ne 42, 3) := by decide +kernel
theorem dX1_gather_52 : decode cX1_gather 52 = .ok (.iconst 1, 1) := by decide +kernel
theorem dX1_gather_53 : decode cX1_gather 53 = .ok (.aload_n 1, 1) := by decide +kernel
theorem dX1_gather_54 : decode cX1_gather 54 = .ok (.getfield 33, 3) := by decide +kernel
theorem dX1_gather_57 : decode cX1_gather 57 = .ok (.iload 4, 2) := by decide +kernel
theorem dX1_gather_59 : decode cX1_gather 59 = .ok (.iaload, 1) := by decide +kernel
theorem dX1_gather_60 : decode cX1_gather 60 = .ok (.ishl, 1) := by decide +kernel
theorem dX1_gather_61 : decode cX1_gather 61 = .ok (.istore 5, 2) := by decide +kernel
theorem dX1_gather_63 : decode cX1_gather 63 = .ok (.aload_n 0, 1) := by decide +kernel
theorem dX1_gather_64 : decode cX1_gather 64 = .ok (.getfield 9, 3) := by decide +kernel
theorem dX1_gather_67 : decode cX1_gather 67 = .ok (.iload 5, 2) := by decide +kernel
theorem dX1_gather_69 : decode cX1_gather 69 = .ok (.dup2, 1) := by decide +kernel
theorem dX1_gather_70 : decode cX1_gather 70 = .ok (.iaload, 1) := by decide +kernel
theorem dX1_gather_71 : decode cX1_gather 71 = .ok (.aload_n 1, 1) := by decide +kernel
theorem dX1_gather_72 : decode cX1_gather 72 = .ok (.getfield 36, 3) := by decide +kernel
theorem dX1_gather_75 : decode cX1_gather 75 = .ok (.iload 4, 2) := by decide +kernel
theorem dX1_gather_77 : decode cX1_gather 77 = .ok (.iaload, 1) := by decide +kernel
theorem dX1_gather_78 : decode cX1_gather 78 = .ok (.iadd, 1) := by decide +kernel
theorem dX1_gather_79 : decode cX1_gather 79 = .ok (.iastore, 1) := by decide +kernel
theorem dX1_gather_80 : decode cX1_gather 80 = .ok (.aload_n 0, 1) := by decide +kernel
theorem dX1_gather_81 : decode cX1_gather 81 = .ok (.dup, 1) := by decide +kernel
theorem dX1_gather_82 : decode cX1_gather 82 = .ok (.getfield 18, 3) := by decide +kernel
theorem dX1_gather_85 : decode cX1_gather 85 = .ok (.iload 5, 2) := by decide +kernel
theorem dX1_gather_87 : decode cX1_gather 87 = .ok (.ior, 1) := by decide +kernel
theorem dX1_gather_88 : decode cX1_gather 88 = .ok (.putfield 18, 3) := by decide +kernel
theorem dX1_gather_91 : decode cX1_gather 91 = .ok (.iinc 4 1, 3) := by decide +kernel
theorem dX1_gather_94 : decode cX1_gather 94 = .ok (.goto (-62), 3) := by decide +kernel
theorem dX1_gather_97 : decode cX1_gather 97 = .ok (.aload_n 0, 1) := by decide +kernel
theorem dX1_gather_98 : decode cX1_gather 98 = .ok (.iconst 1, 1) := by decide +kernel
theorem dX1_gather_99 : decode cX1_gather 99 = .ok (.putfield 22, 3) := by decide +kernel
theorem dX1_gather_102 : decode cX1_gather 102 = .ok (.aload_n 0, 1) := by decide +kernel
theorem dX1_gather_103 : decode cX1_gather 103 = .ok (.getfield 15, 3) := by decide +kernel
theorem dX1_gather_106 : decode cX1_gather 106 = .ok (.iconst 0, 1) := by decide +kernel
theorem dX1_gather_107 : decode cX1_gather 107 = .ok (.iconst 1, 1) := by decide +kernel
theorem dX1_gather_108 : decode cX1_gather 108 = .ok (.iastore, 1) := by decide +kernel
theorem dX1_gather_109 : decode cX1_gather 109 = .ok (.iconst 0, 1) := by decide +kernel
theorem dX1_gather_110 : decode cX1_gather 110 = .ok (.istore 4, 2) := by decide +kernel
theorem dX1_gather_112 : decode cX1_gather 112 = .ok (.iload 4, 2) := by decide +kernel
theorem dX1_gather_114 : decode cX1_gather 114 = .ok (.aload_n 1, 1) := by decide +kernel
theorem dX1_gather_115 : decode cX1_gather 115 = .ok (.getfield 39, 3) := by decide +kernel
theorem dX1_gather_118 : decode cX1_gather 118 = .ok (.if_icmp .ge 18, 3) := by decide +kernel
theorem dX1_gather_121 : decode cX1_gather 121 = .ok (.aload_n 0, 1) := by decide +kernel
theorem dX1_gather_122 : decode cX1_gather 122 = .ok (.iconst 1, 1) := by decide +kernel
theorem dX1_gather_123 : decode cX1_gather 123 = .ok (.iload 4, 2) := by decide +kernel
theorem dX1_gather_125 : decode cX1_gather 125 = .ok (.ishl, 1) := by decide +kernel
theorem dX1_gather_126 : decode cX1_gather 126 = .ok (.iload_n 3, 1) := by decide +kernel
theorem dX1_gather_127 : decode cX1_gather 127 = .ok (.invokevirtual 42, 3) := by decide +kernel
theorem dX1_gather_130 : decode cX1_gather 130 = .ok (.iinc 4 1, 3) := by decide +kernel
theorem dX1_gather_133 : decode cX1_gather 133 = .ok (.goto (-21), 3) := by decide +kernel
theorem dX1_gather_136 : decode cX1_gather 136 = .ok (.return_, 1) := by decide +kernel
theorem dX1_spread_0 : decode cX1_spread 0 = .ok (.aload_n 0, 1) := by decide +kernel
theorem dX1_spread_1 : decode cX1_spread 1 = .ok (.getfield 18, 3) := by decide +kernel
theorem dX1_spread_4 : decode cX1_spread 4 = .ok (.iload_n 1, 1) := by decide +kernel
theorem dX1_spread_5 : decode cX1_spread 5 = .ok (.iand, 1) := by decide +kernel
theorem dX1_spread_6 : decode cX1_spread 6 = .ok (.ifCond .eq 7, 3) := by decide +kernel
theorem dX1_spread_9 : decode cX1_spread 9 = .ok (.iconst 1, 1) := by decide +kernel
theorem dX1_spread_10 : decode cX1_spread 10 = .ok (.goto 4, 3) := by decide +kernel
theorem dX1_spread_13 : decode cX1_spread 13 = .ok (.iconst 0, 1) := by decide +kernel
theorem dX1_spread_14 : decode cX1_spread 14 = .ok (.istore_n 3, 1) := by decide +kernel
theorem dX1_spread_15 : decode cX1_spread 15 = .ok (.aload_n 0, 1) := by decide +kernel
theorem dX1_spread_16 : decode cX1_spread 16 = .ok (.getfield 9, 3) := by decide +kernel
theorem dX1_spread_19 : decode cX1_spread 19 = .ok (.iload_n 1, 1) := by decide +kernel
theorem dX1_spread_20 : decode cX1_spread 20 = .ok (.iaload, 1) := by decide +kernel
theorem dX1_spread_21 : decode cX1_spread 21 = .ok (.istore 4, 2) := by decide +kernel
theorem dX1_spread_23 : decode cX1_spread 23 = .ok (.iconst 0, 1) := by decide +kernel
theorem dX1_spread_24 : decode cX1_spread 24 = .ok (.istore 5, 2) := by decide +kernel
theorem dX1_spread_26 : decode cX1_spread 26 = .ok (.iload 5, 2) := by decide +kernel
theorem dX1_spread_28 : decode cX1_spread 28 = .ok (.iload_n 1, 1) := by decide +kernel
theorem dX1_spread_29 : decode cX1_spread 29 = .ok (.if_icmp .ge 87, 3) := by decide +kernel
theorem dX1_spread_32 : decode cX1_spread 32 = .ok (.aload_n 0, 1) := by decide +kernel
theorem dX1_spread_33 : decode cX1_spread 33 = .ok (.getfield 9, 3) := by decide +kernel
theorem dX1_spread_36 : decode cX1_spread 36 = .ok (.iload 5, 2) := by decide +kernel
theorem dX1_spread_38 : decode cX1_spread 38 = .ok (.iload_n 1, 1) := by decide +kernel
theorem dX1_spread_39 : decode cX1_spread 39 = .ok (.ior, 1) := by decide +kernel
theorem dX1_spread_40 : decode cX1_spread 40 = .ok (.aload_n 0, 1) := by decide +kernel
theorem dX1_spread_41 : decode cX1_spread 41 = .ok (.getfield 9, 3) := by decide +kernel
theorem dX1_spread_44 : decode cX1_spread 44 = .ok (.iload 5, 2) := by decide +kernel
theorem dX1_spread_46 : decode cX1_spread 46 = .ok (.iaload, 1) := by decide +kernel
theorem dX1_spread_47 : decode cX1_spread 47 = .ok (.iload 4, 2) := by decide +kernel
theorem dX1_spread_49 : decode cX1_spread 49 = .ok (.iadd, 1) := by decide +kernel
theorem dX1_spread_50 : decode cX1_spread 50 = .ok (.iastore, 1) := by decide +kernel
theorem dX1_spread_51 : decode cX1_spread 51 = .ok (.aload_n 0, 1) := by decide +kernel
theorem dX1_spread_52 : decode cX1_spread 52 = .ok (.getfield 15, 3) := by decide +kernel
theorem dX1_spread_55 : decode cX1_spread 55 = .ok (.iload 5, 2) := by decide +kernel
theorem dX1_spread_57 : decode cX1_spread 57 = .ok (.iload_n 1, 1) := by decide +kernel
theorem dX1_spread_58 : decode cX1_spread 58 = .ok (.ior, 1) := by decide +kernel
theorem dX1_spread_59 : decode cX1_spread 59 = .ok (.iload_n 3, 1) := by decide +kernel
theorem dX1_spread_60 : decode cX1_spread 60 = .ok (.ifCond .eq 15, 3) := by decide +kernel
theorem dX1_spread_63 : decode cX1_spread 63 = .ok (.aload_n 0, 1) := by decide +kernel
theorem dX1_spread_64 : decode cX1_spread 64 = .ok (.getfield 15, 3) := by decide +kernel
theorem dX1_spread_67 : decode cX1_spread 67 = .ok (.iload 5, 2) := by decide +kernel
theorem dX1_spread_69 : decode cX1_spread 69 = .ok (.iaload, 1) := by decide +kernel
theorem dX1_spread_70 : decode cX1_spread 70 = .ok (.iload_n 2, 1) := by decide +kernel
theorem dX1_spread_71 : decode cX1_spread 71 = .ok (.imul, 1) := by decide +kernel
theorem dX1_spread_72 : decode cX1_spread 72 = .ok (.goto 4, 3) := by decide +kernel
theorem dX1_spread_75 : decode cX1_spread 75 = .ok (.iconst 0, 1) := by decide +kernel
theorem dX1_spread_76 : decode cX1_spread 76 = .ok (.iastore, 1) := by decide +kernel
theorem dX1_spread_77 : decode cX1_spread 77 = .ok (.aload_n 0, 1) := by decide +kernel
theorem dX1_spread_78 : decode cX1_spread 78 = .ok (.getfield 15, 3) := by decide +kernel
theorem dX1_spread_81 : decode cX1_spread 81 = .ok (.iload 5, 2) := by decide +kernel
theorem dX1_spread_83 : decode cX1_spread 83 = .ok (.iload_n 3, 1) := by decide +kernel
theorem dX1_spread_84 : decode cX1_spread 84 = .ok (.ifCond .eq 18, 3) := by decide +kernel
theorem dX1_spread_87 : decode cX1_spread 87 = .ok (.aload_n 0, 1) := by decide +kernel
theorem dX1_spread_88 : decode cX1_spread 88 = .ok (.getfield 15, 3) := by decide +kernel
theorem dX1_spread_91 : decode cX1_spread 91 = .ok (.iload 5, 2) := by decide +kernel
theorem dX1_spread_93 : decode cX1_spread 93 = .ok (.iaload, 1) := by decide +kernel
theorem dX1_spread_94 : decode cX1_spread 94 = .ok (.bipush 10, 2) := by decide +kernel
theorem dX1_spread_96 : decode cX1_spread 96 = .ok (.iload_n 2, 1) := by decide +kernel
theorem dX1_spread_97 : decode cX1_spread 97 = .ok (.isub, 1) := by decide +kernel
theorem dX1_spread_98 : decode cX1_spread 98 = .ok (.imul, 1) := by decide +kernel
theorem dX1_spread_99 : decode cX1_spread 99 = .ok (.goto 10, 3) := by decide +kernel
theorem dX1_spread_102 : decode cX1_spread 102 = .ok (.aload_n 0, 1) := by decide +kernel
theorem dX1_spread_103 : decode cX1_spread 103 = .ok (.getfield 15, 3) := by decide +kernel
theorem dX1_spread_106 : decode cX1_spread 106 = .ok (.iload 5, 2) := by decide +kernel
theorem dX1_spread_108 : decode cX1_spread 108 = .ok (.iaload, 1) := by decide +kernel
theorem dX1_spread_109 : decode cX1_spread 109 = .ok (.iastore, 1) := by decide +kernel
theorem dX1_spread_110 : decode cX1_spread 110 = .ok (.iinc 5 1, 3) := by decide +kernel
theorem dX1_spread_113 : decode cX1_spread 113 = .ok (.goto (-87), 3) := by decide +kernel
theorem dX1_spread_116 : decode cX1_spread 116 = .ok (.aload_n 0, 1) := by decide +kernel
theorem dX1_spread_117 : decode cX1_spread 117 = .ok (.iload_n 3, 1) := by decide +kernel
theorem dX1_spread_118 : decode cX1_spread 118 = .ok (.ifCond .eq 13, 3) := by decide +kernel
theorem dX1_spread_121 : decode cX1_spread 121 = .ok (.aload_n 0, 1) := by decide +kernel
theorem dX1_spread_122 : decode cX1_spread 122 = .ok (.getfield 22, 3) := by decide +kernel
theorem dX1_spread_125 : decode cX1_spread 125 = .ok (.bipush 10, 2) := by decide +kernel
theorem dX1_spread_127 : decode cX1_spread 127 = .ok (.imul, 1) := by decide +kernel
theorem dX1_spread_128 : decode cX1_spread 128 = .ok (.goto 7, 3) := by decide +kernel
theorem dX1_spread_131 : decode cX1_spread 131 = .ok (.aload_n 0, 1) := by decide +kernel
theorem dX1_spread_132 : decode cX1_spread 132 = .ok (.getfield 22, 3) := by decide +kernel
theorem dX1_spread_135 : decode cX1_spread 135 = .ok (.putfield 22, 3) := by decide +kernel
theorem dX1_spread_138 : decode cX1_spread 138 = .ok (.return_, 1) := by decide +kernel
theorem dX1_waysWithin_0 : decode cX1_waysWithin 0 = .ok (.iconst 0, 1) := by decide +kernel
theorem dX1_waysWithin_1 : decode cX1_waysWithin 1 = .ok (.istore_n 2, 1) := by decide +kernel
theorem dX1_waysWithin_2 : decode cX1_waysWithin 2 = .ok (.iconst 0, 1) := by decide +kernel
theorem dX1_waysWithin_3 : decode cX1_waysWithin 3 = .ok (.istore_n 3, 1) := by decide +kernel
theorem dX1_waysWithin_4 : decode cX1_waysWithin 4 = .ok (.iload_n 3, 1) := by decide +kernel
theorem dX1_waysWithin_5 : decode cX1_waysWithin 5 = .ok (.aload_n 0, 1) := by decide +kernel
theorem dX1_waysWithin_6 : decode cX1_waysWithin 6 = .ok (.getfield 18, 3) := by decide +kernel
theorem dX1_waysWithin_9 : decode cX1_waysWithin 9 = .ok (.if_icmp .gt 28, 3) := by decide +kernel
theorem dX1_waysWithin_12 : decode cX1_waysWithin 12 = .ok (.aload_n 0, 1) := by decide +kernel
theorem dX1_waysWithin_13 : decode cX1_waysWithin 13 = .ok (.getfield 9, 3) := by decide +kernel
theorem dX1_waysWithin_16 : decode cX1_waysWithin 16 = .ok (.iload_n 3, 1) := by decide +kernel
theorem dX1_waysWithin_17 : decode cX1_waysWithin 17 = .ok (.iaload, 1) := by decide +kernel
theorem dX1_waysWithin_18 : decode cX1_waysWithin 18 = .ok (.iload_n 1, 1) := by decide +kernel
theorem dX1_waysWithin_19 : decode cX1_waysWithin 19 = .ok (.if_icmp .gt 12, 3) := by decide +kernel
theorem dX1_waysWithin_22 : decode cX1_waysWithin 22 = .ok (.iload_n 2, 1) := by decide +kernel
theorem dX1_waysWithin_23 : decode cX1_waysWithin 23 = .ok (.aload_n 0, 1) := by decide +kernel
theorem dX1_waysWithin_24 : decode cX1_waysWithin 24 = .ok (.getfield 15, 3) := by decide +kernel
theorem dX1_waysWithin_27 : decode cX1_waysWithin 27 = .ok (.iload_n 3, 1) := by decide +kernel
theorem dX1_waysWithin_28 : decode cX1_waysWithin 28 = .ok (.iaload, 1) := by decide +kernel
theorem dX1_waysWithin_29 : decode cX1_waysWithin 29 = .ok (.iadd, 1) := by decide +kernel
theorem dX1_waysWithin_30 : decode cX1_waysWithin 30 = .ok (.istore_n 2, 1) := by decide +kernel
theorem dX1_waysWithin_31 : decode cX1_waysWithin 31 = .ok (.iinc 3 1, 3) := by decide +kernel
theorem dX1_waysWithin_34 : decode cX1_waysWithin 34 = .ok (.goto (-30), 3) := by decide +kernel
theorem dX1_waysWithin_37 : decode cX1_waysWithin 37 = .ok (.iload_n 2, 1) := by decide +kernel
theorem dX1_waysWithin_38 : decode cX1_waysWithin 38 = .ok (.ireturn, 1) := by decide +kernel
set_option maxRecDepth 20000 in
theorem ggX1_leastEnough_X1_waysWithin : GoodIn wsX1_leastEnough wsX1_waysWithin := goodIn_r _ [8, 2, 1, 9, 10, 11, 12, 13] (by decide +kernel) (by decide +kernel)
set_option maxRecDepth 20000 in
theorem gX1_leastEnough_X1_waysWithin : GoodIn wsX1_leastEnough (wsV RX1 46 RX1 yX1_waysWithin wsX1_waysWithin) := goodIn_app (goodIn_of _ (by decide +kernel)) ggX1_leastEnough_X1_waysWithin
theorem dX1_leastEnough_0 : decode cX1_leastEnough 0 = .ok (.aload_n 0, 1) := by decide +kernel
theorem dX1_leastEnough_1 : decode cX1_leastEnough 1 = .ok (.getfield 9, 3) := by decide +kernel
theorem dX1_leastEnough_4 : decode cX1_leastEnough 4 = .ok (.aload_n 0, 1) := by decide +kernel
theorem dX1_leastEnough_5 : decode cX1_leastEnough 5 = .ok (.getfield 18, 3) := by decide +kernel
theorem dX1_leastEnough_8 : decode cX1_leastEnough 8 = .ok (.iaload, 1) := by decide +kernel
theorem dX1_leastEnough_9 : decode cX1_leastEnough 9 = .ok (.istore_n 2, 1) := by decide +kernel
theorem dX1_leastEnough_10 : decode cX1_leastEnough 10 = .ok (.iconst 0, 1) := by decide +kernel
theorem dX1_leastEnough_11 : decode cX1_leastEnough 11 = .ok (.istore_n 3, 1) := by decide +kernel
theorem dX1_leastEnough_12 : decode cX1_leastEnough 12 = .ok (.iload_n 3, 1) := by decide +kernel
theorem dX1_leastEnough_13 : decode cX1_leastEnough 13 = .ok (.aload_n 0, 1) := by decide +kernel
theorem dX1_leastEnough_14 : decode cX1_leastEnough 14 = .ok (.getfield 18, 3) := by decide +kernel
theorem dX1_leastEnough_17 : decode cX1_leastEnough 17 = .ok (.if_icmp .ge 48, 3) := by decide +kernel
theorem dX1_leastEnough_20 : decode cX1_leastEnough 20 = .ok (.aload_n 0, 1) := by decide +kernel
theorem dX1_leastEnough_21 : decode cX1_leastEnough 21 = .ok (.getfield 9, 3) := by decide +kernel
theorem dX1_leastEnough_24 : decode cX1_leastEnough 24 = .ok (.iload_n 3, 1) := by decide +kernel
theorem dX1_leastEnough_25 : decode cX1_leastEnough 25 = .ok (.iaload, 1) := by decide +kernel
theorem dX1_leastEnough_26 : decode cX1_leastEnough 26 = .ok (.iload_n 2, 1) := by decide +kernel
theorem dX1_leastEnough_27 : decode cX1_leastEnough 27 = .ok (.if_icmp .ge 32, 3) := by decide +kernel
theorem dX1_leastEnough_30 : decode cX1_leastEnough 30 = .ok (.aload_n 0, 1) := by decide +kernel
theorem dX1_leastEnough_31 : decode cX1_leastEnough 31 = .ok (.aload_n 0, 1) := by decide +kernel
theorem dX1_leastEnough_32 : decode cX1_leastEnough 32 = .ok (.getfield 9, 3) := by decide +kernel
theorem dX1_leastEnough_35 : decode cX1_leastEnough 35 = .ok (.iload_n 3, 1) := by decide +kernel
theorem dX1_leastEnough_36 : decode cX1_leastEnough 36 = .ok (.iaload, 1) := by decide +kernel
theorem dX1_leastEnough_37 : decode cX1_leastEnough 37 = .ok (.invokevirtual 46, 3) := by decide +kernel
theorem dX1_leastEnough_40 : decode cX1_leastEnough 40 = .ok (.bipush 100, 2) := by decide +kernel
theorem dX1_leastEnough_42 : decode cX1_leastEnough 42 = .ok (.imul, 1) := by decide +kernel
theorem dX1_leastEnough_43 : decode cX1_leastEnough 43 = .ok (.iload_n 1, 1) := by decide +kernel
theorem dX1_leastEnough_44 : decode cX1_leastEnough 44 = .ok (.aload_n 0, 1) := by decide +kernel
theorem dX1_leastEnough_45 : decode cX1_leastEnough 45 = .ok (.getfield 22, 3) := by decide +kernel
theorem dX1_leastEnough_48 : decode cX1_leastEnough 48 = .ok (.imul, 1) := by decide +kernel
theorem dX1_leastEnough_49 : decode cX1_leastEnough 49 = .ok (.if_icmp .lt 10, 3) := by decide +kernel
theorem dX1_leastEnough_52 : decode cX1_leastEnough 52 = .ok (.aload_n 0, 1) := by decide +kernel
theorem dX1_leastEnough_53 : decode cX1_leastEnough 53 = .ok (.getfield 9, 3) := by decide +kernel
theorem dX1_leastEnough_56 : decode cX1_leastEnough 56 = .ok (.iload_n 3, 1) := by decide +kernel
theorem dX1_leastEnough_57 : decode cX1_leastEnough 57 = .ok (.iaload, 1) := by decide +kernel
theorem dX1_leastEnough_58 : decode cX1_leastEnough 58 = .ok (.istore_n 2, 1) := by decide +kernel
theorem dX1_leastEnough_59 : decode cX1_leastEnough 59 = .ok (.iinc 3 1, 3) := by decide +kernel
theorem dX1_leastEnough_62 : decode cX1_leastEnough 62 = .ok (.goto (-50), 3) := by decide +kernel
theorem dX1_leastEnough_65 : decode cX1_leastEnough 65 = .ok (.iload_n 2, 1) := by decide +kernel
theorem dX1_leastEnough_66 : decode cX1_leastEnough 66 = .ok (.ireturn, 1) := by decide +kernel
theorem dX2_init_0 : decode cX2_init 0 = .ok (.aload_n 0, 1) := by decide +kernel
theorem dX2_init_1 : decode cX2_init 1 = .ok (.invokespecial 3, 3) := by decide +kernel
theorem dX2_init_4 : decode cX2_init 4 = .ok (.aload_n 0, 1) := by decide +kernel
theorem dX2_init_5 : decode cX2_init 5 = .ok (.bipush 12, 2) := by decide +kernel
theorem dX2_init_7 : decode cX2_init 7 = .ok (.newarray .int, 2) := by decide +kernel
theorem dX2_init_9 : decode cX2_init 9 = .ok (.putfield 9, 3) := by decide +kernel
theorem dX2_init_12 : decode cX2_init 12 = .ok (.aload_n 0, 1) := by decide +kernel
theorem dX2_init_13 : decode cX2_init 13 = .ok (.bipush 12, 2) := by decide +kernel
theorem dX2_init_15 : decode cX2_init 15 = .ok (.newarray .int, 2) := by decide +kernel
theorem dX2_init_17 : decode cX2_init 17 = .ok (.putfield 15, 3) := by decide +kernel
theorem dX2_init_20 : decode cX2_init 20 = .ok (.aload_n 0, 1) := by decide +kernel
theorem dX2_init_21 : decode cX2_init 21 = .ok (.bipush 12, 2) := by decide +kernel
theorem dX2_init_23 : decode cX2_init 23 = .ok (.newarray .boolean, 2) := by decide +kernel
theorem dX2_init_25 : decode cX2_init 25 = .ok (.putfield 18, 3) := by decide +kernel
theorem dX2_init_28 : decode cX2_init 28 = .ok (.aload_n 0, 1) := by decide +kernel
theorem dX2_init_29 : decode cX2_init 29 = .ok (.iconst 0, 1) := by decide +kernel
theorem dX2_init_30 : decode cX2_init 30 = .ok (.putfield 22, 3) := by decide +kernel
theorem dX2_init_33 : decode cX2_init 33 = .ok (.return_, 1) := by decide +kernel
theorem dX2_append_0 : decode cX2_append 0 = .ok (.aload_n 0, 1) := by decide +kernel
theorem dX2_append_1 : decode cX2_append 1 = .ok (.getfield 22, 3) := by decide +kernel
theorem dX2_append_4 : decode cX2_append 4 = .ok (.bipush 12, 2) := by decide +kernel
theorem dX2_append_6 : decode cX2_append 6 = .ok (.if_icmp .lt 5, 3) := by decide +kernel
theorem dX2_append_9 : decode cX2_append 9 = .ok (.iconst 0, 1) := by decide +kernel
theorem dX2_append_10 : decode cX2_append 10 = .ok (.ireturn, 1) := by decide +kernel
theorem dX2_append_11 : decode cX2_append 11 = .ok (.aload_n 0, 1) := by decide +kernel
theorem dX2_append_12 : decode cX2_append 12 = .ok (.getfield 9, 3) := by decide +kernel
theorem dX2_append_15 : decode cX2_append 15 = .ok (.aload_n 0, 1) := by decide +kernel
theorem dX2_append_16 : decode cX2_append 16 = .ok (.getfield 22, 3) := by decide +kernel
theorem dX2_append_19 : decode cX2_append 19 = .ok (.iload_n 1, 1) := by decide +kernel
theorem dX2_append_20 : decode cX2_append 20 = .ok (.iastore, 1) := by decide +kernel
theorem dX2_append_21 : decode cX2_append 21 = .ok (.aload_n 0, 1) := by decide +kernel
theorem dX2_append_22 : decode cX2_append 22 = .ok (.getfield 15, 3) := by decide +kernel
theorem dX2_append_25 : decode cX2_append 25 = .ok (.aload_n 0, 1) := by decide +kernel
theorem dX2_append_26 : decode cX2_append 26 = .ok (.getfield 22, 3) := by decide +kernel
theorem dX2_append_29 : decode cX2_append 29 = .ok (.iload_n 2, 1) := by decide +kernel
theorem dX2_append_30 : decode cX2_append 30 = .ok (.iastore, 1) := by decide +kernel
theorem dX2_append_31 : decode cX2_append 31 = .ok (.aload_n 0, 1) := by decide +kernel
theorem dX2_append_32 : decode cX2_append 32 = .ok (.getfield 18, 3) := by decide +kernel
theorem dX2_append_35 : decode cX2_append 35 = .ok (.aload_n 0, 1) := by decide +kernel
theorem dX2_append_36 : decode cX2_append 36 = .ok (.getfield 22, 3) := by decide +kernel
theorem dX2_append_39 : decode cX2_append 39 = .ok (.iload_n 3, 1) := by decide +kernel
theorem dX2_append_40 : decode cX2_append 40 = .ok (.bastore, 1) := by decide +kernel
theorem dX2_append_41 : decode cX2_append 41 = .ok (.aload_n 0, 1) := by decide +kernel
theorem dX2_append_42 : decode cX2_append 42 = .ok (.dup, 1) := by decide +kernel
theorem dX2_append_43 : decode cX2_append 43 = .ok (.getfield 22, 3) := by decide +kernel
theorem dX2_append_46 : decode cX2_append 46 = .ok (.iconst 1, 1) := by decide +kernel
theorem dX2_append_47 : decode cX2_append 47 = .ok (.iadd, 1) := by decide +kernel
theorem dX2_append_48 : decode cX2_append 48 = .ok (.putfield 22, 3) := by decide +kernel
theorem dX2_append_51 : decode cX2_append 51 = .ok (.iconst 1, 1) := by decide +kernel
theorem dX2_append_52 : decode cX2_append 52 = .ok (.ireturn, 1) := by decide +kernel
set_option maxRecDepth 20000 in
theorem ggX2_caught_X2_isToldAgain : GoodIn wsX2_caught wsX2_isToldAgain := goodIn_r _ [8, 1, 3, 9, 10, 11, 12, 13] (by decide +kernel) (by decide +kernel)
set_option maxRecDepth 20000 in
theorem gX2_caught_X2_isToldAgain : GoodIn wsX2_caught (wsV RX2 26 RX2 yX2_isToldAgain wsX2_isToldAgain) := goodIn_app (goodIn_of _ (by decide +kernel)) ggX2_caught_X2_isToldAgain
theorem dX2_caught_0 : decode cX2_caught 0 = .ok (.iconst 0, 1) := by decide +kernel
theorem dX2_caught_1 : decode cX2_caught 1 = .ok (.istore_n 1, 1) := by decide +kernel
theorem dX2_caught_2 : decode cX2_caught 2 = .ok (.iconst 0, 1) := by decide +kernel
theorem dX2_caught_3 : decode cX2_caught 3 = .ok (.istore_n 2, 1) := by decide +kernel
theorem dX2_caught_4 : decode cX2_caught 4 = .ok (.iload_n 2, 1) := by decide +kernel
theorem dX2_caught_5 : decode cX2_caught 5 = .ok (.aload_n 0, 1) := by decide +kernel
theorem dX2_caught_6 : decode cX2_caught 6 = .ok (.getfield 22, 3) := by decide +kernel
theorem dX2_caught_9 : decode cX2_caught 9 = .ok (.if_icmp .ge 37, 3) := by decide +kernel
theorem dX2_caught_12 : decode cX2_caught 12 = .ok (.aload_n 0, 1) := by decide +kernel
theorem dX2_caught_13 : decode cX2_caught 13 = .ok (.getfield 18, 3) := by decide +kernel
theorem dX2_caught_16 : decode cX2_caught 16 = .ok (.iload_n 2, 1) := by decide +kernel
theorem dX2_caught_17 : decode cX2_caught 17 = .ok (.baload, 1) := by decide +kernel
theorem dX2_caught_18 : decode cX2_caught 18 = .ok (.ifCond .ne 22, 3) := by decide +kernel
theorem dX2_caught_21 : decode cX2_caught 21 = .ok (.aload_n 0, 1) := by decide +kernel
theorem dX2_caught_22 : decode cX2_caught 22 = .ok (.iload_n 2, 1) := by decide +kernel
theorem dX2_caught_23 : decode cX2_caught 23 = .ok (.invokevirtual 26, 3) := by decide +kernel
theorem dX2_caught_26 : decode cX2_caught 26 = .ok (.ifCond .eq 14, 3) := by decide +kernel
theorem dX2_caught_29 : decode cX2_caught 29 = .ok (.iload_n 1, 1) := by decide +kernel
theorem dX2_caught_30 : decode cX2_caught 30 = .ok (.iconst 1, 1) := by decide +kernel
theorem dX2_caught_31 : decode cX2_caught 31 = .ok (.aload_n 0, 1) := by decide +kernel
theorem dX2_caught_32 : decode cX2_caught 32 = .ok (.getfield 9, 3) := by decide +kernel
theorem dX2_caught_35 : decode cX2_caught 35 = .ok (.iload_n 2, 1) := by decide +kernel
theorem dX2_caught_36 : decode cX2_caught 36 = .ok (.iaload, 1) := by decide +kernel
theorem dX2_caught_37 : decode cX2_caught 37 = .ok (.ishl, 1) := by decide +kernel
theorem dX2_caught_38 : decode cX2_caught 38 = .ok (.ior, 1) := by decide +kernel
theorem dX2_caught_39 : decode cX2_caught 39 = .ok (.istore_n 1, 1) := by decide +kernel
theorem dX2_caught_40 : decode cX2_caught 40 = .ok (.iinc 2 1, 3) := by decide +kernel
theorem dX2_caught_43 : decode cX2_caught 43 = .ok (.goto (-39), 3) := by decide +kernel
theorem dX2_caught_46 : decode cX2_caught 46 = .ok (.iload_n 1, 1) := by decide +kernel
theorem dX2_caught_47 : decode cX2_caught 47 = .ok (.ireturn, 1) := by decide +kernel
theorem dX2_isToldAgain_0 : decode cX2_isToldAgain 0 = .ok (.iconst 0, 1) := by decide +kernel
theorem dX2_isToldAgain_1 : decode cX2_isToldAgain 1 = .ok (.istore_n 2, 1) := by decide +kernel
theorem dX2_isToldAgain_2 : decode cX2_isToldAgain 2 = .ok (.iload_n 2, 1) := by decide +kernel
theorem dX2_isToldAgain_3 : decode cX2_isToldAgain 3 = .ok (.aload_n 0, 1) := by decide +kernel
theorem dX2_isToldAgain_4 : decode cX2_isToldAgain 4 = .ok (.getfield 22, 3) := by decide +kernel
theorem dX2_isToldAgain_7 : decode cX2_isToldAgain 7 = .ok (.if_icmp .ge 46, 3) := by decide +kernel
theorem dX2_isToldAgain_10 : decode cX2_isToldAgain 10 = .ok (.iload_n 2, 1) := by decide +kernel
theorem dX2_isToldAgain_11 : decode cX2_isToldAgain 11 = .ok (.iload_n 1, 1) := by decide +kernel
theorem dX2_isToldAgain_12 : decode cX2_isToldAgain 12 = .ok (.if_icmp .eq 35, 3) := by decide +kernel
theorem dX2_isToldAgain_15 : decode cX2_isToldAgain 15 = .ok (.aload_n 0, 1) := by decide +kernel
theorem dX2_isToldAgain_16 : decode cX2_isToldAgain 16 = .ok (.getfield 9, 3) := by decide +kernel
theorem dX2_isToldAgain_19 : decode cX2_isToldAgain 19 = .ok (.iload_n 2, 1) := by decide +kernel
theorem dX2_isToldAgain_20 : decode cX2_isToldAgain 20 = .ok (.iaload, 1) := by decide +kernel
theorem dX2_isToldAgain_21 : decode cX2_isToldAgain 21 = .ok (.aload_n 0, 1) := by decide +kernel
theorem dX2_isToldAgain_22 : decode cX2_isToldAgain 22 = .ok (.getfield 9, 3) := by decide +kernel
theorem dX2_isToldAgain_25 : decode cX2_isToldAgain 25 = .ok (.iload_n 1, 1) := by decide +kernel
theorem dX2_isToldAgain_26 : decode cX2_isToldAgain 26 = .ok (.iaload, 1) := by decide +kernel
theorem dX2_isToldAgain_27 : decode cX2_isToldAgain 27 = .ok (.if_icmp .ne 20, 3) := by decide +kernel
theorem dX2_isToldAgain_30 : decode cX2_isToldAgain 30 = .ok (.aload_n 0, 1) := by decide +kernel
theorem dX2_isToldAgain_31 : decode cX2_isToldAgain 31 = .ok (.getfield 15, 3) := by decide +kernel
theorem dX2_isToldAgain_34 : decode cX2_isToldAgain 34 = .ok (.iload_n 2, 1) := by decide +kernel
theorem dX2_isToldAgain_35 : decode cX2_isToldAgain 35 = .ok (.iaload, 1) := by decide +kernel
theorem dX2_isToldAgain_36 : decode cX2_isToldAgain 36 = .ok (.aload_n 0, 1) := by decide +kernel
theorem dX2_isToldAgain_37 : decode cX2_isToldAgain 37 = .ok (.getfield 15, 3) := by decide +kernel
theorem dX2_isToldAgain_40 : decode cX2_isToldAgain 40 = .ok (.iload_n 1, 1) := by decide +kernel
theorem dX2_isToldAgain_41 : decode cX2_isToldAgain 41 = .ok (.iaload, 1) := by decide +kernel
theorem dX2_isToldAgain_42 : decode cX2_isToldAgain 42 = .ok (.if_icmp .ne 5, 3) := by decide +kernel
theorem dX2_isToldAgain_45 : decode cX2_isToldAgain 45 = .ok (.iconst 1, 1) := by decide +kernel
theorem dX2_isToldAgain_46 : decode cX2_isToldAgain 46 = .ok (.ireturn, 1) := by decide +kernel
theorem dX2_isToldAgain_47 : decode cX2_isToldAgain 47 = .ok (.iinc 2 1, 3) := by decide +kernel
theorem dX2_isToldAgain_50 : decode cX2_isToldAgain 50 = .ok (.goto (-48), 3) := by decide +kernel
theorem dX2_isToldAgain_53 : decode cX2_isToldAgain 53 = .ok (.iconst 0, 1) := by decide +kernel
theorem dX2_isToldAgain_54 : decode cX2_isToldAgain 54 = .ok (.ireturn, 1) := by decide +kernel
theorem dX3_init_0 : decode cX3_init 0 = .ok (.aload_n 0, 1) := by decide +kernel
theorem dX3_init_1 : decode cX3_init 1 = .ok (.invokespecial 3, 3) := by decide +kernel
theorem dX3_init_4 : decode cX3_init 4 = .ok (.aload_n 0, 1) := by decide +kernel
theorem dX3_init_5 : decode cX3_init 5 = .ok (.iconst 0, 1) := by decide +kernel
theorem dX3_init_6 : decode cX3_init 6 = .ok (.putfield 9, 3) := by decide +kernel
theorem dX3_init_9 : decode cX3_init 9 = .ok (.aload_n 0, 1) := by decide +kernel
theorem dX3_init_10 : decode cX3_init 10 = .ok (.iconst 0, 1) := by decide +kernel
theorem dX3_init_11 : decode cX3_init 11 = .ok (.putfield 15, 3) := by decide +kernel
theorem dX3_init_14 : decode cX3_init 14 = .ok (.aload_n 0, 1) := by decide +kernel
theorem dX3_init_15 : decode cX3_init 15 = .ok (.iconst 0, 1) := by decide +kernel
theorem dX3_init_16 : decode cX3_init 16 = .ok (.putfield 18, 3) := by decide +kernel
theorem dX3_init_19 : decode cX3_init 19 = .ok (.aload_n 0, 1) := by decide +kernel
theorem dX3_init_20 : decode cX3_init 20 = .ok (.iconst 0, 1) := by decide +kernel
theorem dX3_init_21 : decode cX3_init 21 = .ok (.putfield 21, 3) := by decide +kernel
theorem dX3_init_24 : decode cX3_init 24 = .ok (.aload_n 0, 1) := by decide +kernel
theorem dX3_init_25 : decode cX3_init 25 = .ok (.iconst 0, 1) := by decide +kernel
theorem dX3_init_26 : decode cX3_init 26 = .ok (.putfield 24, 3) := by decide +kernel
theorem dX3_init_29 : decode cX3_init 29 = .ok (.aload_n 0, 1) := by decide +kernel
theorem dX3_init_30 : decode cX3_init 30 = .ok (.bipush 6, 2) := by decide +kernel
theorem dX3_init_32 : decode cX3_init 32 = .ok (.newarray .int, 2) := by decide +kernel
theorem dX3_init_34 : decode cX3_init 34 = .ok (.putfield 27, 3) := by decide +kernel
theorem dX3_init_37 : decode cX3_init 37 = .ok (.aload_n 0, 1) := by decide +kernel
theorem dX3_init_38 : decode cX3_init 38 = .ok (.bipush 6, 2) := by decide +kernel
theorem dX3_init_40 : decode cX3_init 40 = .ok (.newarray .int, 2) := by decide +kernel
theorem dX3_init_42 : decode cX3_init 42 = .ok (.putfield 31, 3) := by decide +kernel
theorem dX3_init_45 : decode cX3_init 45 = .ok (.aload_n 0, 1) := by decide +kernel
theorem dX3_init_46 : decode cX3_init 46 = .ok (.bipush 12, 2) := by decide +kernel
theorem dX3_init_48 : decode cX3_init 48 = .ok (.newarray .int, 2) := by decide +kernel
theorem dX3_init_50 : decode cX3_init 50 = .ok (.putfield 34, 3) := by decide +kernel
theorem dX3_init_53 : decode cX3_init 53 = .ok (.aload_n 0, 1) := by decide +kernel
theorem dX3_init_54 : decode cX3_init 54 = .ok (.bipush 12, 2) := by decide +kernel
theorem dX3_init_56 : decode cX3_init 56 = .ok (.newarray .int, 2) := by decide +kernel
theorem dX3_init_58 : decode cX3_init 58 = .ok (.putfield 37, 3) := by decide +kernel
theorem dX3_init_61 : decode cX3_init 61 = .ok (.aload_n 0, 1) := by decide +kernel
theorem dX3_init_62 : decode cX3_init 62 = .ok (.bipush 12, 2) := by decide +kernel
theorem dX3_init_64 : decode cX3_init 64 = .ok (.newarray .int, 2) := by decide +kernel
theorem dX3_init_66 : decode cX3_init 66 = .ok (.putfield 40, 3) := by decide +kernel
theorem dX3_init_69 : decode cX3_init 69 = .ok (.aload_n 0, 1) := by decide +kernel
theorem dX3_init_70 : decode cX3_init 70 = .ok (.bipush 12, 2) := by decide +kernel
theorem dX3_init_72 : decode cX3_init 72 = .ok (.newarray .int, 2) := by decide +kernel
theorem dX3_init_74 : decode cX3_init 74 = .ok (.putfield 43, 3) := by decide +kernel
theorem dX3_init_77 : decode cX3_init 77 = .ok (.return_, 1) := by decide +kernel
theorem dX3_clear_0 : decode cX3_clear 0 = .ok (.aload_n 0, 1) := by decide +kernel
theorem dX3_clear_1 : decode cX3_clear 1 = .ok (.iconst 0, 1) := by decide +kernel
theorem dX3_clear_2 : decode cX3_clear 2 = .ok (.putfield 9, 3) := by decide +kernel
theorem dX3_clear_5 : decode cX3_clear 5 = .ok (.aload_n 0, 1) := by decide +kernel
theorem dX3_clear_6 : decode cX3_clear 6 = .ok (.iconst 0, 1) := by decide +kernel
theorem dX3_clear_7 : decode cX3_clear 7 = .ok (.putfield 15, 3) := by decide +kernel
theorem dX3_clear_10 : decode cX3_clear 10 = .ok (.aload_n 0, 1) := by decide +kernel
theorem dX3_clear_11 : decode cX3_clear 11 = .ok (.iconst 0, 1) := by decide +kernel
theorem dX3_clear_12 : decode cX3_clear 12 = .ok (.putfield 18, 3) := by decide +kernel
theorem dX3_clear_15 : decode cX3_clear 15 = .ok (.aload_n 0, 1) := by decide +kernel
theorem dX3_clear_16 : decode cX3_clear 16 = .ok (.iconst 0, 1) := by decide +kernel
theorem dX3_clear_17 : decode cX3_clear 17 = .ok (.putfield 21, 3) := by decide +kernel
theorem dX3_clear_20 : decode cX3_clear 20 = .ok (.aload_n 0, 1) := by decide +kernel
theorem dX3_clear_21 : decode cX3_clear 21 = .ok (.iconst 0, 1) := by decide +kernel
theorem dX3_clear_22 : decode cX3_clear 22 = .ok (.putfield 24, 3) := by decide +kernel
theorem dX3_clear_25 : decode cX3_clear 25 = .ok (.return_, 1) := by decide +kernel
theorem dX3_copyFrom_0 : decode cX3_copyFrom 0 = .ok (.aload_n 0, 1) := by decide +kernel
theorem dX3_copyFrom_1 : decode cX3_copyFrom 1 = .ok (.aload_n 1, 1) := by decide +kernel
theorem dX3_copyFrom_2 : decode cX3_copyFrom 2 = .ok (.getfield 9, 3) := by decide +kernel
theorem dX3_copyFrom_5 : decode cX3_copyFrom 5 = .ok (.putfield 9, 3) := by decide +kernel
theorem dX3_copyFrom_8 : decode cX3_copyFrom 8 = .ok (.aload_n 0, 1) := by decide +kernel
theorem dX3_copyFrom_9 : decode cX3_copyFrom 9 = .ok (.aload_n 1, 1) := by decide +kernel
theorem dX3_copyFrom_10 : decode cX3_copyFrom 10 = .ok (.getfield 15, 3) := by decide +kernel
theorem dX3_copyFrom_13 : decode cX3_copyFrom 13 = .ok (.putfield 15, 3) := by decide +kernel
theorem dX3_copyFrom_16 : decode cX3_copyFrom 16 = .ok (.aload_n 0, 1) := by decide +kernel
theorem dX3_copyFrom_17 : decode cX3_copyFrom 17 = .ok (.aload_n 1, 1) := by decide +kernel
theorem dX3_copyFrom_18 : decode cX3_copyFrom 18 = .ok (.getfield 18, 3) := by decide +kernel
theorem dX3_copyFrom_21 : decode cX3_copyFrom 21 = .ok (.putfield 18, 3) := by decide +kernel
theorem dX3_copyFrom_24 : decode cX3_copyFrom 24 = .ok (.aload_n 0, 1) := by decide +kernel
theorem dX3_copyFrom_25 : decode cX3_copyFrom 25 = .ok (.aload_n 1, 1) := by decide +kernel
theorem dX3_copyFrom_26 : decode cX3_copyFrom 26 = .ok (.getfield 21, 3) := by decide +kernel
theorem dX3_copyFrom_29 : decode cX3_copyFrom 29 = .ok (.putfield 21, 3) := by decide +kernel
theorem dX3_copyFrom_32 : decode cX3_copyFrom 32 = .ok (.aload_n 0, 1) := by decide +kernel
theorem dX3_copyFrom_33 : decode cX3_copyFrom 33 = .ok (.aload_n 1, 1) := by decide +kernel
theorem dX3_copyFrom_34 : decode cX3_copyFrom 34 = .ok (.getfield 24, 3) := by decide +kernel
theorem dX3_copyFrom_37 : decode cX3_copyFrom 37 = .ok (.putfield 24, 3) := by decide +kernel
theorem dX3_copyFrom_40 : decode cX3_copyFrom 40 = .ok (.aload_n 1, 1) := by decide +kernel
theorem dX3_copyFrom_41 : decode cX3_copyFrom 41 = .ok (.getfield 27, 3) := by decide +kernel
theorem dX3_copyFrom_44 : decode cX3_copyFrom 44 = .ok (.iconst 0, 1) := by decide +kernel
theorem dX3_copyFrom_45 : decode cX3_copyFrom 45 = .ok (.aload_n 0, 1) := by decide +kernel
theorem dX3_copyFrom_46 : decode cX3_copyFrom 46 = .ok (.getfield 27, 3) := by decide +kernel
theorem dX3_copyFrom_49 : decode cX3_copyFrom 49 = .ok (.iconst 0, 1) := by decide +kernel
theorem dX3_copyFrom_50 : decode cX3_copyFrom 50 = .ok (.bipush 6, 2) := by decide +kernel
theorem dX3_copyFrom_52 : decode cX3_copyFrom 52 = .ok (.invokestatic 46, 3) := by decide +kernel
theorem dX3_copyFrom_55 : decode cX3_copyFrom 55 = .ok (.aload_n 1, 1) := by decide +kernel
theorem dX3_copyFrom_56 : decode cX3_copyFrom 56 = .ok (.getfield 31, 3) := by decide +kernel
theorem dX3_copyFrom_59 : decode cX3_copyFrom 59 = .ok (.iconst 0, 1) := by decide +kernel
theorem dX3_copyFrom_60 : decode cX3_copyFrom 60 = .ok (.aload_n 0, 1) := by decide +kernel
theorem dX3_copyFrom_61 : decode cX3_copyFrom 61 = .ok (.getfield 31, 3) := by decide +kernel
theorem dX3_copyFrom_64 : decode cX3_copyFrom 64 = .ok (.iconst 0, 1) := by decide +kernel
theorem dX3_copyFrom_65 : decode cX3_copyFrom 65 = .ok (.bipush 6, 2) := by decide +kernel
theorem dX3_copyFrom_67 : decode cX3_copyFrom 67 = .ok (.invokestatic 46, 3) := by decide +kernel
theorem dX3_copyFrom_70 : decode cX3_copyFrom 70 = .ok (.aload_n 1, 1) := by decide +kernel
theorem dX3_copyFrom_71 : decode cX3_copyFrom 71 = .ok (.getfield 34, 3) := by decide +kernel
theorem dX3_copyFrom_74 : decode cX3_copyFrom 74 = .ok (.iconst 0, 1) := by decide +kernel
theorem dX3_copyFrom_75 : decode cX3_copyFrom 75 = .ok (.aload_n 0, 1) := by decide +kernel
theorem dX3_copyFrom_76 : decode cX3_copyFrom 76 = .ok (.getfield 34, 3) := by decide +kernel
theorem dX3_copyFrom_79 : decode cX3_copyFrom 79 = .ok (.iconst 0, 1) := by decide +kernel
theorem dX3_copyFrom_80 : decode cX3_copyFrom 80 = .ok (.bipush 12, 2) := by decide +kernel
theorem dX3_copyFrom_82 : decode cX3_copyFrom 82 = .ok (.invokestatic 46, 3) := by decide +kernel
theorem dX3_copyFrom_85 : decode cX3_copyFrom 85 = .ok (.aload_n 1, 1) := by decide +kernel
theorem dX3_copyFrom_86 : decode cX3_copyFrom 86 = .ok (.getfield 37, 3) := by decide +kernel
theorem dX3_copyFrom_89 : decode cX3_copyFrom 89 = .ok (.iconst 0, 1) := by decide +kernel
theorem dX3_copyFrom_90 : decode cX3_copyFrom 90 = .ok (.aload_n 0, 1) := by decide +kernel
theorem dX3_copyFrom_91 : decode cX3_copyFrom 91 = .ok (.getfield 37, 3) := by decide +kernel
theorem dX3_copyFrom_94 : decode cX3_copyFrom 94 = .ok (.iconst 0, 1) := by decide +kernel
theorem dX3_copyFrom_95 : decode cX3_copyFrom 95 = .ok (.bipush 12, 2) := by decide +kernel
theorem dX3_copyFrom_97 : decode cX3_copyFrom 97 = .ok (.invokestatic 46, 3) := by decide +kernel
theorem dX3_copyFrom_100 : decode cX3_copyFrom 100 = .ok (.aload_n 1, 1) := by decide +kernel
theorem dX3_copyFrom_101 : decode cX3_copyFrom 101 = .ok (.getfield 40, 3) := by decide +kernel
theorem dX3_copyFrom_104 : decode cX3_copyFrom 104 = .ok (.iconst 0, 1) := by decide +kernel
theorem dX3_copyFrom_105 : decode cX3_copyFrom 105 = .ok (.aload_n 0, 1) := by decide +kernel
theorem dX3_copyFrom_106 : decode cX3_copyFrom 106 = .ok (.getfield 40, 3) := by decide +kernel
theorem dX3_copyFrom_109 : decode cX3_copyFrom 109 = .ok (.iconst 0, 1) := by decide +kernel
theorem dX3_copyFrom_110 : decode cX3_copyFrom 110 = .ok (.bipush 12, 2) := by decide +kernel
theorem dX3_copyFrom_112 : decode cX3_copyFrom 112 = .ok (.invokestatic 46, 3) := by decide +kernel
theorem dX3_copyFrom_115 : decode cX3_copyFrom 115 = .ok (.aload_n 1, 1) := by decide +kernel
theorem dX3_copyFrom_116 : decode cX3_copyFrom 116 = .ok (.getfield 43, 3) := by decide +kernel
theorem dX3_copyFrom_119 : decode cX3_copyFrom 119 = .ok (.iconst 0, 1) := by decide +kernel
theorem dX3_copyFrom_120 : decode cX3_copyFrom 120 = .ok (.aload_n 0, 1) := by decide +kernel
theorem dX3_copyFrom_121 : decode cX3_copyFrom 121 = .ok (.getfield 43, 3) := by decide +kernel
theorem dX3_copyFrom_124 : decode cX3_copyFrom 124 = .ok (.iconst 0, 1) := by decide +kernel
theorem dX3_copyFrom_125 : decode cX3_copyFrom 125 = .ok (.bipush 12, 2) := by decide +kernel
theorem dX3_copyFrom_127 : decode cX3_copyFrom 127 = .ok (.invokestatic 46, 3) := by decide +kernel
theorem dX3_copyFrom_130 : decode cX3_copyFrom 130 = .ok (.return_, 1) := by decide +kernel
theorem dX3_addPerson_0 : decode cX3_addPerson 0 = .ok (.aload_n 0, 1) := by decide +kernel
theorem dX3_addPerson_1 : decode cX3_addPerson 1 = .ok (.getfield 9, 3) := by decide +kernel
theorem dX3_addPerson_4 : decode cX3_addPerson 4 = .ok (.bipush 6, 2) := by decide +kernel
theorem dX3_addPerson_6 : decode cX3_addPerson 6 = .ok (.if_icmp .lt 4, 3) := by decide +kernel
theorem dX3_addPerson_9 : decode cX3_addPerson 9 = .ok (.return_, 1) := by decide +kernel
theorem dX3_addPerson_10 : decode cX3_addPerson 10 = .ok (.aload_n 0, 1) := by decide +kernel
theorem dX3_addPerson_11 : decode cX3_addPerson 11 = .ok (.getfield 27, 3) := by decide +kernel
theorem dX3_addPerson_14 : decode cX3_addPerson 14 = .ok (.aload_n 0, 1) := by decide +kernel
theorem dX3_addPerson_15 : decode cX3_addPerson 15 = .ok (.getfield 9, 3) := by decide +kernel
theorem dX3_addPerson_18 : decode cX3_addPerson 18 = .ok (.iload_n 1, 1) := by decide +kernel
theorem dX3_addPerson_19 : decode cX3_addPerson 19 = .ok (.iastore, 1) := by decide +kernel
theorem dX3_addPerson_20 : decode cX3_addPerson 20 = .ok (.aload_n 0, 1) := by decide +kernel
theorem dX3_addPerson_21 : decode cX3_addPerson 21 = .ok (.getfield 31, 3) := by decide +kernel
theorem dX3_addPerson_24 : decode cX3_addPerson 24 = .ok (.aload_n 0, 1) := by decide +kernel
theorem dX3_addPerson_25 : decode cX3_addPerson 25 = .ok (.getfield 9, 3) := by decide +kernel
theorem dX3_addPerson_28 : decode cX3_addPerson 28 = .ok (.iload_n 2, 1) := by decide +kernel
theorem dX3_addPerson_29 : decode cX3_addPerson 29 = .ok (.iastore, 1) := by decide +kernel
theorem dX3_addPerson_30 : decode cX3_addPerson 30 = .ok (.aload_n 0, 1) := by decide +kernel
theorem dX3_addPerson_31 : decode cX3_addPerson 31 = .ok (.dup, 1) := by decide +kernel
theorem dX3_addPerson_32 : decode cX3_addPerson 32 = .ok (.getfield 21, 3) := by decide +kernel
theorem dX3_addPerson_35 : decode cX3_addPerson 35 = .ok (.iconst 1, 1) := by decide +kernel
theorem dX3_addPerson_36 : decode cX3_addPerson 36 = .ok (.aload_n 0, 1) := by decide +kernel
theorem dX3_addPerson_37 : decode cX3_addPerson 37 = .ok (.getfield 9, 3) := by decide +kernel
theorem dX3_addPerson_40 : decode cX3_addPerson 40 = .ok (.ishl, 1) := by decide +kernel
theorem dX3_addPerson_41 : decode cX3_addPerson 41 = .ok (.ior, 1) := by decide +kernel
theorem dX3_addPerson_42 : decode cX3_addPerson 42 = .ok (.putfield 21, 3) := by decide +kernel
theorem dX3_addPerson_45 : decode cX3_addPerson 45 = .ok (.aload_n 0, 1) := by decide +kernel
theorem dX3_addPerson_46 : decode cX3_addPerson 46 = .ok (.dup, 1) := by decide +kernel
theorem dX3_addPerson_47 : decode cX3_addPerson 47 = .ok (.getfield 9, 3) := by decide +kernel
theorem dX3_addPerson_50 : decode cX3_addPerson 50 = .ok (.iconst 1, 1) := by decide +kernel
theorem dX3_addPerson_51 : decode cX3_addPerson 51 = .ok (.iadd, 1) := by decide +kernel
theorem dX3_addPerson_52 : decode cX3_addPerson 52 = .ok (.putfield 9, 3) := by decide +kernel
theorem dX3_addPerson_55 : decode cX3_addPerson 55 = .ok (.return_, 1) := by decide +kernel
set_option maxRecDepth 20000 in
theorem ggX3_addDebt_X3_has : GoodIn wsX3_addDebt wsX3_has := goodIn_r _ [10, 11, 12, 13, 14, 15, 16, 17, 18, 19, 20, 21, 22] (by decide +kernel) (by decide +kernel)
set_option maxRecDepth 20000 in
theorem gX3_addDebt_X3_has : GoodIn wsX3_addDebt (wsV RX3 52 RX3 yX3_has wsX3_has) := goodIn_app (goodIn_of _ (by decide +kernel)) ggX3_addDebt_X3_has
theorem dX3_addDebt_0 : decode cX3_addDebt 0 = .ok (.aload_n 0, 1) := by decide +kernel
theorem dX3_addDebt_1 : decode cX3_addDebt 1 = .ok (.getfield 15, 3) := by decide +kernel
theorem dX3_addDebt_4 : decode cX3_addDebt 4 = .ok (.bipush 12, 2) := by decide +kernel
theorem dX3_addDebt_6 : decode cX3_addDebt 6 = .ok (.if_icmp .ge 19, 3) := by decide +kernel
theorem dX3_addDebt_9 : decode cX3_addDebt 9 = .ok (.aload_n 0, 1) := by decide +kernel
theorem dX3_addDebt_10 : decode cX3_addDebt 10 = .ok (.iload_n 1, 1) := by decide +kernel
theorem dX3_addDebt_11 : decode cX3_addDebt 11 = .ok (.invokevirtual 52, 3) := by decide +kernel
theorem dX3_addDebt_14 : decode cX3_addDebt 14 = .ok (.ifCond .eq 11, 3) := by decide +kernel
theorem dX3_addDebt_17 : decode cX3_addDebt 17 = .ok (.aload_n 0, 1) := by decide +kernel
theorem dX3_addDebt_18 : decode cX3_addDebt 18 = .ok (.iload_n 2, 1) := by decide +kernel
theorem dX3_addDebt_19 : decode cX3_addDebt 19 = .ok (.invokevirtual 52, 3) := by decide +kernel
theorem dX3_addDebt_22 : decode cX3_addDebt 22 = .ok (.ifCond .ne 4, 3) := by decide +kernel
theorem dX3_addDebt_25 : decode cX3_addDebt 25 = .ok (.return_, 1) := by decide +kernel
theorem dX3_addDebt_26 : decode cX3_addDebt 26 = .ok (.aload_n 0, 1) := by decide +kernel
theorem dX3_addDebt_27 : decode cX3_addDebt 27 = .ok (.getfield 34, 3) := by decide +kernel
theorem dX3_addDebt_30 : decode cX3_addDebt 30 = .ok (.aload_n 0, 1) := by decide +kernel
theorem dX3_addDebt_31 : decode cX3_addDebt 31 = .ok (.getfield 15, 3) := by decide +kernel
theorem dX3_addDebt_34 : decode cX3_addDebt 34 = .ok (.iload_n 1, 1) := by decide +kernel
theorem dX3_addDebt_35 : decode cX3_addDebt 35 = .ok (.iastore, 1) := by decide +kernel
theorem dX3_addDebt_36 : decode cX3_addDebt 36 = .ok (.aload_n 0, 1) := by decide +kernel
theorem dX3_addDebt_37 : decode cX3_addDebt 37 = .ok (.getfield 37, 3) := by decide +kernel
theorem dX3_addDebt_40 : decode cX3_addDebt 40 = .ok (.aload_n 0, 1) := by decide +kernel
theorem dX3_addDebt_41 : decode cX3_addDebt 41 = .ok (.getfield 15, 3) := by decide +kernel
theorem dX3_addDebt_44 : decode cX3_addDebt 44 = .ok (.iload_n 2, 1) := by decide +kernel
theorem dX3_addDebt_45 : decode cX3_addDebt 45 = .ok (.iastore, 1) := by decide +kernel
theorem dX3_addDebt_46 : decode cX3_addDebt 46 = .ok (.aload_n 0, 1) := by decide +kernel
theorem dX3_addDebt_47 : decode cX3_addDebt 47 = .ok (.getfield 40, 3) := by decide +kernel
theorem dX3_addDebt_50 : decode cX3_addDebt 50 = .ok (.aload_n 0, 1) := by decide +kernel
theorem dX3_addDebt_51 : decode cX3_addDebt 51 = .ok (.getfield 15, 3) := by decide +kernel
theorem dX3_addDebt_54 : decode cX3_addDebt 54 = .ok (.iload_n 3, 1) := by decide +kernel
theorem dX3_addDebt_55 : decode cX3_addDebt 55 = .ok (.iastore, 1) := by decide +kernel
theorem dX3_addDebt_56 : decode cX3_addDebt 56 = .ok (.aload_n 0, 1) := by decide +kernel
theorem dX3_addDebt_57 : decode cX3_addDebt 57 = .ok (.getfield 43, 3) := by decide +kernel
theorem dX3_addDebt_60 : decode cX3_addDebt 60 = .ok (.aload_n 0, 1) := by decide +kernel
theorem dX3_addDebt_61 : decode cX3_addDebt 61 = .ok (.getfield 15, 3) := by decide +kernel
theorem dX3_addDebt_64 : decode cX3_addDebt 64 = .ok (.iload 4, 2) := by decide +kernel
theorem dX3_addDebt_66 : decode cX3_addDebt 66 = .ok (.iastore, 1) := by decide +kernel
theorem dX3_addDebt_67 : decode cX3_addDebt 67 = .ok (.aload_n 0, 1) := by decide +kernel
theorem dX3_addDebt_68 : decode cX3_addDebt 68 = .ok (.dup, 1) := by decide +kernel
theorem dX3_addDebt_69 : decode cX3_addDebt 69 = .ok (.getfield 15, 3) := by decide +kernel
theorem dX3_addDebt_72 : decode cX3_addDebt 72 = .ok (.iconst 1, 1) := by decide +kernel
theorem dX3_addDebt_73 : decode cX3_addDebt 73 = .ok (.iadd, 1) := by decide +kernel
theorem dX3_addDebt_74 : decode cX3_addDebt 74 = .ok (.putfield 15, 3) := by decide +kernel
theorem dX3_addDebt_77 : decode cX3_addDebt 77 = .ok (.return_, 1) := by decide +kernel
theorem dX3_moveDebt_0 : decode cX3_moveDebt 0 = .ok (.aload_n 0, 1) := by decide +kernel
theorem dX3_moveDebt_1 : decode cX3_moveDebt 1 = .ok (.getfield 34, 3) := by decide +kernel
theorem dX3_moveDebt_4 : decode cX3_moveDebt 4 = .ok (.iload_n 2, 1) := by decide +kernel
theorem dX3_moveDebt_5 : decode cX3_moveDebt 5 = .ok (.aload_n 0, 1) := by decide +kernel
theorem dX3_moveDebt_6 : decode cX3_moveDebt 6 = .ok (.getfield 34, 3) := by decide +kernel
theorem dX3_moveDebt_9 : decode cX3_moveDebt 9 = .ok (.iload_n 1, 1) := by decide +kernel
theorem dX3_moveDebt_10 : decode cX3_moveDebt 10 = .ok (.iaload, 1) := by decide +kernel
theorem dX3_moveDebt_11 : decode cX3_moveDebt 11 = .ok (.iastore, 1) := by decide +kernel
theorem dX3_moveDebt_12 : decode cX3_moveDebt 12 = .ok (.aload_n 0, 1) := by decide +kernel
theorem dX3_moveDebt_13 : decode cX3_moveDebt 13 = .ok (.getfield 37, 3) := by decide +kernel
theorem dX3_moveDebt_16 : decode cX3_moveDebt 16 = .ok (.iload_n 2, 1) := by decide +kernel
theorem dX3_moveDebt_17 : decode cX3_moveDebt 17 = .ok (.aload_n 0, 1) := by decide +kernel
theorem dX3_moveDebt_18 : decode cX3_moveDebt 18 = .ok (.getfield 37, 3) := by decide +kernel
theorem dX3_moveDebt_21 : decode cX3_moveDebt 21 = .ok (.iload_n 1, 1) := by decide +kernel
theorem dX3_moveDebt_22 : decode cX3_moveDebt 22 = .ok (.iaload, 1) := by decide +kernel
theorem dX3_moveDebt_23 : decode cX3_moveDebt 23 = .ok (.iastore, 1) := by decide +kernel
theorem dX3_moveDebt_24 : decode cX3_moveDebt 24 = .ok (.aload_n 0, 1) := by decide +kernel
theorem dX3_moveDebt_25 : decode cX3_moveDebt 25 = .ok (.getfield 40, 3) := by decide +kernel
theorem dX3_moveDebt_28 : decode cX3_moveDebt 28 = .ok (.iload_n 2, 1) := by decide +kernel
theorem dX3_moveDebt_29 : decode cX3_moveDebt 29 = .ok (.aload_n 0, 1) := by decide +kernel
theorem dX3_moveDebt_30 : decode cX3_moveDebt 30 = .ok (.getfield 40, 3) := by decide +kernel
theorem dX3_moveDebt_33 : decode cX3_moveDebt 33 = .ok (.iload_n 1, 1) := by decide +kernel
theorem dX3_moveDebt_34 : decode cX3_moveDebt 34 = .ok (.iaload, 1) := by decide +kernel
theorem dX3_moveDebt_35 : decode cX3_moveDebt 35 = .ok (.iastore, 1) := by decide +kernel
theorem dX3_moveDebt_36 : decode cX3_moveDebt 36 = .ok (.aload_n 0, 1) := by decide +kernel
theorem dX3_moveDebt_37 : decode cX3_moveDebt 37 = .ok (.getfield 43, 3) := by decide +kernel
theorem dX3_moveDebt_40 : decode cX3_moveDebt 40 = .ok (.iload_n 2, 1) := by decide +kernel
theorem dX3_moveDebt_41 : decode cX3_moveDebt 41 = .ok (.aload_n 0, 1) := by decide +kernel
theorem dX3_moveDebt_42 : decode cX3_moveDebt 42 = .ok (.getfield 43, 3) := by decide +kernel
theorem dX3_moveDebt_45 : decode cX3_moveDebt 45 = .ok (.iload_n 1, 1) := by decide +kernel
theorem dX3_moveDebt_46 : decode cX3_moveDebt 46 = .ok (.iaload, 1) := by decide +kernel
theorem dX3_moveDebt_47 : decode cX3_moveDebt 47 = .ok (.iastore, 1) := by decide +kernel
theorem dX3_moveDebt_48 : decode cX3_moveDebt 48 = .ok (.return_, 1) := by decide +kernel
theorem dX3_has_0 : decode cX3_has 0 = .ok (.iload_n 1, 1) := by decide +kernel
theorem dX3_has_1 : decode cX3_has 1 = .ok (.ifCond .lt 21, 3) := by decide +kernel
theorem dX3_has_4 : decode cX3_has 4 = .ok (.iload_n 1, 1) := by decide +kernel
theorem dX3_has_5 : decode cX3_has 5 = .ok (.aload_n 0, 1) := by decide +kernel
theorem dX3_has_6 : decode cX3_has 6 = .ok (.getfield 9, 3) := by decide +kernel
theorem dX3_has_9 : decode cX3_has 9 = .ok (.if_icmp .ge 13, 3) := by decide +kernel

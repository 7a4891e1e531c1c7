theorem dX4_lentBy_52 : decode cX4_lentBy 52 = .ok (.istore 5, 2) := by decide +kernel
theorem dX4_lentBy_54 : decode cX4_lentBy 54 = .ok (.iload 4, 2) := by decide +kernel
theorem dX4_lentBy_56 : decode cX4_lentBy 56 = .ok (.iload 5, 2) := by decide +kernel
theorem dX4_lentBy_58 : decode cX4_lentBy 58 = .ok (.isub, 1) := by decide +kernel
theorem dX4_lentBy_59 : decode cX4_lentBy 59 = .ok (.istore 4, 2) := by decide +kernel
theorem dX4_lentBy_61 : decode cX4_lentBy 61 = .ok (.iinc 6 1, 3) := by decide +kernel
theorem dX4_lentBy_64 : decode cX4_lentBy 64 = .ok (.goto (-42), 3) := by decide +kernel
theorem dX4_lentBy_67 : decode cX4_lentBy 67 = .ok (.iload 5, 2) := by decide +kernel
theorem dX4_lentBy_69 : decode cX4_lentBy 69 = .ok (.ireturn, 1) := by decide +kernel
set_option maxRecDepth 20000 in
theorem ggX4_fewestOf_X9_askedFor : GoodIn wsX4_fewestOf wsX9_askedFor := goodIn_r _ [5] (by decide +kernel) (by decide +kernel)
set_option maxRecDepth 20000 in
theorem gX4_fewestOf_X9_askedFor_n41 : GoodIn wsX4_fewestOf (wsX9_askedFor) := ggX4_fewestOf_X9_askedFor
theorem dX4_fewestOf_0 : decode cX4_fewestOf 0 = .ok (.iconst 0, 1) := by decide +kernel
theorem dX4_fewestOf_1 : decode cX4_fewestOf 1 = .ok (.istore 4, 2) := by decide +kernel
theorem dX4_fewestOf_3 : decode cX4_fewestOf 3 = .ok (.iload 4, 2) := by decide +kernel
theorem dX4_fewestOf_5 : decode cX4_fewestOf 5 = .ok (.iload_n 3, 1) := by decide +kernel
theorem dX4_fewestOf_6 : decode cX4_fewestOf 6 = .ok (.if_icmp .gt 54, 3) := by decide +kernel
theorem dX4_fewestOf_9 : decode cX4_fewestOf 9 = .ok (.iload 4, 2) := by decide +kernel
theorem dX4_fewestOf_11 : decode cX4_fewestOf 11 = .ok (.aload_n 0, 1) := by decide +kernel
theorem dX4_fewestOf_12 : decode cX4_fewestOf 12 = .ok (.getfield 16, 3) := by decide +kernel
theorem dX4_fewestOf_15 : decode cX4_fewestOf 15 = .ok (.iload_n 1, 1) := by decide +kernel
theorem dX4_fewestOf_16 : decode cX4_fewestOf 16 = .ok (.iaload, 1) := by decide +kernel
theorem dX4_fewestOf_17 : decode cX4_fewestOf 17 = .ok (.if_icmp .gt 43, 3) := by decide +kernel
theorem dX4_fewestOf_20 : decode cX4_fewestOf 20 = .ok (.iload 4, 2) := by decide +kernel
theorem dX4_fewestOf_22 : decode cX4_fewestOf 22 = .ok (.iload_n 2, 1) := by decide +kernel
theorem dX4_fewestOf_23 : decode cX4_fewestOf 23 = .ok (.invokestatic 41, 3) := by decide +kernel
theorem dX4_fewestOf_26 : decode cX4_fewestOf 26 = .ok (.aload_n 0, 1) := by decide +kernel
theorem dX4_fewestOf_27 : decode cX4_fewestOf 27 = .ok (.getfield 13, 3) := by decide +kernel
theorem dX4_fewestOf_30 : decode cX4_fewestOf 30 = .ok (.iload_n 1, 1) := by decide +kernel
theorem dX4_fewestOf_31 : decode cX4_fewestOf 31 = .ok (.iconst 1, 1) := by decide +kernel
theorem dX4_fewestOf_32 : decode cX4_fewestOf 32 = .ok (.iadd, 1) := by decide +kernel
theorem dX4_fewestOf_33 : decode cX4_fewestOf 33 = .ok (.aaload, 1) := by decide +kernel
theorem dX4_fewestOf_34 : decode cX4_fewestOf 34 = .ok (.iload_n 3, 1) := by decide +kernel
theorem dX4_fewestOf_35 : decode cX4_fewestOf 35 = .ok (.iload 4, 2) := by decide +kernel
theorem dX4_fewestOf_37 : decode cX4_fewestOf 37 = .ok (.isub, 1) := by decide +kernel
theorem dX4_fewestOf_38 : decode cX4_fewestOf 38 = .ok (.iaload, 1) := by decide +kernel
theorem dX4_fewestOf_39 : decode cX4_fewestOf 39 = .ok (.iadd, 1) := by decide +kernel
theorem dX4_fewestOf_40 : decode cX4_fewestOf 40 = .ok (.aload_n 0, 1) := by decide +kernel
theorem dX4_fewestOf_41 : decode cX4_fewestOf 41 = .ok (.getfield 13, 3) := by decide +kernel
theorem dX4_fewestOf_44 : decode cX4_fewestOf 44 = .ok (.iload_n 1, 1) := by decide +kernel
theorem dX4_fewestOf_45 : decode cX4_fewestOf 45 = .ok (.aaload, 1) := by decide +kernel
theorem dX4_fewestOf_46 : decode cX4_fewestOf 46 = .ok (.iload_n 3, 1) := by decide +kernel
theorem dX4_fewestOf_47 : decode cX4_fewestOf 47 = .ok (.iaload, 1) := by decide +kernel
theorem dX4_fewestOf_48 : decode cX4_fewestOf 48 = .ok (.if_icmp .ne 6, 3) := by decide +kernel
theorem dX4_fewestOf_51 : decode cX4_fewestOf 51 = .ok (.iload 4, 2) := by decide +kernel
theorem dX4_fewestOf_53 : decode cX4_fewestOf 53 = .ok (.ireturn, 1) := by decide +kernel
theorem dX4_fewestOf_54 : decode cX4_fewestOf 54 = .ok (.iinc 4 1, 3) := by decide +kernel
theorem dX4_fewestOf_57 : decode cX4_fewestOf 57 = .ok (.goto (-54), 3) := by decide +kernel
theorem dX4_fewestOf_60 : decode cX4_fewestOf 60 = .ok (.iconst 0, 1) := by decide +kernel
theorem dX4_fewestOf_61 : decode cX4_fewestOf 61 = .ok (.ireturn, 1) := by decide +kernel
theorem dX5_init_0 : decode cX5_init 0 = .ok (.aload_n 0, 1) := by decide +kernel
theorem dX5_init_1 : decode cX5_init 1 = .ok (.invokespecial 3, 3) := by decide +kernel
theorem dX5_init_4 : decode cX5_init 4 = .ok (.aload_n 0, 1) := by decide +kernel
theorem dX5_init_5 : decode cX5_init 5 = .ok (.bipush 6, 2) := by decide +kernel
theorem dX5_init_7 : decode cX5_init 7 = .ok (.newarray .int, 2) := by decide +kernel
theorem dX5_init_9 : decode cX5_init 9 = .ok (.putfield 9, 3) := by decide +kernel
theorem dX5_init_12 : decode cX5_init 12 = .ok (.return_, 1) := by decide +kernel
set_option maxRecDepth 20000 in
theorem ggX5_fewestDebts_X5_measure : GoodIn wsX5_fewestDebts wsX5_measure := goodIn_r _ [13, 3, 1, 2, 4, 5, 6, 7, 8, 25, 14, 15, 16, 17, 18, 19, 20, 21, 22, 23, 24] (by decide +kernel) (by decide +kernel)
set_option maxRecDepth 20000 in
theorem gX5_fewestDebts_X5_measure : GoodIn wsX5_fewestDebts (wsV RX5 15 RX5 yX5_measure wsX5_measure) := goodIn_app (goodIn_of _ (by decide +kernel)) ggX5_fewestDebts_X5_measure
theorem dX5_fewestDebts_0 : decode cX5_fewestDebts 0 = .ok (.aload_n 0, 1) := by decide +kernel
theorem dX5_fewestDebts_1 : decode cX5_fewestDebts 1 = .ok (.aload_n 1, 1) := by decide +kernel
theorem dX5_fewestDebts_2 : decode cX5_fewestDebts 2 = .ok (.iload_n 2, 1) := by decide +kernel
theorem dX5_fewestDebts_3 : decode cX5_fewestDebts 3 = .ok (.invokevirtual 15, 3) := by decide +kernel
theorem dX5_fewestDebts_6 : decode cX5_fewestDebts 6 = .ok (.sipush 1000, 3) := by decide +kernel
theorem dX5_fewestDebts_9 : decode cX5_fewestDebts 9 = .ok (.istore_n 3, 1) := by decide +kernel
theorem dX5_fewestDebts_10 : decode cX5_fewestDebts 10 = .ok (.iconst 0, 1) := by decide +kernel
theorem dX5_fewestDebts_11 : decode cX5_fewestDebts 11 = .ok (.istore 4, 2) := by decide +kernel
theorem dX5_fewestDebts_13 : decode cX5_fewestDebts 13 = .ok (.iload 4, 2) := by decide +kernel
theorem dX5_fewestDebts_15 : decode cX5_fewestDebts 15 = .ok (.aload_n 1, 1) := by decide +kernel
theorem dX5_fewestDebts_16 : decode cX5_fewestDebts 16 = .ok (.getfield 19, 3) := by decide +kernel
theorem dX5_fewestDebts_19 : decode cX5_fewestDebts 19 = .ok (.if_icmp .ge 39, 3) := by decide +kernel
theorem dX5_fewestDebts_22 : decode cX5_fewestDebts 22 = .ok (.aload_n 1, 1) := by decide +kernel
theorem dX5_fewestDebts_23 : decode cX5_fewestDebts 23 = .ok (.getfield 25, 3) := by decide +kernel
theorem dX5_fewestDebts_26 : decode cX5_fewestDebts 26 = .ok (.iload 4, 2) := by decide +kernel
theorem dX5_fewestDebts_28 : decode cX5_fewestDebts 28 = .ok (.iaload, 1) := by decide +kernel
theorem dX5_fewestDebts_29 : decode cX5_fewestDebts 29 = .ok (.iload_n 2, 1) := by decide +kernel
theorem dX5_fewestDebts_30 : decode cX5_fewestDebts 30 = .ok (.if_icmp .ne 22, 3) := by decide +kernel
theorem dX5_fewestDebts_33 : decode cX5_fewestDebts 33 = .ok (.iload_n 3, 1) := by decide +kernel
theorem dX5_fewestDebts_34 : decode cX5_fewestDebts 34 = .ok (.aload_n 0, 1) := by decide +kernel
theorem dX5_fewestDebts_35 : decode cX5_fewestDebts 35 = .ok (.getfield 9, 3) := by decide +kernel
theorem dX5_fewestDebts_38 : decode cX5_fewestDebts 38 = .ok (.aload_n 1, 1) := by decide +kernel
theorem dX5_fewestDebts_39 : decode cX5_fewestDebts 39 = .ok (.getfield 28, 3) := by decide +kernel
theorem dX5_fewestDebts_42 : decode cX5_fewestDebts 42 = .ok (.iload 4, 2) := by decide +kernel
theorem dX5_fewestDebts_44 : decode cX5_fewestDebts 44 = .ok (.iaload, 1) := by decide +kernel
theorem dX5_fewestDebts_45 : decode cX5_fewestDebts 45 = .ok (.iaload, 1) := by decide +kernel
theorem dX5_fewestDebts_46 : decode cX5_fewestDebts 46 = .ok (.iconst 1, 1) := by decide +kernel
theorem dX5_fewestDebts_47 : decode cX5_fewestDebts 47 = .ok (.iadd, 1) := by decide +kernel
theorem dX5_fewestDebts_48 : decode cX5_fewestDebts 48 = .ok (.invokestatic 31, 3) := by decide +kernel
theorem dX5_fewestDebts_51 : decode cX5_fewestDebts 51 = .ok (.istore_n 3, 1) := by decide +kernel
theorem dX5_fewestDebts_52 : decode cX5_fewestDebts 52 = .ok (.iinc 4 1, 3) := by decide +kernel
theorem dX5_fewestDebts_55 : decode cX5_fewestDebts 55 = .ok (.goto (-42), 3) := by decide +kernel
theorem dX5_fewestDebts_58 : decode cX5_fewestDebts 58 = .ok (.iload_n 3, 1) := by decide +kernel
theorem dX5_fewestDebts_59 : decode cX5_fewestDebts 59 = .ok (.sipush 1000, 3) := by decide +kernel
theorem dX5_fewestDebts_62 : decode cX5_fewestDebts 62 = .ok (.if_icmp .ge 7, 3) := by decide +kernel
theorem dX5_fewestDebts_65 : decode cX5_fewestDebts 65 = .ok (.iload_n 3, 1) := by decide +kernel
theorem dX5_fewestDebts_66 : decode cX5_fewestDebts 66 = .ok (.goto 5, 3) := by decide +kernel
theorem dX5_fewestDebts_69 : decode cX5_fewestDebts 69 = .ok (.bipush (-9), 2) := by decide +kernel
theorem dX5_fewestDebts_71 : decode cX5_fewestDebts 71 = .ok (.ireturn, 1) := by decide +kernel
set_option maxRecDepth 20000 in
theorem ggX5_leastAmount_X5_fewestDebts : GoodIn wsX5_leastAmount wsX5_fewestDebts := goodIn_r _ [11, 12, 13, 14, 6, 2, 3, 4, 5, 15, 16, 17, 10, 18, 23, 24, 25, 26, 27, 28, 29, 30, 31, 32, 33, 34] (by decide +kernel) (by decide +kernel)
set_option maxRecDepth 20000 in
theorem gX5_leastAmount_X5_fewestDebts : GoodIn wsX5_leastAmount (wsV RX5 37 RX5 yX5_fewestDebts wsX5_fewestDebts) := goodIn_app (goodIn_of _ (by decide +kernel)) ggX5_leastAmount_X5_fewestDebts
set_option maxRecDepth 20000 in
theorem ggX5_leastAmount_X5_firstDebt : GoodIn wsX5_leastAmount wsX5_firstDebt := goodIn_r _ [22, 12, 13, 14, 6, 23, 24, 25, 26, 27, 28, 29, 30, 31, 32, 33, 34] (by decide +kernel) (by decide +kernel)
set_option maxRecDepth 20000 in
theorem gX5_leastAmount_X5_firstDebt : GoodIn wsX5_leastAmount (wsV RX5 41 RX5 yX5_firstDebt wsX5_firstDebt) := goodIn_app (goodIn_of _ (by decide +kernel)) ggX5_leastAmount_X5_firstDebt
theorem dX5_leastAmount_0 : decode cX5_leastAmount 0 = .ok (.aload_n 0, 1) := by decide +kernel
theorem dX5_leastAmount_1 : decode cX5_leastAmount 1 = .ok (.aload_n 1, 1) := by decide +kernel
theorem dX5_leastAmount_2 : decode cX5_leastAmount 2 = .ok (.iload_n 2, 1) := by decide +kernel
theorem dX5_leastAmount_3 : decode cX5_leastAmount 3 = .ok (.invokevirtual 37, 3) := by decide +kernel
theorem dX5_leastAmount_6 : decode cX5_leastAmount 6 = .ok (.istore_n 3, 1) := by decide +kernel
theorem dX5_leastAmount_7 : decode cX5_leastAmount 7 = .ok (.iload_n 3, 1) := by decide +kernel
theorem dX5_leastAmount_8 : decode cX5_leastAmount 8 = .ok (.bipush (-9), 2) := by decide +kernel
theorem dX5_leastAmount_10 : decode cX5_leastAmount 10 = .ok (.if_icmp .ne 6, 3) := by decide +kernel
theorem dX5_leastAmount_13 : decode cX5_leastAmount 13 = .ok (.bipush (-9), 2) := by decide +kernel
theorem dX5_leastAmount_15 : decode cX5_leastAmount 15 = .ok (.ireturn, 1) := by decide +kernel
theorem dX5_leastAmount_16 : decode cX5_leastAmount 16 = .ok (.iload_n 2, 1) := by decide +kernel
theorem dX5_leastAmount_17 : decode cX5_leastAmount 17 = .ok (.istore 4, 2) := by decide +kernel
theorem dX5_leastAmount_19 : decode cX5_leastAmount 19 = .ok (.sipush 1000, 3) := by decide +kernel
theorem dX5_leastAmount_22 : decode cX5_leastAmount 22 = .ok (.istore 5, 2) := by decide +kernel
theorem dX5_leastAmount_24 : decode cX5_leastAmount 24 = .ok (.iconst 0, 1) := by decide +kernel
theorem dX5_leastAmount_25 : decode cX5_leastAmount 25 = .ok (.istore 6, 2) := by decide +kernel
theorem dX5_leastAmount_27 : decode cX5_leastAmount 27 = .ok (.iload 6, 2) := by decide +kernel
theorem dX5_leastAmount_29 : decode cX5_leastAmount 29 = .ok (.bipush 6, 2) := by decide +kernel
theorem dX5_leastAmount_31 : decode cX5_leastAmount 31 = .ok (.if_icmp .ge 59, 3) := by decide +kernel
theorem dX5_leastAmount_34 : decode cX5_leastAmount 34 = .ok (.iload_n 3, 1) := by decide +kernel
theorem dX5_leastAmount_35 : decode cX5_leastAmount 35 = .ok (.ifCond .le 55, 3) := by decide +kernel
theorem dX5_leastAmount_38 : decode cX5_leastAmount 38 = .ok (.iinc 3 (-1), 3) := by decide +kernel
theorem dX5_leastAmount_41 : decode cX5_leastAmount 41 = .ok (.aload_n 0, 1) := by decide +kernel
theorem dX5_leastAmount_42 : decode cX5_leastAmount 42 = .ok (.aload_n 1, 1) := by decide +kernel
theorem dX5_leastAmount_43 : decode cX5_leastAmount 43 = .ok (.iload 4, 2) := by decide +kernel
theorem dX5_leastAmount_45 : decode cX5_leastAmount 45 = .ok (.iload_n 3, 1) := by decide +kernel
theorem dX5_leastAmount_46 : decode cX5_leastAmount 46 = .ok (.invokevirtual 41, 3) := by decide +kernel
theorem dX5_leastAmount_49 : decode cX5_leastAmount 49 = .ok (.istore 7, 2) := by decide +kernel
theorem dX5_leastAmount_51 : decode cX5_leastAmount 51 = .ok (.iload 7, 2) := by decide +kernel
theorem dX5_leastAmount_53 : decode cX5_leastAmount 53 = .ok (.bipush (-9), 2) := by decide +kernel
theorem dX5_leastAmount_55 : decode cX5_leastAmount 55 = .ok (.if_icmp .ne 6, 3) := by decide +kernel
theorem dX5_leastAmount_58 : decode cX5_leastAmount 58 = .ok (.bipush (-9), 2) := by decide +kernel
theorem dX5_leastAmount_60 : decode cX5_leastAmount 60 = .ok (.ireturn, 1) := by decide +kernel
theorem dX5_leastAmount_61 : decode cX5_leastAmount 61 = .ok (.iload 5, 2) := by decide +kernel
theorem dX5_leastAmount_63 : decode cX5_leastAmount 63 = .ok (.aload_n 1, 1) := by decide +kernel
theorem dX5_leastAmount_64 : decode cX5_leastAmount 64 = .ok (.getfield 45, 3) := by decide +kernel
theorem dX5_leastAmount_67 : decode cX5_leastAmount 67 = .ok (.iload 7, 2) := by decide +kernel
theorem dX5_leastAmount_69 : decode cX5_leastAmount 69 = .ok (.iaload, 1) := by decide +kernel
theorem dX5_leastAmount_70 : decode cX5_leastAmount 70 = .ok (.invokestatic 31, 3) := by decide +kernel
theorem dX5_leastAmount_73 : decode cX5_leastAmount 73 = .ok (.istore 5, 2) := by decide +kernel
theorem dX5_leastAmount_75 : decode cX5_leastAmount 75 = .ok (.aload_n 1, 1) := by decide +kernel
theorem dX5_leastAmount_76 : decode cX5_leastAmount 76 = .ok (.getfield 28, 3) := by decide +kernel
theorem dX5_leastAmount_79 : decode cX5_leastAmount 79 = .ok (.iload 7, 2) := by decide +kernel
theorem dX5_leastAmount_81 : decode cX5_leastAmount 81 = .ok (.iaload, 1) := by decide +kernel
theorem dX5_leastAmount_82 : decode cX5_leastAmount 82 = .ok (.istore 4, 2) := by decide +kernel
theorem dX5_leastAmount_84 : decode cX5_leastAmount 84 = .ok (.iinc 6 1, 3) := by decide +kernel
theorem dX5_leastAmount_87 : decode cX5_leastAmount 87 = .ok (.goto (-60), 3) := by decide +kernel
theorem dX5_leastAmount_90 : decode cX5_leastAmount 90 = .ok (.iload 5, 2) := by decide +kernel
theorem dX5_leastAmount_92 : decode cX5_leastAmount 92 = .ok (.ireturn, 1) := by decide +kernel
theorem dX5_firstDebt_0 : decode cX5_firstDebt 0 = .ok (.iconst 0, 1) := by decide +kernel
theorem dX5_firstDebt_1 : decode cX5_firstDebt 1 = .ok (.istore 4, 2) := by decide +kernel
theorem dX5_firstDebt_3 : decode cX5_firstDebt 3 = .ok (.iload 4, 2) := by decide +kernel
theorem dX5_firstDebt_5 : decode cX5_firstDebt 5 = .ok (.aload_n 1, 1) := by decide +kernel
theorem dX5_firstDebt_6 : decode cX5_firstDebt 6 = .ok (.getfield 19, 3) := by decide +kernel
theorem dX5_firstDebt_9 : decode cX5_firstDebt 9 = .ok (.if_icmp .ge 39, 3) := by decide +kernel
theorem dX5_firstDebt_12 : decode cX5_firstDebt 12 = .ok (.aload_n 1, 1) := by decide +kernel
theorem dX5_firstDebt_13 : decode cX5_firstDebt 13 = .ok (.getfield 25, 3) := by decide +kernel
theorem dX5_firstDebt_16 : decode cX5_firstDebt 16 = .ok (.iload 4, 2) := by decide +kernel
theorem dX5_firstDebt_18 : decode cX5_firstDebt 18 = .ok (.iaload, 1) := by decide +kernel
theorem dX5_firstDebt_19 : decode cX5_firstDebt 19 = .ok (.iload_n 2, 1) := by decide +kernel
theorem dX5_firstDebt_20 : decode cX5_firstDebt 20 = .ok (.if_icmp .ne 22, 3) := by decide +kernel
theorem dX5_firstDebt_23 : decode cX5_firstDebt 23 = .ok (.aload_n 0, 1) := by decide +kernel
theorem dX5_firstDebt_24 : decode cX5_firstDebt 24 = .ok (.getfield 9, 3) := by decide +kernel
theorem dX5_firstDebt_27 : decode cX5_firstDebt 27 = .ok (.aload_n 1, 1) := by decide +kernel
theorem dX5_firstDebt_28 : decode cX5_firstDebt 28 = .ok (.getfield 28, 3) := by decide +kernel
theorem dX5_firstDebt_31 : decode cX5_firstDebt 31 = .ok (.iload 4, 2) := by decide +kernel
theorem dX5_firstDebt_33 : decode cX5_firstDebt 33 = .ok (.iaload, 1) := by decide +kernel
theorem dX5_firstDebt_34 : decode cX5_firstDebt 34 = .ok (.iaload, 1) := by decide +kernel
theorem dX5_firstDebt_35 : decode cX5_firstDebt 35 = .ok (.iload_n 3, 1) := by decide +kernel
theorem dX5_firstDebt_36 : decode cX5_firstDebt 36 = .ok (.if_icmp .ne 6, 3) := by decide +kernel
theorem dX5_firstDebt_39 : decode cX5_firstDebt 39 = .ok (.iload 4, 2) := by decide +kernel
theorem dX5_firstDebt_41 : decode cX5_firstDebt 41 = .ok (.ireturn, 1) := by decide +kernel
theorem dX5_firstDebt_42 : decode cX5_firstDebt 42 = .ok (.iinc 4 1, 3) := by decide +kernel
theorem dX5_firstDebt_45 : decode cX5_firstDebt 45 = .ok (.goto (-42), 3) := by decide +kernel
theorem dX5_firstDebt_48 : decode cX5_firstDebt 48 = .ok (.bipush (-9), 2) := by decide +kernel
theorem dX5_firstDebt_50 : decode cX5_firstDebt 50 = .ok (.ireturn, 1) := by decide +kernel
theorem dX5_measure_0 : decode cX5_measure 0 = .ok (.iconst 0, 1) := by decide +kernel
theorem dX5_measure_1 : decode cX5_measure 1 = .ok (.istore_n 3, 1) := by decide +kernel
theorem dX5_measure_2 : decode cX5_measure 2 = .ok (.iload_n 3, 1) := by decide +kernel
theorem dX5_measure_3 : decode cX5_measure 3 = .ok (.bipush 6, 2) := by decide +kernel
theorem dX5_measure_5 : decode cX5_measure 5 = .ok (.if_icmp .ge 27, 3) := by decide +kernel
theorem dX5_measure_8 : decode cX5_measure 8 = .ok (.aload_n 0, 1) := by decide +kernel
theorem dX5_measure_9 : decode cX5_measure 9 = .ok (.getfield 9, 3) := by decide +kernel
theorem dX5_measure_12 : decode cX5_measure 12 = .ok (.iload_n 3, 1) := by decide +kernel
theorem dX5_measure_13 : decode cX5_measure 13 = .ok (.iload_n 3, 1) := by decide +kernel
theorem dX5_measure_14 : decode cX5_measure 14 = .ok (.iload_n 2, 1) := by decide +kernel
theorem dX5_measure_15 : decode cX5_measure 15 = .ok (.if_icmp .ne 7, 3) := by decide +kernel
theorem dX5_measure_18 : decode cX5_measure 18 = .ok (.iconst 0, 1) := by decide +kernel
theorem dX5_measure_19 : decode cX5_measure 19 = .ok (.goto 6, 3) := by decide +kernel
theorem dX5_measure_22 : decode cX5_measure 22 = .ok (.sipush 1000, 3) := by decide +kernel
theorem dX5_measure_25 : decode cX5_measure 25 = .ok (.iastore, 1) := by decide +kernel
theorem dX5_measure_26 : decode cX5_measure 26 = .ok (.iinc 3 1, 3) := by decide +kernel
theorem dX5_measure_29 : decode cX5_measure 29 = .ok (.goto (-27), 3) := by decide +kernel
theorem dX5_measure_32 : decode cX5_measure 32 = .ok (.iconst 1, 1) := by decide +kernel
theorem dX5_measure_33 : decode cX5_measure 33 = .ok (.istore_n 3, 1) := by decide +kernel
theorem dX5_measure_34 : decode cX5_measure 34 = .ok (.iload_n 3, 1) := by decide +kernel
theorem dX5_measure_35 : decode cX5_measure 35 = .ok (.bipush 6, 2) := by decide +kernel
theorem dX5_measure_37 : decode cX5_measure 37 = .ok (.if_icmp .ge 67, 3) := by decide +kernel
theorem dX5_measure_40 : decode cX5_measure 40 = .ok (.iconst 0, 1) := by decide +kernel
theorem dX5_measure_41 : decode cX5_measure 41 = .ok (.istore 4, 2) := by decide +kernel
theorem dX5_measure_43 : decode cX5_measure 43 = .ok (.iload 4, 2) := by decide +kernel
theorem dX5_measure_45 : decode cX5_measure 45 = .ok (.aload_n 1, 1) := by decide +kernel
theorem dX5_measure_46 : decode cX5_measure 46 = .ok (.getfield 19, 3) := by decide +kernel
theorem dX5_measure_49 : decode cX5_measure 49 = .ok (.if_icmp .ge 49, 3) := by decide +kernel
theorem dX5_measure_52 : decode cX5_measure 52 = .ok (.aload_n 1, 1) := by decide +kernel
theorem dX5_measure_53 : decode cX5_measure 53 = .ok (.getfield 25, 3) := by decide +kernel
theorem dX5_measure_56 : decode cX5_measure 56 = .ok (.iload 4, 2) := by decide +kernel
theorem dX5_measure_58 : decode cX5_measure 58 = .ok (.iaload, 1) := by decide +kernel
theorem dX5_measure_59 : decode cX5_measure 59 = .ok (.istore 5, 2) := by decide +kernel
theorem dX5_measure_61 : decode cX5_measure 61 = .ok (.aload_n 0, 1) := by decide +kernel
theorem dX5_measure_62 : decode cX5_measure 62 = .ok (.getfield 9, 3) := by decide +kernel
theorem dX5_measure_65 : decode cX5_measure 65 = .ok (.iload 5, 2) := by decide +kernel
theorem dX5_measure_67 : decode cX5_measure 67 = .ok (.aload_n 0, 1) := by decide +kernel
theorem dX5_measure_68 : decode cX5_measure 68 = .ok (.getfield 9, 3) := by decide +kernel
theorem dX5_measure_71 : decode cX5_measure 71 = .ok (.iload 5, 2) := by decide +kernel
theorem dX5_measure_73 : decode cX5_measure 73 = .ok (.iaload, 1) := by decide +kernel
theorem dX5_measure_74 : decode cX5_measure 74 = .ok (.aload_n 0, 1) := by decide +kernel
theorem dX5_measure_75 : decode cX5_measure 75 = .ok (.getfield 9, 3) := by decide +kernel
theorem dX5_measure_78 : decode cX5_measure 78 = .ok (.aload_n 1, 1) := by decide +kernel
theorem dX5_measure_79 : decode cX5_measure 79 = .ok (.getfield 28, 3) := by decide +kernel
theorem dX5_measure_82 : decode cX5_measure 82 = .ok (.iload 4, 2) := by decide +kernel
theorem dX5_measure_84 : decode cX5_measure 84 = .ok (.iaload, 1) := by decide +kernel
theorem dX5_measure_85 : decode cX5_measure 85 = .ok (.iaload, 1) := by decide +kernel
theorem dX5_measure_86 : decode cX5_measure 86 = .ok (.iconst 1, 1) := by decide +kernel
theorem dX5_measure_87 : decode cX5_measure 87 = .ok (.iadd, 1) := by decide +kernel
theorem dX5_measure_88 : decode cX5_measure 88 = .ok (.invokestatic 31, 3) := by decide +kernel
theorem dX5_measure_91 : decode cX5_measure 91 = .ok (.iastore, 1) := by decide +kernel
theorem dX5_measure_92 : decode cX5_measure 92 = .ok (.iinc 4 1, 3) := by decide +kernel
theorem dX5_measure_95 : decode cX5_measure 95 = .ok (.goto (-52), 3) := by decide +kernel
theorem dX5_measure_98 : decode cX5_measure 98 = .ok (.iinc 3 1, 3) := by decide +kernel
theorem dX5_measure_101 : decode cX5_measure 101 = .ok (.goto (-67), 3) := by decide +kernel
theorem dX5_measure_104 : decode cX5_measure 104 = .ok (.return_, 1) := by decide +kernel
theorem dX6_init_0 : decode cX6_init 0 = .ok (.aload_n 0, 1) := by decide +kernel
theorem dX6_init_1 : decode cX6_init 1 = .ok (.invokespecial 3, 3) := by decide +kernel
theorem dX6_init_4 : decode cX6_init 4 = .ok (.aload_n 0, 1) := by decide +kernel
theorem dX6_init_5 : decode cX6_init 5 = .ok (.bipush 64, 2) := by decide +kernel
theorem dX6_init_7 : decode cX6_init 7 = .ok (.newarray .int, 2) := by decide +kernel
theorem dX6_init_9 : decode cX6_init 9 = .ok (.putfield 9, 3) := by decide +kernel
theorem dX6_init_12 : decode cX6_init 12 = .ok (.aload_n 0, 1) := by decide +kernel
theorem dX6_init_13 : decode cX6_init 13 = .ok (.bipush 64, 2) := by decide +kernel
theorem dX6_init_15 : decode cX6_init 15 = .ok (.newarray .int, 2) := by decide +kernel
theorem dX6_init_17 : decode cX6_init 17 = .ok (.putfield 15, 3) := by decide +kernel
theorem dX6_init_20 : decode cX6_init 20 = .ok (.return_, 1) := by decide +kernel
set_option maxRecDepth 20000 in
theorem ggX6_fewestPayments_X3_allPeople : GoodIn wsX6_fewestPayments wsX3_allPeople := goodIn_r _ [7, 8, 38, 39, 40, 41, 42, 43, 44, 45, 46, 47, 48] (by decide +kernel) (by decide +kernel)
set_option maxRecDepth 20000 in
theorem gX6_fewestPayments_X3_allPeople : GoodIn wsX6_fewestPayments (wsV RX6 18 RX3 yX3_allPeople wsX3_allPeople) := goodIn_app (goodIn_of _ (by decide +kernel)) ggX6_fewestPayments_X3_allPeople
set_option maxRecDepth 20000 in
theorem ggX6_fewestPayments_X6_sumUp : GoodIn wsX6_fewestPayments wsX6_sumUp := goodIn_r _ [13, 1, 2, 14, 15, 16, 17, 18, 19, 20, 21, 22, 23, 24, 6, 25, 26, 27, 28, 29, 30, 31, 32, 33, 34, 35, 36, 37, 38, 39, 40, 41, 42, 43, 44, 45, 46, 47, 48, 49, 50] (by decide +kernel) (by decide +kernel)
set_option maxRecDepth 20000 in
theorem gX6_fewestPayments_X6_sumUp : GoodIn wsX6_fewestPayments (wsV RX6 24 RX6 yX6_sumUp wsX6_sumUp) := goodIn_app (goodIn_of _ (by decide +kernel)) ggX6_fewestPayments_X6_sumUp
theorem dX6_fewestPayments_0 : decode cX6_fewestPayments 0 = .ok (.aload_n 1, 1) := by decide +kernel
theorem dX6_fewestPayments_1 : decode cX6_fewestPayments 1 = .ok (.invokevirtual 18, 3) := by decide +kernel
theorem dX6_fewestPayments_4 : decode cX6_fewestPayments 4 = .ok (.istore_n 2, 1) := by decide +kernel
theorem dX6_fewestPayments_5 : decode cX6_fewestPayments 5 = .ok (.iconst 1, 1) := by decide +kernel
theorem dX6_fewestPayments_6 : decode cX6_fewestPayments 6 = .ok (.istore_n 3, 1) := by decide +kernel
theorem dX6_fewestPayments_7 : decode cX6_fewestPayments 7 = .ok (.iload_n 3, 1) := by decide +kernel
theorem dX6_fewestPayments_8 : decode cX6_fewestPayments 8 = .ok (.iload_n 2, 1) := by decide +kernel
theorem dX6_fewestPayments_9 : decode cX6_fewestPayments 9 = .ok (.if_icmp .gt 21, 3) := by decide +kernel
theorem dX6_fewestPayments_12 : decode cX6_fewestPayments 12 = .ok (.iload_n 3, 1) := by decide +kernel
theorem dX6_fewestPayments_13 : decode cX6_fewestPayments 13 = .ok (.bipush 64, 2) := by decide +kernel
theorem dX6_fewestPayments_15 : decode cX6_fewestPayments 15 = .ok (.if_icmp .ge 15, 3) := by decide +kernel
theorem dX6_fewestPayments_18 : decode cX6_fewestPayments 18 = .ok (.aload_n 0, 1) := by decide +kernel
theorem dX6_fewestPayments_19 : decode cX6_fewestPayments 19 = .ok (.aload_n 1, 1) := by decide +kernel
theorem dX6_fewestPayments_20 : decode cX6_fewestPayments 20 = .ok (.iload_n 3, 1) := by decide +kernel
theorem dX6_fewestPayments_21 : decode cX6_fewestPayments 21 = .ok (.invokevirtual 24, 3) := by decide +kernel
theorem dX6_fewestPayments_24 : decode cX6_fewestPayments 24 = .ok (.iinc 3 1, 3) := by decide +kernel
theorem dX6_fewestPayments_27 : decode cX6_fewestPayments 27 = .ok (.goto (-20), 3) := by decide +kernel
theorem dX6_fewestPayments_30 : decode cX6_fewestPayments 30 = .ok (.aload_n 1, 1) := by decide +kernel
theorem dX6_fewestPayments_31 : decode cX6_fewestPayments 31 = .ok (.getfield 28, 3) := by decide +kernel
theorem dX6_fewestPayments_34 : decode cX6_fewestPayments 34 = .ok (.aload_n 0, 1) := by decide +kernel
theorem dX6_fewestPayments_35 : decode cX6_fewestPayments 35 = .ok (.getfield 15, 3) := by decide +kernel
theorem dX6_fewestPayments_38 : decode cX6_fewestPayments 38 = .ok (.iload_n 2, 1) := by decide +kernel
theorem dX6_fewestPayments_39 : decode cX6_fewestPayments 39 = .ok (.iaload, 1) := by decide +kernel
theorem dX6_fewestPayments_40 : decode cX6_fewestPayments 40 = .ok (.isub, 1) := by decide +kernel
theorem dX6_fewestPayments_41 : decode cX6_fewestPayments 41 = .ok (.ireturn, 1) := by decide +kernel
set_option maxRecDepth 20000 in
theorem ggX6_sumUp_X9_isIn : GoodIn wsX6_sumUp wsX9_isIn := goodIn_r _ [10] (by decide +kernel) (by decide +kernel)
set_option maxRecDepth 20000 in
theorem gX6_sumUp_X9_isIn_n32 : GoodIn wsX6_sumUp (wsX9_isIn) := ggX6_sumUp_X9_isIn
set_option maxRecDepth 20000 in
theorem ggX6_sumUp_X3_netOf : GoodIn wsX6_sumUp wsX3_netOf := goodIn_r _ [15, 16, 17, 18, 14, 19, 20, 21, 22, 23, 24, 25, 26, 27, 28, 29, 30, 31, 32, 33, 34, 35, 36, 37, 38] (by decide +kernel) (by decide +kernel)
set_option maxRecDepth 20000 in
theorem gX6_sumUp_X3_netOf : GoodIn wsX6_sumUp (wsV RX6 42 RX3 yX3_netOf wsX3_netOf) := goodIn_app (goodIn_of _ (by decide +kernel)) ggX6_sumUp_X3_netOf
theorem dX6_sumUp_0 : decode cX6_sumUp 0 = .ok (.iconst 0, 1) := by decide +kernel
theorem dX6_sumUp_1 : decode cX6_sumUp 1 = .ok (.istore_n 3, 1) := by decide +kernel
theorem dX6_sumUp_2 : decode cX6_sumUp 2 = .ok (.iconst 0, 1) := by decide +kernel
theorem dX6_sumUp_3 : decode cX6_sumUp 3 = .ok (.istore 4, 2) := by decide +kernel
theorem dX6_sumUp_5 : decode cX6_sumUp 5 = .ok (.iload 4, 2) := by decide +kernel
theorem dX6_sumUp_7 : decode cX6_sumUp 7 = .ok (.aload_n 1, 1) := by decide +kernel
theorem dX6_sumUp_8 : decode cX6_sumUp 8 = .ok (.getfield 28, 3) := by decide +kernel
theorem dX6_sumUp_11 : decode cX6_sumUp 11 = .ok (.if_icmp .ge 77, 3) := by decide +kernel
theorem dX6_sumUp_14 : decode cX6_sumUp 14 = .ok (.iload_n 2, 1) := by decide +kernel
theorem dX6_sumUp_15 : decode cX6_sumUp 15 = .ok (.iload 4, 2) := by decide +kernel
theorem dX6_sumUp_17 : decode cX6_sumUp 17 = .ok (.invokestatic 32, 3) := by decide +kernel
theorem dX6_sumUp_20 : decode cX6_sumUp 20 = .ok (.ifCond .eq 62, 3) := by decide +kernel
theorem dX6_sumUp_23 : decode cX6_sumUp 23 = .ok (.iload_n 2, 1) := by decide +kernel
theorem dX6_sumUp_24 : decode cX6_sumUp 24 = .ok (.iconst 1, 1) := by decide +kernel
theorem dX6_sumUp_25 : decode cX6_sumUp 25 = .ok (.iload 4, 2) := by decide +kernel
theorem dX6_sumUp_27 : decode cX6_sumUp 27 = .ok (.ishl, 1) := by decide +kernel
theorem dX6_sumUp_28 : decode cX6_sumUp 28 = .ok (.iconst (-1), 1) := by decide +kernel
theorem dX6_sumUp_29 : decode cX6_sumUp 29 = .ok (.ixor, 1) := by decide +kernel
theorem dX6_sumUp_30 : decode cX6_sumUp 30 = .ok (.iand, 1) := by decide +kernel
theorem dX6_sumUp_31 : decode cX6_sumUp 31 = .ok (.istore 5, 2) := by decide +kernel
theorem dX6_sumUp_33 : decode cX6_sumUp 33 = .ok (.iload_n 3, 1) := by decide +kernel
theorem dX6_sumUp_34 : decode cX6_sumUp 34 = .ok (.aload_n 0, 1) := by decide +kernel
theorem dX6_sumUp_35 : decode cX6_sumUp 35 = .ok (.getfield 15, 3) := by decide +kernel
theorem dX6_sumUp_38 : decode cX6_sumUp 38 = .ok (.iload 5, 2) := by decide +kernel
theorem dX6_sumUp_40 : decode cX6_sumUp 40 = .ok (.iaload, 1) := by decide +kernel
theorem dX6_sumUp_41 : decode cX6_sumUp 41 = .ok (.invokestatic 36, 3) := by decide +kernel
theorem dX6_sumUp_44 : decode cX6_sumUp 44 = .ok (.istore_n 3, 1) := by decide +kernel
theorem dX6_sumUp_45 : decode cX6_sumUp 45 = .ok (.aload_n 0, 1) := by decide +kernel
theorem dX6_sumUp_46 : decode cX6_sumUp 46 = .ok (.getfield 9, 3) := by decide +kernel
theorem dX6_sumUp_49 : decode cX6_sumUp 49 = .ok (.iload_n 2, 1) := by decide +kernel
theorem dX6_sumUp_50 : decode cX6_sumUp 50 = .ok (.iload 5, 2) := by decide +kernel
theorem dX6_sumUp_52 : decode cX6_sumUp 52 = .ok (.ifCond .ne 12, 3) := by decide +kernel
theorem dX6_sumUp_55 : decode cX6_sumUp 55 = .ok (.aload_n 1, 1) := by decide +kernel
theorem dX6_sumUp_56 : decode cX6_sumUp 56 = .ok (.iload 4, 2) := by decide +kernel
theorem dX6_sumUp_58 : decode cX6_sumUp 58 = .ok (.invokevirtual 42, 3) := by decide +kernel
theorem dX6_sumUp_61 : decode cX6_sumUp 61 = .ok (.goto 20, 3) := by decide +kernel
theorem dX6_sumUp_64 : decode cX6_sumUp 64 = .ok (.aload_n 0, 1) := by decide +kernel
theorem dX6_sumUp_65 : decode cX6_sumUp 65 = .ok (.getfield 9, 3) := by decide +kernel
theorem dX6_sumUp_68 : decode cX6_sumUp 68 = .ok (.iload 5, 2) := by decide +kernel
theorem dX6_sumUp_70 : decode cX6_sumUp 70 = .ok (.iaload, 1) := by decide +kernel
theorem dX6_sumUp_71 : decode cX6_sumUp 71 = .ok (.aload_n 0, 1) := by decide +kernel
theorem dX6_sumUp_72 : decode cX6_sumUp 72 = .ok (.getfield 9, 3) := by decide +kernel
theorem dX6_sumUp_75 : decode cX6_sumUp 75 = .ok (.iconst 1, 1) := by decide +kernel
theorem dX6_sumUp_76 : decode cX6_sumUp 76 = .ok (.iload 4, 2) := by decide +kernel
theorem dX6_sumUp_78 : decode cX6_sumUp 78 = .ok (.ishl, 1) := by decide +kernel
theorem dX6_sumUp_79 : decode cX6_sumUp 79 = .ok (.iaload, 1) := by decide +kernel
theorem dX6_sumUp_80 : decode cX6_sumUp 80 = .ok (.iadd, 1) := by decide +kernel
theorem dX6_sumUp_81 : decode cX6_sumUp 81 = .ok (.iastore, 1) := by decide +kernel
theorem dX6_sumUp_82 : decode cX6_sumUp 82 = .ok (.iinc 4 1, 3) := by decide +kernel
theorem dX6_sumUp_85 : decode cX6_sumUp 85 = .ok (.goto (-80), 3) := by decide +kernel
theorem dX6_sumUp_88 : decode cX6_sumUp 88 = .ok (.aload_n 0, 1) := by decide +kernel
theorem dX6_sumUp_89 : decode cX6_sumUp 89 = .ok (.getfield 15, 3) := by decide +kernel
theorem dX6_sumUp_92 : decode cX6_sumUp 92 = .ok (.iload_n 2, 1) := by decide +kernel
theorem dX6_sumUp_93 : decode cX6_sumUp 93 = .ok (.aload_n 0, 1) := by decide +kernel
theorem dX6_sumUp_94 : decode cX6_sumUp 94 = .ok (.getfield 9, 3) := by decide +kernel
theorem dX6_sumUp_97 : decode cX6_sumUp 97 = .ok (.iload_n 2, 1) := by decide +kernel
theorem dX6_sumUp_98 : decode cX6_sumUp 98 = .ok (.iaload, 1) := by decide +kernel
theorem dX6_sumUp_99 : decode cX6_sumUp 99 = .ok (.ifCond .ne 9, 3) := by decide +kernel
theorem dX6_sumUp_102 : decode cX6_sumUp 102 = .ok (.iload_n 3, 1) := by decide +kernel
theorem dX6_sumUp_103 : decode cX6_sumUp 103 = .ok (.iconst 1, 1) := by decide +kernel
theorem dX6_sumUp_104 : decode cX6_sumUp 104 = .ok (.iadd, 1) := by decide +kernel
theorem dX6_sumUp_105 : decode cX6_sumUp 105 = .ok (.goto 4, 3) := by decide +kernel
theorem dX6_sumUp_108 : decode cX6_sumUp 108 = .ok (.iload_n 3, 1) := by decide +kernel
theorem dX6_sumUp_109 : decode cX6_sumUp 109 = .ok (.iastore, 1) := by decide +kernel
theorem dX6_sumUp_110 : decode cX6_sumUp 110 = .ok (.return_, 1) := by decide +kernel
set_option maxRecDepth 20000 in
theorem ggX6_fallen_X3_allPeople : GoodIn wsX6_fallen wsX3_allPeople := goodIn_r _ [5, 6, 32, 33, 34, 35, 36, 37, 38, 39, 40, 41, 42] (by decide +kernel) (by decide +kernel)
set_option maxRecDepth 20000 in
theorem gX6_fallen_X3_allPeople : GoodIn wsX6_fallen (wsV RX6 18 RX3 yX3_allPeople wsX3_allPeople) := goodIn_app (goodIn_of _ (by decide +kernel)) ggX6_fallen_X3_allPeople
set_option maxRecDepth 20000 in
theorem ggX6_fallen_X6_thoseThatCan : GoodIn wsX6_fallen wsX6_thoseThatCan := goodIn_r _ [11, 12, 13, 14, 15, 16, 17, 18, 19, 10, 20, 21, 22, 23, 24, 25, 26, 27, 4, 28, 29, 30, 31, 32, 33, 34, 35, 36, 37, 38, 39, 40, 41, 42] (by decide +kernel) (by decide +kernel)
set_option maxRecDepth 20000 in
theorem gX6_fallen_X6_thoseThatCan : GoodIn wsX6_fallen (wsV RX6 46 RX6 yX6_thoseThatCan wsX6_thoseThatCan) := goodIn_app (goodIn_of _ (by decide +kernel)) ggX6_fallen_X6_thoseThatCan
theorem dX6_fallen_0 : decode cX6_fallen 0 = .ok (.aload_n 1, 1) := by decide +kernel
theorem dX6_fallen_1 : decode cX6_fallen 1 = .ok (.invokevirtual 18, 3) := by decide +kernel
theorem dX6_fallen_4 : decode cX6_fallen 4 = .ok (.iload_n 2, 1) := by decide +kernel
theorem dX6_fallen_5 : decode cX6_fallen 5 = .ok (.iconst (-1), 1) := by decide +kernel
theorem dX6_fallen_6 : decode cX6_fallen 6 = .ok (.ixor, 1) := by decide +kernel
theorem dX6_fallen_7 : decode cX6_fallen 7 = .ok (.iand, 1) := by decide +kernel
theorem dX6_fallen_8 : decode cX6_fallen 8 = .ok (.istore_n 3, 1) := by decide +kernel
theorem dX6_fallen_9 : decode cX6_fallen 9 = .ok (.iconst 0, 1) := by decide +kernel
theorem dX6_fallen_10 : decode cX6_fallen 10 = .ok (.istore 4, 2) := by decide +kernel
theorem dX6_fallen_12 : decode cX6_fallen 12 = .ok (.iload 4, 2) := by decide +kernel
theorem dX6_fallen_14 : decode cX6_fallen 14 = .ok (.bipush 6, 2) := by decide +kernel
theorem dX6_fallen_16 : decode cX6_fallen 16 = .ok (.if_icmp .ge 16, 3) := by decide +kernel
theorem dX6_fallen_19 : decode cX6_fallen 19 = .ok (.aload_n 0, 1) := by decide +kernel
theorem dX6_fallen_20 : decode cX6_fallen 20 = .ok (.aload_n 1, 1) := by decide +kernel
theorem dX6_fallen_21 : decode cX6_fallen 21 = .ok (.iload_n 3, 1) := by decide +kernel
theorem dX6_fallen_22 : decode cX6_fallen 22 = .ok (.invokevirtual 46, 3) := by decide +kernel
theorem dX6_fallen_25 : decode cX6_fallen 25 = .ok (.istore_n 3, 1) := by decide +kernel
theorem dX6_fallen_26 : decode cX6_fallen 26 = .ok (.iinc 4 1, 3) := by decide +kernel
theorem dX6_fallen_29 : decode cX6_fallen 29 = .ok (.goto (-17), 3) := by decide +kernel
theorem dX6_fallen_32 : decode cX6_fallen 32 = .ok (.aload_n 1, 1) := by decide +kernel
theorem dX6_fallen_33 : decode cX6_fallen 33 = .ok (.invokevirtual 18, 3) := by decide +kernel
theorem dX6_fallen_36 : decode cX6_fallen 36 = .ok (.iload_n 3, 1) := by decide +kernel
theorem dX6_fallen_37 : decode cX6_fallen 37 = .ok (.iconst (-1), 1) := by decide +kernel
theorem dX6_fallen_38 : decode cX6_fallen 38 = .ok (.ixor, 1) := by decide +kernel
theorem dX6_fallen_39 : decode cX6_fallen 39 = .ok (.iand, 1) := by decide +kernel
theorem dX6_fallen_40 : decode cX6_fallen 40 = .ok (.ireturn, 1) := by decide +kernel
set_option maxRecDepth 20000 in
theorem ggX6_thoseThatCan_X9_isIn : GoodIn wsX6_thoseThatCan wsX9_isIn := goodIn_r _ [5] (by decide +kernel) (by decide +kernel)
set_option maxRecDepth 20000 in
theorem gX6_thoseThatCan_X9_isIn_n32 : GoodIn wsX6_thoseThatCan (wsX9_isIn) := ggX6_thoseThatCan_X9_isIn
set_option maxRecDepth 20000 in
theorem ggX6_thoseThatCan_X6_paidTo : GoodIn wsX6_thoseThatCan wsX6_paidTo := goodIn_r _ [10, 11, 12, 13, 14, 3, 4, 5, 23, 24, 25, 26, 27, 28, 29, 30, 31, 32, 33] (by decide +kernel) (by decide +kernel)
set_option maxRecDepth 20000 in
theorem gX6_thoseThatCan_X6_paidTo : GoodIn wsX6_thoseThatCan (wsV RX6 53 RX6 yX6_paidTo wsX6_paidTo) := goodIn_app (goodIn_of _ (by decide +kernel)) ggX6_thoseThatCan_X6_paidTo
set_option maxRecDepth 20000 in
theorem ggX6_thoseThatCan_X3_owedBy : GoodIn wsX6_thoseThatCan wsX3_owedBy := goodIn_r _ [19, 20, 21, 22, 23, 24, 25, 26, 27, 28, 29, 30, 31, 32, 33] (by decide +kernel) (by decide +kernel)
set_option maxRecDepth 20000 in
theorem gX6_thoseThatCan_X3_owedBy : GoodIn wsX6_thoseThatCan (wsV RX6 57 RX3 yX3_owedBy wsX3_owedBy) := goodIn_app (goodIn_of _ (by decide +kernel)) ggX6_thoseThatCan_X3_owedBy
theorem dX6_thoseThatCan_0 : decode cX6_thoseThatCan 0 = .ok (.iconst 0, 1) := by decide +kernel
theorem dX6_thoseThatCan_1 : decode cX6_thoseThatCan 1 = .ok (.istore_n 3, 1) := by decide +kernel
theorem dX6_thoseThatCan_2 : decode cX6_thoseThatCan 2 = .ok (.iconst 0, 1) := by decide +kernel
theorem dX6_thoseThatCan_3 : decode cX6_thoseThatCan 3 = .ok (.istore 4, 2) := by decide +kernel
theorem dX6_thoseThatCan_5 : decode cX6_thoseThatCan 5 = .ok (.iload 4, 2) := by decide +kernel
theorem dX6_thoseThatCan_7 : decode cX6_thoseThatCan 7 = .ok (.aload_n 1, 1) := by decide +kernel
theorem dX6_thoseThatCan_8 : decode cX6_thoseThatCan 8 = .ok (.getfield 28, 3) := by decide +kernel
theorem dX6_thoseThatCan_11 : decode cX6_thoseThatCan 11 = .ok (.if_icmp .ge 50, 3) := by decide +kernel
theorem dX6_thoseThatCan_14 : decode cX6_thoseThatCan 14 = .ok (.iload_n 2, 1) := by decide +kernel
theorem dX6_thoseThatCan_15 : decode cX6_thoseThatCan 15 = .ok (.iload 4, 2) := by decide +kernel
theorem dX6_thoseThatCan_17 : decode cX6_thoseThatCan 17 = .ok (.invokestatic 32, 3) := by decide +kernel
theorem dX6_thoseThatCan_20 : decode cX6_thoseThatCan 20 = .ok (.ifCond .eq 35, 3) := by decide +kernel
theorem dX6_thoseThatCan_23 : decode cX6_thoseThatCan 23 = .ok (.aload_n 1, 1) := by decide +kernel
theorem dX6_thoseThatCan_24 : decode cX6_thoseThatCan 24 = .ok (.getfield 50, 3) := by decide +kernel
theorem dX6_thoseThatCan_27 : decode cX6_thoseThatCan 27 = .ok (.iload 4, 2) := by decide +kernel
theorem dX6_thoseThatCan_29 : decode cX6_thoseThatCan 29 = .ok (.iaload, 1) := by decide +kernel
theorem dX6_thoseThatCan_30 : decode cX6_thoseThatCan 30 = .ok (.aload_n 0, 1) := by decide +kernel
theorem dX6_thoseThatCan_31 : decode cX6_thoseThatCan 31 = .ok (.aload_n 1, 1) := by decide +kernel
theorem dX6_thoseThatCan_32 : decode cX6_thoseThatCan 32 = .ok (.iload 4, 2) := by decide +kernel
theorem dX6_thoseThatCan_34 : decode cX6_thoseThatCan 34 = .ok (.iload_n 2, 1) := by decide +kernel
theorem dX6_thoseThatCan_35 : decode cX6_thoseThatCan 35 = .ok (.invokevirtual 53, 3) := by decide +kernel
theorem dX6_thoseThatCan_38 : decode cX6_thoseThatCan 38 = .ok (.iadd, 1) := by decide +kernel
theorem dX6_thoseThatCan_39 : decode cX6_thoseThatCan 39 = .ok (.aload_n 1, 1) := by decide +kernel
theorem dX6_thoseThatCan_40 : decode cX6_thoseThatCan 40 = .ok (.iload 4, 2) := by decide +kernel
theorem dX6_thoseThatCan_42 : decode cX6_thoseThatCan 42 = .ok (.invokevirtual 57, 3) := by decide +kernel
theorem dX6_thoseThatCan_45 : decode cX6_thoseThatCan 45 = .ok (.if_icmp .lt 10, 3) := by decide +kernel
theorem dX6_thoseThatCan_48 : decode cX6_thoseThatCan 48 = .ok (.iload_n 3, 1) := by decide +kernel
theorem dX6_thoseThatCan_49 : decode cX6_thoseThatCan 49 = .ok (.iconst 1, 1) := by decide +kernel
theorem dX6_thoseThatCan_50 : decode cX6_thoseThatCan 50 = .ok (.iload 4, 2) := by decide +kernel
theorem dX6_thoseThatCan_52 : decode cX6_thoseThatCan 52 = .ok (.ishl, 1) := by decide +kernel
theorem dX6_thoseThatCan_53 : decode cX6_thoseThatCan 53 = .ok (.ior, 1) := by decide +kernel
theorem dX6_thoseThatCan_54 : decode cX6_thoseThatCan 54 = .ok (.istore_n 3, 1) := by decide +kernel
theorem dX6_thoseThatCan_55 : decode cX6_thoseThatCan 55 = .ok (.iinc 4 1, 3) := by decide +kernel
theorem dX6_thoseThatCan_58 : decode cX6_thoseThatCan 58 = .ok (.goto (-53), 3) := by decide +kernel
theorem dX6_thoseThatCan_61 : decode cX6_thoseThatCan 61 = .ok (.iload_n 3, 1) := by decide +kernel
theorem dX6_thoseThatCan_62 : decode cX6_thoseThatCan 62 = .ok (.ireturn, 1) := by decide +kernel
set_option maxRecDepth 20000 in
theorem ggX6_paidTo_X9_isIn : GoodIn wsX6_paidTo wsX9_isIn := goodIn_r _ [7] (by decide +kernel) (by decide +kernel)
set_option maxRecDepth 20000 in
theorem gX6_paidTo_X9_isIn_n32 : GoodIn wsX6_paidTo (wsX9_isIn) := ggX6_paidTo_X9_isIn
theorem dX6_paidTo_0 : decode cX6_paidTo 0 = .ok (.iconst 0, 1) := by decide +kernel
theorem dX6_paidTo_1 : decode cX6_paidTo 1 = .ok (.istore 4, 2) := by decide +kernel
theorem dX6_paidTo_3 : decode cX6_paidTo 3 = .ok (.iconst 0, 1) := by decide +kernel
theorem dX6_paidTo_4 : decode cX6_paidTo 4 = .ok (.istore 5, 2) := by decide +kernel
theorem dX6_paidTo_6 : decode cX6_paidTo 6 = .ok (.iload 5, 2) := by decide +kernel
theorem dX6_paidTo_8 : decode cX6_paidTo 8 = .ok (.aload_n 1, 1) := by decide +kernel
theorem dX6_paidTo_9 : decode cX6_paidTo 9 = .ok (.getfield 60, 3) := by decide +kernel
theorem dX6_paidTo_12 : decode cX6_paidTo 12 = .ok (.if_icmp .ge 46, 3) := by decide +kernel
theorem dX6_paidTo_15 : decode cX6_paidTo 15 = .ok (.aload_n 1, 1) := by decide +kernel
theorem dX6_paidTo_16 : decode cX6_paidTo 16 = .ok (.getfield 63, 3) := by decide +kernel
theorem dX6_paidTo_19 : decode cX6_paidTo 19 = .ok (.iload 5, 2) := by decide +kernel
theorem dX6_paidTo_21 : decode cX6_paidTo 21 = .ok (.iaload, 1) := by decide +kernel
theorem dX6_paidTo_22 : decode cX6_paidTo 22 = .ok (.iload_n 2, 1) := by decide +kernel
theorem dX6_paidTo_23 : decode cX6_paidTo 23 = .ok (.if_icmp .ne 29, 3) := by decide +kernel
theorem dX6_paidTo_26 : decode cX6_paidTo 26 = .ok (.iload_n 3, 1) := by decide +kernel
theorem dX6_paidTo_27 : decode cX6_paidTo 27 = .ok (.aload_n 1, 1) := by decide +kernel
theorem dX6_paidTo_28 : decode cX6_paidTo 28 = .ok (.getfield 66, 3) := by decide +kernel
theorem dX6_paidTo_31 : decode cX6_paidTo 31 = .ok (.iload 5, 2) := by decide +kernel
theorem dX6_paidTo_33 : decode cX6_paidTo 33 = .ok (.iaload, 1) := by decide +kernel
theorem dX6_paidTo_34 : decode cX6_paidTo 34 = .ok (.invokestatic 32, 3) := by decide +kernel
theorem dX6_paidTo_37 : decode cX6_paidTo 37 = .ok (.ifCond .eq 15, 3) := by decide +kernel
theorem dX6_paidTo_40 : decode cX6_paidTo 40 = .ok (.iload 4, 2) := by decide +kernel
theorem dX6_paidTo_42 : decode cX6_paidTo 42 = .ok (.aload_n 1, 1) := by decide +kernel
theorem dX6_paidTo_43 : decode cX6_paidTo 43 = .ok (.getfield 69, 3) := by decide +kernel
theorem dX6_paidTo_46 : decode cX6_paidTo 46 = .ok (.iload 5, 2) := by decide +kernel
theorem dX6_paidTo_48 : decode cX6_paidTo 48 = .ok (.iaload, 1) := by decide +kernel
theorem dX6_paidTo_49 : decode cX6_paidTo 49 = .ok (.iadd, 1) := by decide +kernel
theorem dX6_paidTo_50 : decode cX6_paidTo 50 = .ok (.istore 4, 2) := by decide +kernel
theorem dX6_paidTo_52 : decode cX6_paidTo 52 = .ok (.iinc 5 1, 3) := by decide +kernel
theorem dX6_paidTo_55 : decode cX6_paidTo 55 = .ok (.goto (-49), 3) := by decide +kernel
theorem dX6_paidTo_58 : decode cX6_paidTo 58 = .ok (.iload 4, 2) := by decide +kernel
theorem dX6_paidTo_60 : decode cX6_paidTo 60 = .ok (.ireturn, 1) := by decide +kernel
set_option maxRecDepth 20000 in
theorem ggX7_init_X3_init : GoodIn wsX7_init wsX3_init := goodIn_r _ [11, 12, 2, 3, 13, 14, 15, 16, 17, 18, 19, 20, 21, 22, 23, 24, 27, 28, 29, 30, 31, 32, 33, 34, 35, 36, 37] (by decide +kernel) (by decide +kernel)
set_option maxRecDepth 20000 in
theorem gX7_init_X3_init_n21 : GoodIn wsX7_init (wsX3_init) := ggX7_init_X3_init
theorem dX7_init_0 : decode cX7_init 0 = .ok (.aload_n 0, 1) := by decide +kernel
theorem dX7_init_1 : decode cX7_init 1 = .ok (.invokespecial 3, 3) := by decide +kernel
theorem dX7_init_4 : decode cX7_init 4 = .ok (.aload_n 0, 1) := by decide +kernel
theorem dX7_init_5 : decode cX7_init 5 = .ok (.iconst 2, 1) := by decide +kernel
theorem dX7_init_6 : decode cX7_init 6 = .ok (.anewarray 9, 3) := by decide +kernel
theorem dX7_init_9 : decode cX7_init 9 = .ok (.putfield 11, 3) := by decide +kernel
theorem dX7_init_12 : decode cX7_init 12 = .ok (.aload_n 0, 1) := by decide +kernel
theorem dX7_init_13 : decode cX7_init 13 = .ok (.iconst 2, 1) := by decide +kernel
theorem dX7_init_14 : decode cX7_init 14 = .ok (.newarray .boolean, 2) := by decide +kernel
theorem dX7_init_16 : decode cX7_init 16 = .ok (.putfield 17, 3) := by decide +kernel
theorem dX7_init_19 : decode cX7_init 19 = .ok (.iconst 0, 1) := by decide +kernel
theorem dX7_init_20 : decode cX7_init 20 = .ok (.istore_n 1, 1) := by decide +kernel
theorem dX7_init_21 : decode cX7_init 21 = .ok (.iload_n 1, 1) := by decide +kernel
theorem dX7_init_22 : decode cX7_init 22 = .ok (.iconst 2, 1) := by decide +kernel
theorem dX7_init_23 : decode cX7_init 23 = .ok (.if_icmp .ge 22, 3) := by decide +kernel
theorem dX7_init_26 : decode cX7_init 26 = .ok (.aload_n 0, 1) := by decide +kernel
theorem dX7_init_27 : decode cX7_init 27 = .ok (.getfield 11, 3) := by decide +kernel
theorem dX7_init_30 : decode cX7_init 30 = .ok (.iload_n 1, 1) := by decide +kernel
theorem dX7_init_31 : decode cX7_init 31 = .ok (.new 9, 3) := by decide +kernel
theorem dX7_init_34 : decode cX7_init 34 = .ok (.dup, 1) := by decide +kernel
theorem dX7_init_35 : decode cX7_init 35 = .ok (.invokespecial 21, 3) := by decide +kernel
theorem dX7_init_38 : decode cX7_init 38 = .ok (.aastore, 1) := by decide +kernel
theorem dX7_init_39 : decode cX7_init 39 = .ok (.iinc 1 1, 3) := by decide +kernel
theorem dX7_init_42 : decode cX7_init 42 = .ok (.goto (-21), 3) := by decide +kernel
theorem dX7_init_45 : decode cX7_init 45 = .ok (.return_, 1) := by decide +kernel
theorem dX7_clear_0 : decode cX7_clear 0 = .ok (.iconst 0, 1) := by decide +kernel
theorem dX7_clear_1 : decode cX7_clear 1 = .ok (.istore_n 1, 1) := by decide +kernel
theorem dX7_clear_2 : decode cX7_clear 2 = .ok (.iload_n 1, 1) := by decide +kernel
theorem dX7_clear_3 : decode cX7_clear 3 = .ok (.iconst 2, 1) := by decide +kernel
theorem dX7_clear_4 : decode cX7_clear 4 = .ok (.if_icmp .ge 16, 3) := by decide +kernel
theorem dX7_clear_7 : decode cX7_clear 7 = .ok (.aload_n 0, 1) := by decide +kernel
theorem dX7_clear_8 : decode cX7_clear 8 = .ok (.getfield 17, 3) := by decide +kernel
theorem dX7_clear_11 : decode cX7_clear 11 = .ok (.iload_n 1, 1) := by decide +kernel
theorem dX7_clear_12 : decode cX7_clear 12 = .ok (.iconst 0, 1) := by decide +kernel
theorem dX7_clear_13 : decode cX7_clear 13 = .ok (.bastore, 1) := by decide +kernel
theorem dX7_clear_14 : decode cX7_clear 14 = .ok (.iinc 1 1, 3) := by decide +kernel
theorem dX7_clear_17 : decode cX7_clear 17 = .ok (.goto (-15), 3) := by decide +kernel
theorem dX7_clear_20 : decode cX7_clear 20 = .ok (.return_, 1) := by decide +kernel
set_option maxRecDepth 20000 in
theorem ggX7_put_X3_copyFrom : GoodIn wsX7_put wsX3_copyFrom := goodIn_r _ [7, 8, 9, 10, 11, 12, 13, 14, 15, 16, 17, 18, 19, 20, 21, 22, 25, 26, 27, 28, 29, 30, 31, 32, 33, 34, 35] (by decide +kernel) (by decide +kernel)
set_option maxRecDepth 20000 in
theorem gX7_put_X3_copyFrom : GoodIn wsX7_put (wsV RX7 22 RX3 yX3_copyFrom wsX3_copyFrom) := goodIn_app (goodIn_of _ (by decide +kernel)) ggX7_put_X3_copyFrom
theorem dX7_put_0 : decode cX7_put 0 = .ok (.aload_n 0, 1) := by decide +kernel
theorem dX7_put_1 : decode cX7_put 1 = .ok (.getfield 11, 3) := by decide +kernel
theorem dX7_put_4 : decode cX7_put 4 = .ok (.iload_n 1, 1) := by decide +kernel
theorem dX7_put_5 : decode cX7_put 5 = .ok (.aaload, 1) := by decide +kernel
theorem dX7_put_6 : decode cX7_put 6 = .ok (.aload_n 2, 1) := by decide +kernel
theorem dX7_put_7 : decode cX7_put 7 = .ok (.invokevirtual 22, 3) := by decide +kernel
theorem dX7_put_10 : decode cX7_put 10 = .ok (.aload_n 0, 1) := by decide +kernel
theorem dX7_put_11 : decode cX7_put 11 = .ok (.getfield 17, 3) := by decide +kernel
theorem dX7_put_14 : decode cX7_put 14 = .ok (.iload_n 1, 1) := by decide +kernel
theorem dX7_put_15 : decode cX7_put 15 = .ok (.iconst 1, 1) := by decide +kernel
theorem dX7_put_16 : decode cX7_put 16 = .ok (.bastore, 1) := by decide +kernel
theorem dX7_put_17 : decode cX7_put 17 = .ok (.return_, 1) := by decide +kernel
theorem dX8_init_0 : decode cX8_init 0 = .ok (.aload_n 0, 1) := by decide +kernel
theorem dX8_init_1 : decode cX8_init 1 = .ok (.invokespecial 3, 3) := by decide +kernel
theorem dX8_init_4 : decode cX8_init 4 = .ok (.aload_n 0, 1) := by decide +kernel
theorem dX8_init_5 : decode cX8_init 5 = .ok (.bipush 80, 2) := by decide +kernel
theorem dX8_init_7 : decode cX8_init 7 = .ok (.newarray .byte, 2) := by decide +kernel
theorem dX8_init_9 : decode cX8_init 9 = .ok (.putfield 9, 3) := by decide +kernel
theorem dX8_init_12 : decode cX8_init 12 = .ok (.aload_n 0, 1) := by decide +kernel
theorem dX8_init_13 : decode cX8_init 13 = .ok (.iconst 0, 1) := by decide +kernel
theorem dX8_init_14 : decode cX8_init 14 = .ok (.putfield 15, 3) := by decide +kernel
theorem dX8_init_17 : decode cX8_init 17 = .ok (.return_, 1) := by decide +kernel
theorem dX8_append_0 : decode cX8_append 0 = .ok (.aload_n 0, 1) := by decide +kernel
theorem dX8_append_1 : decode cX8_append 1 = .ok (.getfield 15, 3) := by decide +kernel
theorem dX8_append_4 : decode cX8_append 4 = .ok (.iload_n 1, 1) := by decide +kernel
theorem dX8_append_5 : decode cX8_append 5 = .ok (.iadd, 1) := by decide +kernel
theorem dX8_append_6 : decode cX8_append 6 = .ok (.bipush 80, 2) := by decide +kernel
theorem dX8_append_8 : decode cX8_append 8 = .ok (.if_icmp .le 5, 3) := by decide +kernel
theorem dX8_append_11 : decode cX8_append 11 = .ok (.iconst 0, 1) := by decide +kernel
theorem dX8_append_12 : decode cX8_append 12 = .ok (.ireturn, 1) := by decide +kernel
theorem dX8_append_13 : decode cX8_append 13 = .ok (.iload_n 1, 1) := by decide +kernel
theorem dX8_append_14 : decode cX8_append 14 = .ok (.iconst 1, 1) := by decide +kernel
theorem dX8_append_15 : decode cX8_append 15 = .ok (.isub, 1) := by decide +kernel
theorem dX8_append_16 : decode cX8_append 16 = .ok (.istore 4, 2) := by decide +kernel
theorem dX8_append_18 : decode cX8_append 18 = .ok (.iload 4, 2) := by decide +kernel
theorem dX8_append_20 : decode cX8_append 20 = .ok (.ifCond .lt 37, 3) := by decide +kernel
theorem dX8_append_23 : decode cX8_append 23 = .ok (.aload_n 0, 1) := by decide +kernel
theorem dX8_append_24 : decode cX8_append 24 = .ok (.getfield 9, 3) := by decide +kernel
theorem dX8_append_27 : decode cX8_append 27 = .ok (.aload_n 0, 1) := by decide +kernel
theorem dX8_append_28 : decode cX8_append 28 = .ok (.getfield 15, 3) := by decide +kernel
theorem dX8_append_31 : decode cX8_append 31 = .ok (.lload_n 2, 1) := by decide +kernel
theorem dX8_append_32 : decode cX8_append 32 = .ok (.bipush 8, 2) := by decide +kernel
theorem dX8_append_34 : decode cX8_append 34 = .ok (.iload 4, 2) := by decide +kernel
theorem dX8_append_36 : decode cX8_append 36 = .ok (.imul, 1) := by decide +kernel
theorem dX8_append_37 : decode cX8_append 37 = .ok (.lushr, 1) := by decide +kernel
theorem dX8_append_38 : decode cX8_append 38 = .ok (.l2i, 1) := by decide +kernel
theorem dX8_append_39 : decode cX8_append 39 = .ok (.i2b, 1) := by decide +kernel
theorem dX8_append_40 : decode cX8_append 40 = .ok (.bastore, 1) := by decide +kernel
theorem dX8_append_41 : decode cX8_append 41 = .ok (.aload_n 0, 1) := by decide +kernel
theorem dX8_append_42 : decode cX8_append 42 = .ok (.dup, 1) := by decide +kernel
theorem dX8_append_43 : decode cX8_append 43 = .ok (.getfield 15, 3) := by decide +kernel
theorem dX8_append_46 : decode cX8_append 46 = .ok (.iconst 1, 1) := by decide +kernel
theorem dX8_append_47 : decode cX8_append 47 = .ok (.iadd, 1) := by decide +kernel
theorem dX8_append_48 : decode cX8_append 48 = .ok (.putfield 15, 3) := by decide +kernel
theorem dX8_append_51 : decode cX8_append 51 = .ok (.iinc 4 (-1), 3) := by decide +kernel
theorem dX8_append_54 : decode cX8_append 54 = .ok (.goto (-36), 3) := by decide +kernel
theorem dX8_append_57 : decode cX8_append 57 = .ok (.iconst 1, 1) := by decide +kernel
theorem dX8_append_58 : decode cX8_append 58 = .ok (.ireturn, 1) := by decide +kernel
set_option maxRecDepth 20000 in
theorem ggX8_firstFault_X8_mayStand : GoodIn wsX8_firstFault wsX8_mayStand := goodIn_r _ [7, 2, 8, 9, 6, 10, 11, 12, 13, 14, 1, 15, 16, 17, 18, 23, 24] (by decide +kernel) (by decide +kernel)
set_option maxRecDepth 20000 in
theorem gX8_firstFault_X8_mayStand : GoodIn wsX8_firstFault (wsV RX8 19 RX8 yX8_mayStand wsX8_mayStand) := goodIn_app (goodIn_of _ (by decide +kernel)) ggX8_firstFault_X8_mayStand
set_option maxRecDepth 20000 in
theorem ggX8_firstFault_X8_bytesOfPart : GoodIn wsX8_firstFault wsX8_bytesOfPart := goodIn_r _ [22, 2, 23, 24] (by decide +kernel) (by decide +kernel)
set_option maxRecDepth 20000 in
theorem gX8_firstFault_X8_bytesOfPart : GoodIn wsX8_firstFault (wsV RX8 23 RX8 yX8_bytesOfPart wsX8_bytesOfPart) := goodIn_app (goodIn_of _ (by decide +kernel)) ggX8_firstFault_X8_bytesOfPart
theorem dX8_firstFault_0 : decode cX8_firstFault 0 = .ok (.iconst 0, 1) := by decide +kernel
theorem dX8_firstFault_1 : decode cX8_firstFault 1 = .ok (.istore_n 1, 1) := by decide +kernel
theorem dX8_firstFault_2 : decode cX8_firstFault 2 = .ok (.iconst 0, 1) := by decide +kernel
theorem dX8_firstFault_3 : decode cX8_firstFault 3 = .ok (.istore_n 2, 1) := by decide +kernel
theorem dX8_firstFault_4 : decode cX8_firstFault 4 = .ok (.iconst 0, 1) := by decide +kernel
theorem dX8_firstFault_5 : decode cX8_firstFault 5 = .ok (.istore_n 3, 1) := by decide +kernel
theorem dX8_firstFault_6 : decode cX8_firstFault 6 = .ok (.iconst 0, 1) := by decide +kernel
theorem dX8_firstFault_7 : decode cX8_firstFault 7 = .ok (.istore 4, 2) := by decide +kernel
theorem dX8_firstFault_9 : decode cX8_firstFault 9 = .ok (.iload 4, 2) := by decide +kernel
theorem dX8_firstFault_11 : decode cX8_firstFault 11 = .ok (.aload_n 0, 1) := by decide +kernel
theorem dX8_firstFault_12 : decode cX8_firstFault 12 = .ok (.getfield 15, 3) := by decide +kernel
theorem dX8_firstFault_15 : decode cX8_firstFault 15 = .ok (.if_icmp .ge 65, 3) := by decide +kernel
theorem dX8_firstFault_18 : decode cX8_firstFault 18 = .ok (.aload_n 0, 1) := by decide +kernel
theorem dX8_firstFault_19 : decode cX8_firstFault 19 = .ok (.iload_n 3, 1) := by decide +kernel
theorem dX8_firstFault_20 : decode cX8_firstFault 20 = .ok (.iload 4, 2) := by decide +kernel
theorem dX8_firstFault_22 : decode cX8_firstFault 22 = .ok (.iload_n 1, 1) := by decide +kernel
theorem dX8_firstFault_23 : decode cX8_firstFault 23 = .ok (.iload_n 2, 1) := by decide +kernel
theorem dX8_firstFault_24 : decode cX8_firstFault 24 = .ok (.invokevirtual 19, 3) := by decide +kernel
theorem dX8_firstFault_27 : decode cX8_firstFault 27 = .ok (.ifCond .ne 6, 3) := by decide +kernel
theorem dX8_firstFault_30 : decode cX8_firstFault 30 = .ok (.iload 4, 2) := by decide +kernel
theorem dX8_firstFault_32 : decode cX8_firstFault 32 = .ok (.ireturn, 1) := by decide +kernel
theorem dX8_firstFault_33 : decode cX8_firstFault 33 = .ok (.iload 4, 2) := by decide +kernel
theorem dX8_firstFault_35 : decode cX8_firstFault 35 = .ok (.iconst 1, 1) := by decide +kernel
theorem dX8_firstFault_36 : decode cX8_firstFault 36 = .ok (.iadd, 1) := by decide +kernel
theorem dX8_firstFault_37 : decode cX8_firstFault 37 = .ok (.istore 5, 2) := by decide +kernel
theorem dX8_firstFault_39 : decode cX8_firstFault 39 = .ok (.iload 5, 2) := by decide +kernel
theorem dX8_firstFault_41 : decode cX8_firstFault 41 = .ok (.iload_n 3, 1) := by decide +kernel
theorem dX8_firstFault_42 : decode cX8_firstFault 42 = .ok (.isub, 1) := by decide +kernel
theorem dX8_firstFault_43 : decode cX8_firstFault 43 = .ok (.aload_n 0, 1) := by decide +kernel
theorem dX8_firstFault_44 : decode cX8_firstFault 44 = .ok (.iload_n 3, 1) := by decide +kernel
theorem dX8_firstFault_45 : decode cX8_firstFault 45 = .ok (.invokevirtual 23, 3) := by decide +kernel
theorem dX8_firstFault_48 : decode cX8_firstFault 48 = .ok (.if_icmp .ne 26, 3) := by decide +kernel
theorem dX8_firstFault_51 : decode cX8_firstFault 51 = .ok (.aload_n 0, 1) := by decide +kernel
theorem dX8_firstFault_52 : decode cX8_firstFault 52 = .ok (.getfield 9, 3) := by decide +kernel
theorem dX8_firstFault_55 : decode cX8_firstFault 55 = .ok (.iload_n 3, 1) := by decide +kernel
theorem dX8_firstFault_56 : decode cX8_firstFault 56 = .ok (.baload, 1) := by decide +kernel
theorem dX8_firstFault_57 : decode cX8_firstFault 57 = .ok (.bipush 80, 2) := by decide +kernel
theorem dX8_firstFault_59 : decode cX8_firstFault 59 = .ok (.if_icmp .ne 9, 3) := by decide +kernel
theorem dX8_firstFault_62 : decode cX8_firstFault 62 = .ok (.iinc 1 1, 3) := by decide +kernel
theorem dX8_firstFault_65 : decode cX8_firstFault 65 = .ok (.goto 6, 3) := by decide +kernel
theorem dX8_firstFault_68 : decode cX8_firstFault 68 = .ok (.iinc 2 1, 3) := by decide +kernel
theorem dX8_firstFault_71 : decode cX8_firstFault 71 = .ok (.iload 5, 2) := by decide +kernel
theorem dX8_firstFault_73 : decode cX8_firstFault 73 = .ok (.istore_n 3, 1) := by decide +kernel
theorem dX8_firstFault_74 : decode cX8_firstFault 74 = .ok (.iinc 4 1, 3) := by decide +kernel
theorem dX8_firstFault_77 : decode cX8_firstFault 77 = .ok (.goto (-68), 3) := by decide +kernel
theorem dX8_firstFault_80 : decode cX8_firstFault 80 = .ok (.iload_n 3, 1) := by decide +kernel
theorem dX8_firstFault_81 : decode cX8_firstFault 81 = .ok (.aload_n 0, 1) := by decide +kernel
theorem dX8_firstFault_82 : decode cX8_firstFault 82 = .ok (.getfield 15, 3) := by decide +kernel
theorem dX8_firstFault_85 : decode cX8_firstFault 85 = .ok (.if_icmp .ne 8, 3) := by decide +kernel
theorem dX8_firstFault_88 : decode cX8_firstFault 88 = .ok (.bipush (-9), 2) := by decide +kernel
theorem dX8_firstFault_90 : decode cX8_firstFault 90 = .ok (.goto 7, 3) := by decide +kernel
theorem dX8_firstFault_93 : decode cX8_firstFault 93 = .ok (.aload_n 0, 1) := by decide +kernel
theorem dX8_firstFault_94 : decode cX8_firstFault 94 = .ok (.getfield 15, 3) := by decide +kernel
theorem dX8_firstFault_97 : decode cX8_firstFault 97 = .ok (.ireturn, 1) := by decide +kernel
theorem dX8_bytesOfPart_0 : decode cX8_bytesOfPart 0 = .ok (.aload_n 0, 1) := by decide +kernel
theorem dX8_bytesOfPart_1 : decode cX8_bytesOfPart 1 = .ok (.getfield 9, 3) := by decide +kernel
theorem dX8_bytesOfPart_4 : decode cX8_bytesOfPart 4 = .ok (.iload_n 1, 1) := by decide +kernel
theorem dX8_bytesOfPart_5 : decode cX8_bytesOfPart 5 = .ok (.baload, 1) := by decide +kernel
theorem dX8_bytesOfPart_6 : decode cX8_bytesOfPart 6 = .ok (.bipush 80, 2) := by decide +kernel
theorem dX8_bytesOfPart_8 : decode cX8_bytesOfPart 8 = .ok (.if_icmp .ne 7, 3) := by decide +kernel
theorem dX8_bytesOfPart_11 : decode cX8_bytesOfPart 11 = .ok (.iconst 4, 1) := by decide +kernel
theorem dX8_bytesOfPart_12 : decode cX8_bytesOfPart 12 = .ok (.goto 5, 3) := by decide +kernel
theorem dX8_bytesOfPart_15 : decode cX8_bytesOfPart 15 = .ok (.bipush 6, 2) := by decide +kernel
theorem dX8_bytesOfPart_17 : decode cX8_bytesOfPart 17 = .ok (.ireturn, 1) := by decide +kernel
set_option maxRecDepth 20000 in
theorem ggX8_mayStand_X8_mayBegin : GoodIn wsX8_mayStand wsX8_mayBegin := goodIn_r _ [5] (by decide +kernel) (by decide +kernel)
set_option maxRecDepth 20000 in
theorem gX8_mayStand_X8_mayBegin : GoodIn wsX8_mayStand (va_wsS RX8 27 yX8_mayBegin wsX8_mayBegin) := goodIn_app (goodIn_of _ (by decide +kernel)) ggX8_mayStand_X8_mayBegin
set_option maxRecDepth 20000 in
theorem ggX8_mayStand_X8_digitAt : GoodIn wsX8_mayStand wsX8_digitAt := goodIn_r _ [9, 10, 1, 15, 16] (by decide +kernel) (by decide +kernel)
set_option maxRecDepth 20000 in
theorem gX8_mayStand_X8_digitAt : GoodIn wsX8_mayStand (wsV RX8 31 RX8 yX8_digitAt wsX8_digitAt) := goodIn_app (goodIn_of _ (by decide +kernel)) ggX8_mayStand_X8_digitAt
set_option maxRecDepth 20000 in
theorem ggX8_mayStand_X8_mayStandInDebt : GoodIn wsX8_mayStand wsX8_mayStandInDebt := goodIn_r _ [14, 6, 7, 8, 4, 9, 10, 1, 15, 16] (by decide +kernel) (by decide +kernel)
set_option maxRecDepth 20000 in
theorem gX8_mayStand_X8_mayStandInDebt : GoodIn wsX8_mayStand (wsV RX8 34 RX8 yX8_mayStandInDebt wsX8_mayStandInDebt) := goodIn_app (goodIn_of _ (by decide +kernel)) ggX8_mayStand_X8_mayStandInDebt
theorem dX8_mayStand_0 : decode cX8_mayStand 0 = .ok (.iload_n 2, 1) := by decide +kernel
theorem dX8_mayStand_1 : decode cX8_mayStand 1 = .ok (.iload_n 1, 1) := by decide +kernel
theorem dX8_mayStand_2 : decode cX8_mayStand 2 = .ok (.if_icmp .ne 16, 3) := by decide +kernel
theorem dX8_mayStand_5 : decode cX8_mayStand 5 = .ok (.aload_n 0, 1) := by decide +kernel
theorem dX8_mayStand_6 : decode cX8_mayStand 6 = .ok (.getfield 9, 3) := by decide +kernel
theorem dX8_mayStand_9 : decode cX8_mayStand 9 = .ok (.iload_n 2, 1) := by decide +kernel
theorem dX8_mayStand_10 : decode cX8_mayStand 10 = .ok (.baload, 1) := by decide +kernel
theorem dX8_mayStand_11 : decode cX8_mayStand 11 = .ok (.iload_n 3, 1) := by decide +kernel
theorem dX8_mayStand_12 : decode cX8_mayStand 12 = .ok (.iload 4, 2) := by decide +kernel
theorem dX8_mayStand_14 : decode cX8_mayStand 14 = .ok (.invokestatic 27, 3) := by decide +kernel
theorem dX8_mayStand_17 : decode cX8_mayStand 17 = .ok (.ireturn, 1) := by decide +kernel
theorem dX8_mayStand_18 : decode cX8_mayStand 18 = .ok (.aload_n 0, 1) := by decide +kernel
theorem dX8_mayStand_19 : decode cX8_mayStand 19 = .ok (.iload_n 2, 1) := by decide +kernel
theorem dX8_mayStand_20 : decode cX8_mayStand 20 = .ok (.invokevirtual 31, 3) := by decide +kernel
theorem dX8_mayStand_23 : decode cX8_mayStand 23 = .ok (.istore 5, 2) := by decide +kernel
theorem dX8_mayStand_25 : decode cX8_mayStand 25 = .ok (.iload 5, 2) := by decide +kernel
theorem dX8_mayStand_27 : decode cX8_mayStand 27 = .ok (.ifCond .ge 5, 3) := by decide +kernel
theorem dX8_mayStand_30 : decode cX8_mayStand 30 = .ok (.iconst 0, 1) := by decide +kernel
theorem dX8_mayStand_31 : decode cX8_mayStand 31 = .ok (.ireturn, 1) := by decide +kernel
theorem dX8_mayStand_32 : decode cX8_mayStand 32 = .ok (.aload_n 0, 1) := by decide +kernel
theorem dX8_mayStand_33 : decode cX8_mayStand 33 = .ok (.getfield 9, 3) := by decide +kernel
theorem dX8_mayStand_36 : decode cX8_mayStand 36 = .ok (.iload_n 1, 1) := by decide +kernel
theorem dX8_mayStand_37 : decode cX8_mayStand 37 = .ok (.baload, 1) := by decide +kernel
theorem dX8_mayStand_38 : decode cX8_mayStand 38 = .ok (.bipush 80, 2) := by decide +kernel
theorem dX8_mayStand_40 : decode cX8_mayStand 40 = .ok (.if_icmp .eq 17, 3) := by decide +kernel
theorem dX8_mayStand_43 : decode cX8_mayStand 43 = .ok (.aload_n 0, 1) := by decide +kernel
theorem dX8_mayStand_44 : decode cX8_mayStand 44 = .ok (.iload_n 2, 1) := by decide +kernel
theorem dX8_mayStand_45 : decode cX8_mayStand 45 = .ok (.iload_n 2, 1) := by decide +kernel
theorem dX8_mayStand_46 : decode cX8_mayStand 46 = .ok (.iload_n 1, 1) := by decide +kernel
theorem dX8_mayStand_47 : decode cX8_mayStand 47 = .ok (.isub, 1) := by decide +kernel
theorem dX8_mayStand_48 : decode cX8_mayStand 48 = .ok (.iload 5, 2) := by decide +kernel
theorem dX8_mayStand_50 : decode cX8_mayStand 50 = .ok (.iload_n 3, 1) := by decide +kernel
theorem dX8_mayStand_51 : decode cX8_mayStand 51 = .ok (.invokevirtual 34, 3) := by decide +kernel
theorem dX8_mayStand_54 : decode cX8_mayStand 54 = .ok (.ifCond .eq 7, 3) := by decide +kernel
theorem dX8_mayStand_57 : decode cX8_mayStand 57 = .ok (.iconst 1, 1) := by decide +kernel
theorem dX8_mayStand_58 : decode cX8_mayStand 58 = .ok (.goto 4, 3) := by decide +kernel
theorem dX8_mayStand_61 : decode cX8_mayStand 61 = .ok (.iconst 0, 1) := by decide +kernel
theorem dX8_mayStand_62 : decode cX8_mayStand 62 = .ok (.ireturn, 1) := by decide +kernel
theorem dX8_mayBegin_0 : decode cX8_mayBegin 0 = .ok (.iload_n 0, 1) := by decide +kernel
theorem dX8_mayBegin_1 : decode cX8_mayBegin 1 = .ok (.bipush 80, 2) := by decide +kernel
theorem dX8_mayBegin_3 : decode cX8_mayBegin 3 = .ok (.if_icmp .ne 15, 3) := by decide +kernel
theorem dX8_mayBegin_6 : decode cX8_mayBegin 6 = .ok (.iload_n 1, 1) := by decide +kernel
theorem dX8_mayBegin_7 : decode cX8_mayBegin 7 = .ok (.bipush 6, 2) := by decide +kernel
theorem dX8_mayBegin_9 : decode cX8_mayBegin 9 = .ok (.if_icmp .ge 7, 3) := by decide +kernel
theorem dX8_mayBegin_12 : decode cX8_mayBegin 12 = .ok (.iconst 1, 1) := by decide +kernel
theorem dX8_mayBegin_13 : decode cX8_mayBegin 13 = .ok (.goto 4, 3) := by decide +kernel
theorem dX8_mayBegin_16 : decode cX8_mayBegin 16 = .ok (.iconst 0, 1) := by decide +kernel
theorem dX8_mayBegin_17 : decode cX8_mayBegin 17 = .ok (.ireturn, 1) := by decide +kernel
theorem dX8_mayBegin_18 : decode cX8_mayBegin 18 = .ok (.iload_n 0, 1) := by decide +kernel
theorem dX8_mayBegin_19 : decode cX8_mayBegin 19 = .ok (.bipush 68, 2) := by decide +kernel
theorem dX8_mayBegin_21 : decode cX8_mayBegin 21 = .ok (.if_icmp .ne 18, 3) := by decide +kernel
theorem dX8_mayBegin_24 : decode cX8_mayBegin 24 = .ok (.iload_n 1, 1) := by decide +kernel
theorem dX8_mayBegin_25 : decode cX8_mayBegin 25 = .ok (.iconst 2, 1) := by decide +kernel
theorem dX8_mayBegin_26 : decode cX8_mayBegin 26 = .ok (.if_icmp .lt 13, 3) := by decide +kernel
theorem dX8_mayBegin_29 : decode cX8_mayBegin 29 = .ok (.iload_n 2, 1) := by decide +kernel
theorem dX8_mayBegin_30 : decode cX8_mayBegin 30 = .ok (.bipush 8, 2) := by decide +kernel
theorem dX8_mayBegin_32 : decode cX8_mayBegin 32 = .ok (.if_icmp .ge 7, 3) := by decide +kernel
theorem dX8_mayBegin_35 : decode cX8_mayBegin 35 = .ok (.iconst 1, 1) := by decide +kernel
theorem dX8_mayBegin_36 : decode cX8_mayBegin 36 = .ok (.goto 4, 3) := by decide +kernel
theorem dX8_mayBegin_39 : decode cX8_mayBegin 39 = .ok (.iconst 0, 1) := by decide +kernel
theorem dX8_mayBegin_40 : decode cX8_mayBegin 40 = .ok (.ireturn, 1) := by decide +kernel
set_option maxRecDepth 20000 in
theorem ggX8_mayStandInDebt_X8_digitAt : GoodIn wsX8_mayStandInDebt wsX8_digitAt := goodIn_r _ [5, 6, 7, 8, 9] (by decide +kernel) (by decide +kernel)
set_option maxRecDepth 20000 in
theorem gX8_mayStandInDebt_X8_digitAt : GoodIn wsX8_mayStandInDebt (wsV RX8 31 RX8 yX8_digitAt wsX8_digitAt) := goodIn_app (goodIn_of _ (by decide +kernel)) ggX8_mayStandInDebt_X8_digitAt
theorem dX8_mayStandInDebt_0 : decode cX8_mayStandInDebt 0 = .ok (.iload_n 2, 1) := by decide +kernel
theorem dX8_mayStandInDebt_1 : decode cX8_mayStandInDebt 1 = .ok (.tableswitch 88 1 4 #[31, 43, 66, 68], 31) := by decide +kernel
theorem dX8_mayStandInDebt_32 : decode cX8_mayStandInDebt 32 = .ok (.iload_n 3, 1) := by decide +kernel
theorem dX8_mayStandInDebt_33 : decode cX8_mayStandInDebt 33 = .ok (.iload 4, 2) := by decide +kernel
theorem dX8_mayStandInDebt_35 : decode cX8_mayStandInDebt 35 = .ok (.if_icmp .ge 7, 3) := by decide +kernel
theorem dX8_mayStandInDebt_38 : decode cX8_mayStandInDebt 38 = .ok (.iconst 1, 1) := by decide +kernel
theorem dX8_mayStandInDebt_39 : decode cX8_mayStandInDebt 39 = .ok (.goto 4, 3) := by decide +kernel
theorem dX8_mayStandInDebt_42 : decode cX8_mayStandInDebt 42 = .ok (.iconst 0, 1) := by decide +kernel
theorem dX8_mayStandInDebt_43 : decode cX8_mayStandInDebt 43 = .ok (.ireturn, 1) := by decide +kernel
theorem dX8_mayStandInDebt_44 : decode cX8_mayStandInDebt 44 = .ok (.iload_n 3, 1) := by decide +kernel
theorem dX8_mayStandInDebt_45 : decode cX8_mayStandInDebt 45 = .ok (.iload 4, 2) := by decide +kernel
theorem dX8_mayStandInDebt_47 : decode cX8_mayStandInDebt 47 = .ok (.if_icmp .ge 18, 3) := by decide +kernel
theorem dX8_mayStandInDebt_50 : decode cX8_mayStandInDebt 50 = .ok (.iload_n 3, 1) := by decide +kernel
theorem dX8_mayStandInDebt_51 : decode cX8_mayStandInDebt 51 = .ok (.aload_n 0, 1) := by decide +kernel
theorem dX8_mayStandInDebt_52 : decode cX8_mayStandInDebt 52 = .ok (.iload_n 1, 1) := by decide +kernel

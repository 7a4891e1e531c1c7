theorem dX10_findRing_104 : decode cX10_findRing 104 = .ok (.getfield 135, 3) := by decide +kernel
theorem dX10_findRing_107 : decode cX10_findRing 107 = .ok (.if_icmp .ne 9, 3) := by decide +kernel
theorem dX10_findRing_110 : decode cX10_findRing 110 = .ok (.iinc 3 (-1), 3) := by decide +kernel
theorem dX10_findRing_113 : decode cX10_findRing 113 = .ok (.goto 60, 3) := by decide +kernel
theorem dX10_findRing_116 : decode cX10_findRing 116 = .ok (.aload_n 0, 1) := by decide +kernel
theorem dX10_findRing_117 : decode cX10_findRing 117 = .ok (.getfield 77, 3) := by decide +kernel
theorem dX10_findRing_120 : decode cX10_findRing 120 = .ok (.iload_n 3, 1) := by decide +kernel
theorem dX10_findRing_121 : decode cX10_findRing 121 = .ok (.iload 5, 2) := by decide +kernel
theorem dX10_findRing_123 : decode cX10_findRing 123 = .ok (.iastore, 1) := by decide +kernel
theorem dX10_findRing_124 : decode cX10_findRing 124 = .ok (.iload_n 3, 1) := by decide +kernel
theorem dX10_findRing_125 : decode cX10_findRing 125 = .ok (.iload_n 2, 1) := by decide +kernel
theorem dX10_findRing_126 : decode cX10_findRing 126 = .ok (.iconst 1, 1) := by decide +kernel
theorem dX10_findRing_127 : decode cX10_findRing 127 = .ok (.isub, 1) := by decide +kernel
theorem dX10_findRing_128 : decode cX10_findRing 128 = .ok (.if_icmp .ne 34, 3) := by decide +kernel
theorem dX10_findRing_131 : decode cX10_findRing 131 = .ok (.iconst 0, 1) := by decide +kernel
theorem dX10_findRing_132 : decode cX10_findRing 132 = .ok (.istore 6, 2) := by decide +kernel
theorem dX10_findRing_134 : decode cX10_findRing 134 = .ok (.iload 6, 2) := by decide +kernel
theorem dX10_findRing_136 : decode cX10_findRing 136 = .ok (.iload_n 2, 1) := by decide +kernel
theorem dX10_findRing_137 : decode cX10_findRing 137 = .ok (.if_icmp .ge 23, 3) := by decide +kernel
theorem dX10_findRing_140 : decode cX10_findRing 140 = .ok (.aload_n 0, 1) := by decide +kernel
theorem dX10_findRing_141 : decode cX10_findRing 141 = .ok (.getfield 80, 3) := by decide +kernel
theorem dX10_findRing_144 : decode cX10_findRing 144 = .ok (.iload 6, 2) := by decide +kernel
theorem dX10_findRing_146 : decode cX10_findRing 146 = .ok (.aload_n 0, 1) := by decide +kernel
theorem dX10_findRing_147 : decode cX10_findRing 147 = .ok (.getfield 77, 3) := by decide +kernel
theorem dX10_findRing_150 : decode cX10_findRing 150 = .ok (.iload 6, 2) := by decide +kernel
theorem dX10_findRing_152 : decode cX10_findRing 152 = .ok (.iaload, 1) := by decide +kernel
theorem dX10_findRing_153 : decode cX10_findRing 153 = .ok (.iastore, 1) := by decide +kernel
theorem dX10_findRing_154 : decode cX10_findRing 154 = .ok (.iinc 6 1, 3) := by decide +kernel
theorem dX10_findRing_157 : decode cX10_findRing 157 = .ok (.goto (-23), 3) := by decide +kernel
theorem dX10_findRing_160 : decode cX10_findRing 160 = .ok (.iload_n 2, 1) := by decide +kernel
theorem dX10_findRing_161 : decode cX10_findRing 161 = .ok (.ireturn, 1) := by decide +kernel
theorem dX10_findRing_162 : decode cX10_findRing 162 = .ok (.iinc 3 1, 3) := by decide +kernel
theorem dX10_findRing_165 : decode cX10_findRing 165 = .ok (.aload_n 0, 1) := by decide +kernel
theorem dX10_findRing_166 : decode cX10_findRing 166 = .ok (.getfield 77, 3) := by decide +kernel
theorem dX10_findRing_169 : decode cX10_findRing 169 = .ok (.iload_n 3, 1) := by decide +kernel
theorem dX10_findRing_170 : decode cX10_findRing 170 = .ok (.bipush (-9), 2) := by decide +kernel
theorem dX10_findRing_172 : decode cX10_findRing 172 = .ok (.iastore, 1) := by decide +kernel
theorem dX10_findRing_173 : decode cX10_findRing 173 = .ok (.goto (-153), 3) := by decide +kernel
theorem dX10_findRing_176 : decode cX10_findRing 176 = .ok (.iinc 2 1, 3) := by decide +kernel
theorem dX10_findRing_179 : decode cX10_findRing 179 = .ok (.goto (-177), 3) := by decide +kernel
theorem dX10_findRing_182 : decode cX10_findRing 182 = .ok (.bipush (-9), 2) := by decide +kernel
theorem dX10_findRing_184 : decode cX10_findRing 184 = .ok (.ireturn, 1) := by decide +kernel
theorem dX10_mayGo_0 : decode cX10_mayGo 0 = .ok (.aload_n 0, 1) := by decide +kernel
theorem dX10_mayGo_1 : decode cX10_mayGo 1 = .ok (.getfield 29, 3) := by decide +kernel
theorem dX10_mayGo_4 : decode cX10_mayGo 4 = .ok (.iload_n 3, 1) := by decide +kernel
theorem dX10_mayGo_5 : decode cX10_mayGo 5 = .ok (.iaload, 1) := by decide +kernel
theorem dX10_mayGo_6 : decode cX10_mayGo 6 = .ok (.iload_n 2, 1) := by decide +kernel
theorem dX10_mayGo_7 : decode cX10_mayGo 7 = .ok (.if_icmp .eq 5, 3) := by decide +kernel
theorem dX10_mayGo_10 : decode cX10_mayGo 10 = .ok (.iconst 0, 1) := by decide +kernel
theorem dX10_mayGo_11 : decode cX10_mayGo 11 = .ok (.ireturn, 1) := by decide +kernel
theorem dX10_mayGo_12 : decode cX10_mayGo 12 = .ok (.iload 4, 2) := by decide +kernel
theorem dX10_mayGo_14 : decode cX10_mayGo 14 = .ok (.iload 5, 2) := by decide +kernel
theorem dX10_mayGo_16 : decode cX10_mayGo 16 = .ok (.iconst 1, 1) := by decide +kernel
theorem dX10_mayGo_17 : decode cX10_mayGo 17 = .ok (.isub, 1) := by decide +kernel
theorem dX10_mayGo_18 : decode cX10_mayGo 18 = .ok (.if_icmp .ne 21, 3) := by decide +kernel
theorem dX10_mayGo_21 : decode cX10_mayGo 21 = .ok (.aload_n 0, 1) := by decide +kernel
theorem dX10_mayGo_22 : decode cX10_mayGo 22 = .ok (.getfield 26, 3) := by decide +kernel
theorem dX10_mayGo_25 : decode cX10_mayGo 25 = .ok (.iload_n 3, 1) := by decide +kernel
theorem dX10_mayGo_26 : decode cX10_mayGo 26 = .ok (.iaload, 1) := by decide +kernel
theorem dX10_mayGo_27 : decode cX10_mayGo 27 = .ok (.iload_n 1, 1) := by decide +kernel
theorem dX10_mayGo_28 : decode cX10_mayGo 28 = .ok (.if_icmp .ne 7, 3) := by decide +kernel
theorem dX10_mayGo_31 : decode cX10_mayGo 31 = .ok (.iconst 1, 1) := by decide +kernel
theorem dX10_mayGo_32 : decode cX10_mayGo 32 = .ok (.goto 22, 3) := by decide +kernel
theorem dX10_mayGo_35 : decode cX10_mayGo 35 = .ok (.iconst 0, 1) := by decide +kernel
theorem dX10_mayGo_36 : decode cX10_mayGo 36 = .ok (.goto 18, 3) := by decide +kernel
theorem dX10_mayGo_39 : decode cX10_mayGo 39 = .ok (.aload_n 0, 1) := by decide +kernel
theorem dX10_mayGo_40 : decode cX10_mayGo 40 = .ok (.getfield 26, 3) := by decide +kernel
theorem dX10_mayGo_43 : decode cX10_mayGo 43 = .ok (.iload_n 3, 1) := by decide +kernel
theorem dX10_mayGo_44 : decode cX10_mayGo 44 = .ok (.iaload, 1) := by decide +kernel
theorem dX10_mayGo_45 : decode cX10_mayGo 45 = .ok (.iload_n 1, 1) := by decide +kernel
theorem dX10_mayGo_46 : decode cX10_mayGo 46 = .ok (.if_icmp .eq 7, 3) := by decide +kernel
theorem dX10_mayGo_49 : decode cX10_mayGo 49 = .ok (.iconst 1, 1) := by decide +kernel
theorem dX10_mayGo_50 : decode cX10_mayGo 50 = .ok (.goto 4, 3) := by decide +kernel
theorem dX10_mayGo_53 : decode cX10_mayGo 53 = .ok (.iconst 0, 1) := by decide +kernel
theorem dX10_mayGo_54 : decode cX10_mayGo 54 = .ok (.istore 6, 2) := by decide +kernel
theorem dX10_mayGo_56 : decode cX10_mayGo 56 = .ok (.iconst 0, 1) := by decide +kernel
theorem dX10_mayGo_57 : decode cX10_mayGo 57 = .ok (.istore 7, 2) := by decide +kernel
theorem dX10_mayGo_59 : decode cX10_mayGo 59 = .ok (.iload 7, 2) := by decide +kernel
theorem dX10_mayGo_61 : decode cX10_mayGo 61 = .ok (.iload 4, 2) := by decide +kernel
theorem dX10_mayGo_63 : decode cX10_mayGo 63 = .ok (.if_icmp .ge 51, 3) := by decide +kernel
theorem dX10_mayGo_66 : decode cX10_mayGo 66 = .ok (.iload 6, 2) := by decide +kernel
theorem dX10_mayGo_68 : decode cX10_mayGo 68 = .ok (.ifCond .eq 37, 3) := by decide +kernel
theorem dX10_mayGo_71 : decode cX10_mayGo 71 = .ok (.iload 4, 2) := by decide +kernel
theorem dX10_mayGo_73 : decode cX10_mayGo 73 = .ok (.iload 5, 2) := by decide +kernel
theorem dX10_mayGo_75 : decode cX10_mayGo 75 = .ok (.iconst 1, 1) := by decide +kernel
theorem dX10_mayGo_76 : decode cX10_mayGo 76 = .ok (.isub, 1) := by decide +kernel
theorem dX10_mayGo_77 : decode cX10_mayGo 77 = .ok (.if_icmp .eq 24, 3) := by decide +kernel
theorem dX10_mayGo_80 : decode cX10_mayGo 80 = .ok (.aload_n 0, 1) := by decide +kernel
theorem dX10_mayGo_81 : decode cX10_mayGo 81 = .ok (.getfield 26, 3) := by decide +kernel
theorem dX10_mayGo_84 : decode cX10_mayGo 84 = .ok (.aload_n 0, 1) := by decide +kernel
theorem dX10_mayGo_85 : decode cX10_mayGo 85 = .ok (.getfield 77, 3) := by decide +kernel
theorem dX10_mayGo_88 : decode cX10_mayGo 88 = .ok (.iload 7, 2) := by decide +kernel
theorem dX10_mayGo_90 : decode cX10_mayGo 90 = .ok (.iaload, 1) := by decide +kernel
theorem dX10_mayGo_91 : decode cX10_mayGo 91 = .ok (.iaload, 1) := by decide +kernel
theorem dX10_mayGo_92 : decode cX10_mayGo 92 = .ok (.aload_n 0, 1) := by decide +kernel
theorem dX10_mayGo_93 : decode cX10_mayGo 93 = .ok (.getfield 26, 3) := by decide +kernel
theorem dX10_mayGo_96 : decode cX10_mayGo 96 = .ok (.iload_n 3, 1) := by decide +kernel
theorem dX10_mayGo_97 : decode cX10_mayGo 97 = .ok (.iaload, 1) := by decide +kernel
theorem dX10_mayGo_98 : decode cX10_mayGo 98 = .ok (.if_icmp .eq 7, 3) := by decide +kernel
theorem dX10_mayGo_101 : decode cX10_mayGo 101 = .ok (.iconst 1, 1) := by decide +kernel
theorem dX10_mayGo_102 : decode cX10_mayGo 102 = .ok (.goto 4, 3) := by decide +kernel
theorem dX10_mayGo_105 : decode cX10_mayGo 105 = .ok (.iconst 0, 1) := by decide +kernel
theorem dX10_mayGo_106 : decode cX10_mayGo 106 = .ok (.istore 6, 2) := by decide +kernel
theorem dX10_mayGo_108 : decode cX10_mayGo 108 = .ok (.iinc 7 1, 3) := by decide +kernel
theorem dX10_mayGo_111 : decode cX10_mayGo 111 = .ok (.goto (-52), 3) := by decide +kernel
theorem dX10_mayGo_114 : decode cX10_mayGo 114 = .ok (.iload 6, 2) := by decide +kernel
theorem dX10_mayGo_116 : decode cX10_mayGo 116 = .ok (.ireturn, 1) := by decide +kernel
set_option maxRecDepth 20000 in
theorem ggX10_ring_X10_noOne : GoodIn wsX10_ring wsX10_noOne := goodIn_r _ [6, 7, 8, 9, 5, 10, 24, 25, 26, 27, 28, 29, 30, 31, 32, 33, 34, 35, 36, 37, 38, 39, 40, 41, 42, 43, 44, 45, 46, 47, 48, 49, 50, 51, 52, 53, 54, 55, 56, 57, 58, 59, 60, 61] (by decide +kernel) (by decide +kernel)
set_option maxRecDepth 20000 in
theorem gX10_ring_X10_noOne : GoodIn wsX10_ring (wsV RX10 151 RX10 yX10_noOne wsX10_noOne) := goodIn_app (goodIn_of _ (by decide +kernel)) ggX10_ring_X10_noOne
set_option maxRecDepth 20000 in
theorem ggX10_ring_X10_findRing : GoodIn wsX10_ring wsX10_findRing := goodIn_r _ [14, 7, 15, 16, 17, 18, 19, 20, 21, 5, 22, 23, 24, 25, 26, 27, 28, 29, 30, 31, 32, 33, 34, 35, 36, 37, 38, 39, 40, 41, 42, 43, 44, 45, 46, 47, 48, 49, 50, 51, 52, 53, 54, 55, 56, 57, 58, 59, 60, 61] (by decide +kernel) (by decide +kernel)
set_option maxRecDepth 20000 in
theorem gX10_ring_X10_findRing : GoodIn wsX10_ring (wsV RX10 190 RX10 yX10_findRing wsX10_findRing) := goodIn_app (goodIn_of _ (by decide +kernel)) ggX10_ring_X10_findRing
theorem dX10_ring_0 : decode cX10_ring 0 = .ok (.aload_n 0, 1) := by decide +kernel
theorem dX10_ring_1 : decode cX10_ring 1 = .ok (.iconst 0, 1) := by decide +kernel
theorem dX10_ring_2 : decode cX10_ring 2 = .ok (.putfield 92, 3) := by decide +kernel
theorem dX10_ring_5 : decode cX10_ring 5 = .ok (.aload_n 0, 1) := by decide +kernel
theorem dX10_ring_6 : decode cX10_ring 6 = .ok (.iload_n 1, 1) := by decide +kernel
theorem dX10_ring_7 : decode cX10_ring 7 = .ok (.invokevirtual 151, 3) := by decide +kernel
theorem dX10_ring_10 : decode cX10_ring 10 = .ok (.ifCond .eq 7, 3) := by decide +kernel
theorem dX10_ring_13 : decode cX10_ring 13 = .ok (.iconst (-1), 1) := by decide +kernel
theorem dX10_ring_14 : decode cX10_ring 14 = .ok (.goto 8, 3) := by decide +kernel
theorem dX10_ring_17 : decode cX10_ring 17 = .ok (.aload_n 0, 1) := by decide +kernel
theorem dX10_ring_18 : decode cX10_ring 18 = .ok (.iload_n 1, 1) := by decide +kernel
theorem dX10_ring_19 : decode cX10_ring 19 = .ok (.invokevirtual 190, 3) := by decide +kernel
theorem dX10_ring_22 : decode cX10_ring 22 = .ok (.ireturn, 1) := by decide +kernel
set_option maxRecDepth 20000 in
theorem ggX10_room_X10_noOne : GoodIn wsX10_room wsX10_noOne := goodIn_r _ [9, 10, 11, 12, 8, 13, 26, 27, 28, 29, 30, 31, 32, 33, 34, 35, 36, 37, 38, 39, 40, 41, 42, 43, 44, 45, 46, 47, 48, 49, 50, 51, 52, 53, 54, 55, 56, 57, 58, 59, 60, 61, 62, 63] (by decide +kernel) (by decide +kernel)
set_option maxRecDepth 20000 in
theorem gX10_room_X10_noOne : GoodIn wsX10_room (wsV RX10 151 RX10 yX10_noOne wsX10_noOne) := goodIn_app (goodIn_of _ (by decide +kernel)) ggX10_room_X10_noOne
set_option maxRecDepth 20000 in
theorem ggX10_room_X10_findRing : GoodIn wsX10_room wsX10_findRing := goodIn_r _ [17, 10, 18, 19, 20, 4, 21, 22, 23, 8, 24, 25, 26, 27, 28, 29, 30, 31, 32, 33, 34, 35, 36, 37, 38, 39, 40, 41, 42, 43, 44, 45, 46, 47, 48, 49, 50, 51, 52, 53, 54, 55, 56, 57, 58, 59, 60, 61, 62, 63] (by decide +kernel) (by decide +kernel)
set_option maxRecDepth 20000 in
theorem gX10_room_X10_findRing : GoodIn wsX10_room (wsV RX10 190 RX10 yX10_findRing wsX10_findRing) := goodIn_app (goodIn_of _ (by decide +kernel)) ggX10_room_X10_findRing
theorem dX10_room_0 : decode cX10_room 0 = .ok (.aload_n 0, 1) := by decide +kernel
theorem dX10_room_1 : decode cX10_room 1 = .ok (.iconst 0, 1) := by decide +kernel
theorem dX10_room_2 : decode cX10_room 2 = .ok (.putfield 92, 3) := by decide +kernel
theorem dX10_room_5 : decode cX10_room 5 = .ok (.aload_n 0, 1) := by decide +kernel
theorem dX10_room_6 : decode cX10_room 6 = .ok (.iload_n 1, 1) := by decide +kernel
theorem dX10_room_7 : decode cX10_room 7 = .ok (.invokevirtual 151, 3) := by decide +kernel
theorem dX10_room_10 : decode cX10_room 10 = .ok (.ifCond .eq 5, 3) := by decide +kernel
theorem dX10_room_13 : decode cX10_room 13 = .ok (.iconst (-1), 1) := by decide +kernel
theorem dX10_room_14 : decode cX10_room 14 = .ok (.ireturn, 1) := by decide +kernel
theorem dX10_room_15 : decode cX10_room 15 = .ok (.aload_n 0, 1) := by decide +kernel
theorem dX10_room_16 : decode cX10_room 16 = .ok (.iload_n 1, 1) := by decide +kernel
theorem dX10_room_17 : decode cX10_room 17 = .ok (.invokevirtual 190, 3) := by decide +kernel
theorem dX10_room_20 : decode cX10_room 20 = .ok (.istore_n 2, 1) := by decide +kernel
theorem dX10_room_21 : decode cX10_room 21 = .ok (.iload_n 2, 1) := by decide +kernel
theorem dX10_room_22 : decode cX10_room 22 = .ok (.bipush (-9), 2) := by decide +kernel
theorem dX10_room_24 : decode cX10_room 24 = .ok (.if_icmp .ne 8, 3) := by decide +kernel
theorem dX10_room_27 : decode cX10_room 27 = .ok (.bipush (-9), 2) := by decide +kernel
theorem dX10_room_29 : decode cX10_room 29 = .ok (.goto 5, 3) := by decide +kernel
theorem dX10_room_32 : decode cX10_room 32 = .ok (.ldc 193, 2) := by decide +kernel
theorem dX10_room_34 : decode cX10_room 34 = .ok (.istore_n 3, 1) := by decide +kernel
theorem dX10_room_35 : decode cX10_room 35 = .ok (.iconst 0, 1) := by decide +kernel
theorem dX10_room_36 : decode cX10_room 36 = .ok (.istore 4, 2) := by decide +kernel
theorem dX10_room_38 : decode cX10_room 38 = .ok (.iload 4, 2) := by decide +kernel
theorem dX10_room_40 : decode cX10_room 40 = .ok (.iload_n 2, 1) := by decide +kernel
theorem dX10_room_41 : decode cX10_room 41 = .ok (.if_icmp .ge 42, 3) := by decide +kernel
theorem dX10_room_44 : decode cX10_room 44 = .ok (.aload_n 0, 1) := by decide +kernel
theorem dX10_room_45 : decode cX10_room 45 = .ok (.getfield 32, 3) := by decide +kernel
theorem dX10_room_48 : decode cX10_room 48 = .ok (.aload_n 0, 1) := by decide +kernel
theorem dX10_room_49 : decode cX10_room 49 = .ok (.getfield 80, 3) := by decide +kernel
theorem dX10_room_52 : decode cX10_room 52 = .ok (.iload 4, 2) := by decide +kernel
theorem dX10_room_54 : decode cX10_room 54 = .ok (.iaload, 1) := by decide +kernel
theorem dX10_room_55 : decode cX10_room 55 = .ok (.iaload, 1) := by decide +kernel
theorem dX10_room_56 : decode cX10_room 56 = .ok (.iload_n 3, 1) := by decide +kernel
theorem dX10_room_57 : decode cX10_room 57 = .ok (.if_icmp .ge 18, 3) := by decide +kernel
theorem dX10_room_60 : decode cX10_room 60 = .ok (.aload_n 0, 1) := by decide +kernel
theorem dX10_room_61 : decode cX10_room 61 = .ok (.getfield 32, 3) := by decide +kernel
theorem dX10_room_64 : decode cX10_room 64 = .ok (.aload_n 0, 1) := by decide +kernel
theorem dX10_room_65 : decode cX10_room 65 = .ok (.getfield 80, 3) := by decide +kernel
theorem dX10_room_68 : decode cX10_room 68 = .ok (.iload 4, 2) := by decide +kernel
theorem dX10_room_70 : decode cX10_room 70 = .ok (.iaload, 1) := by decide +kernel
theorem dX10_room_71 : decode cX10_room 71 = .ok (.iaload, 1) := by decide +kernel
theorem dX10_room_72 : decode cX10_room 72 = .ok (.goto 4, 3) := by decide +kernel
theorem dX10_room_75 : decode cX10_room 75 = .ok (.iload_n 3, 1) := by decide +kernel
theorem dX10_room_76 : decode cX10_room 76 = .ok (.istore_n 3, 1) := by decide +kernel
theorem dX10_room_77 : decode cX10_room 77 = .ok (.iinc 4 1, 3) := by decide +kernel
theorem dX10_room_80 : decode cX10_room 80 = .ok (.goto (-42), 3) := by decide +kernel
theorem dX10_room_83 : decode cX10_room 83 = .ok (.iload_n 3, 1) := by decide +kernel
theorem dX10_room_84 : decode cX10_room 84 = .ok (.ireturn, 1) := by decide +kernel
set_option maxRecDepth 20000 in
theorem ggX10_findWish_X10_mostOf : GoodIn wsX10_findWish wsX10_mostOf := goodIn_r _ [8, 9, 10, 11, 17, 18, 19, 20, 21, 22, 23, 24, 25, 26, 27, 28, 29, 30, 31, 32, 33, 34, 35, 36, 37, 38, 39, 40, 41, 42, 43, 44, 45, 46, 47, 48, 49, 50, 51, 52, 53, 54] (by decide +kernel) (by decide +kernel)
set_option maxRecDepth 20000 in
theorem gX10_findWish_X10_mostOf : GoodIn wsX10_findWish (wsV RX10 194 RX10 yX10_mostOf wsX10_mostOf) := goodIn_app (goodIn_of _ (by decide +kernel)) ggX10_findWish_X10_mostOf
set_option maxRecDepth 20000 in
theorem ggX10_findWish_X10_priceOf : GoodIn wsX10_findWish wsX10_priceOf := goodIn_r _ [15, 16, 17, 18, 19, 20, 21, 22, 23, 24, 25, 26, 27, 28, 29, 30, 31, 32, 33, 34, 35, 36, 37, 38, 39, 40, 41, 42, 43, 44, 45, 46, 47, 48, 49, 50, 51, 52, 53, 54] (by decide +kernel) (by decide +kernel)
set_option maxRecDepth 20000 in
theorem gX10_findWish_X10_priceOf : GoodIn wsX10_findWish (wsV RX10 170 RX10 yX10_priceOf wsX10_priceOf) := goodIn_app (goodIn_of _ (by decide +kernel)) ggX10_findWish_X10_priceOf
theorem dX10_findWish_0 : decode cX10_findWish 0 = .ok (.iconst 0, 1) := by decide +kernel
theorem dX10_findWish_1 : decode cX10_findWish 1 = .ok (.istore_n 3, 1) := by decide +kernel
theorem dX10_findWish_2 : decode cX10_findWish 2 = .ok (.iload_n 3, 1) := by decide +kernel
theorem dX10_findWish_3 : decode cX10_findWish 3 = .ok (.iload_n 2, 1) := by decide +kernel
theorem dX10_findWish_4 : decode cX10_findWish 4 = .ok (.if_icmp .gt 29, 3) := by decide +kernel
theorem dX10_findWish_7 : decode cX10_findWish 7 = .ok (.aload_n 0, 1) := by decide +kernel
theorem dX10_findWish_8 : decode cX10_findWish 8 = .ok (.getfield 83, 3) := by decide +kernel
theorem dX10_findWish_11 : decode cX10_findWish 11 = .ok (.sipush 600, 3) := by decide +kernel
theorem dX10_findWish_14 : decode cX10_findWish 14 = .ok (.iload_n 3, 1) := by decide +kernel
theorem dX10_findWish_15 : decode cX10_findWish 15 = .ok (.iadd, 1) := by decide +kernel
theorem dX10_findWish_16 : decode cX10_findWish 16 = .ok (.iload_n 3, 1) := by decide +kernel
theorem dX10_findWish_17 : decode cX10_findWish 17 = .ok (.ifCond .ne 7, 3) := by decide +kernel
theorem dX10_findWish_20 : decode cX10_findWish 20 = .ok (.iconst 0, 1) := by decide +kernel
theorem dX10_findWish_21 : decode cX10_findWish 21 = .ok (.goto 5, 3) := by decide +kernel
theorem dX10_findWish_24 : decode cX10_findWish 24 = .ok (.ldc 193, 2) := by decide +kernel
theorem dX10_findWish_26 : decode cX10_findWish 26 = .ok (.iastore, 1) := by decide +kernel
theorem dX10_findWish_27 : decode cX10_findWish 27 = .ok (.iinc 3 1, 3) := by decide +kernel
theorem dX10_findWish_30 : decode cX10_findWish 30 = .ok (.goto (-28), 3) := by decide +kernel
theorem dX10_findWish_33 : decode cX10_findWish 33 = .ok (.iconst 5, 1) := by decide +kernel
theorem dX10_findWish_34 : decode cX10_findWish 34 = .ok (.istore_n 3, 1) := by decide +kernel
theorem dX10_findWish_35 : decode cX10_findWish 35 = .ok (.iload_n 3, 1) := by decide +kernel
theorem dX10_findWish_36 : decode cX10_findWish 36 = .ok (.ifCond .lt 133, 3) := by decide +kernel
theorem dX10_findWish_39 : decode cX10_findWish 39 = .ok (.iconst 0, 1) := by decide +kernel
theorem dX10_findWish_40 : decode cX10_findWish 40 = .ok (.istore 4, 2) := by decide +kernel
theorem dX10_findWish_42 : decode cX10_findWish 42 = .ok (.iload 4, 2) := by decide +kernel
theorem dX10_findWish_44 : decode cX10_findWish 44 = .ok (.iload_n 2, 1) := by decide +kernel
theorem dX10_findWish_45 : decode cX10_findWish 45 = .ok (.if_icmp .gt 118, 3) := by decide +kernel
theorem dX10_findWish_48 : decode cX10_findWish 48 = .ok (.aload_n 0, 1) := by decide +kernel
theorem dX10_findWish_49 : decode cX10_findWish 49 = .ok (.getfield 83, 3) := by decide +kernel
theorem dX10_findWish_52 : decode cX10_findWish 52 = .ok (.bipush 100, 2) := by decide +kernel
theorem dX10_findWish_54 : decode cX10_findWish 54 = .ok (.iload_n 3, 1) := by decide +kernel
theorem dX10_findWish_55 : decode cX10_findWish 55 = .ok (.imul, 1) := by decide +kernel
theorem dX10_findWish_56 : decode cX10_findWish 56 = .ok (.iload 4, 2) := by decide +kernel
theorem dX10_findWish_58 : decode cX10_findWish 58 = .ok (.iadd, 1) := by decide +kernel
theorem dX10_findWish_59 : decode cX10_findWish 59 = .ok (.ldc 193, 2) := by decide +kernel
theorem dX10_findWish_61 : decode cX10_findWish 61 = .ok (.iastore, 1) := by decide +kernel
theorem dX10_findWish_62 : decode cX10_findWish 62 = .ok (.iconst 0, 1) := by decide +kernel
theorem dX10_findWish_63 : decode cX10_findWish 63 = .ok (.istore 5, 2) := by decide +kernel
theorem dX10_findWish_65 : decode cX10_findWish 65 = .ok (.iload 5, 2) := by decide +kernel
theorem dX10_findWish_67 : decode cX10_findWish 67 = .ok (.aload_n 0, 1) := by decide +kernel
theorem dX10_findWish_68 : decode cX10_findWish 68 = .ok (.iload_n 3, 1) := by decide +kernel
theorem dX10_findWish_69 : decode cX10_findWish 69 = .ok (.iload_n 1, 1) := by decide +kernel
theorem dX10_findWish_70 : decode cX10_findWish 70 = .ok (.iload 4, 2) := by decide +kernel
theorem dX10_findWish_72 : decode cX10_findWish 72 = .ok (.invokevirtual 194, 3) := by decide +kernel
theorem dX10_findWish_75 : decode cX10_findWish 75 = .ok (.if_icmp .gt 82, 3) := by decide +kernel
theorem dX10_findWish_78 : decode cX10_findWish 78 = .ok (.aload_n 0, 1) := by decide +kernel
theorem dX10_findWish_79 : decode cX10_findWish 79 = .ok (.iload_n 3, 1) := by decide +kernel
theorem dX10_findWish_80 : decode cX10_findWish 80 = .ok (.iload 5, 2) := by decide +kernel
theorem dX10_findWish_82 : decode cX10_findWish 82 = .ok (.invokevirtual 170, 3) := by decide +kernel
theorem dX10_findWish_85 : decode cX10_findWish 85 = .ok (.aload_n 0, 1) := by decide +kernel
theorem dX10_findWish_86 : decode cX10_findWish 86 = .ok (.getfield 83, 3) := by decide +kernel
theorem dX10_findWish_89 : decode cX10_findWish 89 = .ok (.bipush 100, 2) := by decide +kernel
theorem dX10_findWish_91 : decode cX10_findWish 91 = .ok (.iload_n 3, 1) := by decide +kernel
theorem dX10_findWish_92 : decode cX10_findWish 92 = .ok (.iconst 1, 1) := by decide +kernel
theorem dX10_findWish_93 : decode cX10_findWish 93 = .ok (.iadd, 1) := by decide +kernel
theorem dX10_findWish_94 : decode cX10_findWish 94 = .ok (.imul, 1) := by decide +kernel
theorem dX10_findWish_95 : decode cX10_findWish 95 = .ok (.iload 4, 2) := by decide +kernel
theorem dX10_findWish_97 : decode cX10_findWish 97 = .ok (.iadd, 1) := by decide +kernel
theorem dX10_findWish_98 : decode cX10_findWish 98 = .ok (.iload 5, 2) := by decide +kernel
theorem dX10_findWish_100 : decode cX10_findWish 100 = .ok (.isub, 1) := by decide +kernel
theorem dX10_findWish_101 : decode cX10_findWish 101 = .ok (.iaload, 1) := by decide +kernel
theorem dX10_findWish_102 : decode cX10_findWish 102 = .ok (.iadd, 1) := by decide +kernel
theorem dX10_findWish_103 : decode cX10_findWish 103 = .ok (.istore 6, 2) := by decide +kernel
theorem dX10_findWish_105 : decode cX10_findWish 105 = .ok (.aload_n 0, 1) := by decide +kernel
theorem dX10_findWish_106 : decode cX10_findWish 106 = .ok (.getfield 83, 3) := by decide +kernel
theorem dX10_findWish_109 : decode cX10_findWish 109 = .ok (.bipush 100, 2) := by decide +kernel
theorem dX10_findWish_111 : decode cX10_findWish 111 = .ok (.iload_n 3, 1) := by decide +kernel
theorem dX10_findWish_112 : decode cX10_findWish 112 = .ok (.imul, 1) := by decide +kernel
theorem dX10_findWish_113 : decode cX10_findWish 113 = .ok (.iload 4, 2) := by decide +kernel
theorem dX10_findWish_115 : decode cX10_findWish 115 = .ok (.iadd, 1) := by decide +kernel
theorem dX10_findWish_116 : decode cX10_findWish 116 = .ok (.iload 6, 2) := by decide +kernel
theorem dX10_findWish_118 : decode cX10_findWish 118 = .ok (.aload_n 0, 1) := by decide +kernel
theorem dX10_findWish_119 : decode cX10_findWish 119 = .ok (.getfield 83, 3) := by decide +kernel
theorem dX10_findWish_122 : decode cX10_findWish 122 = .ok (.bipush 100, 2) := by decide +kernel
theorem dX10_findWish_124 : decode cX10_findWish 124 = .ok (.iload_n 3, 1) := by decide +kernel
theorem dX10_findWish_125 : decode cX10_findWish 125 = .ok (.imul, 1) := by decide +kernel
theorem dX10_findWish_126 : decode cX10_findWish 126 = .ok (.iload 4, 2) := by decide +kernel
theorem dX10_findWish_128 : decode cX10_findWish 128 = .ok (.iadd, 1) := by decide +kernel
theorem dX10_findWish_129 : decode cX10_findWish 129 = .ok (.iaload, 1) := by decide +kernel
theorem dX10_findWish_130 : decode cX10_findWish 130 = .ok (.if_icmp .ge 8, 3) := by decide +kernel
theorem dX10_findWish_133 : decode cX10_findWish 133 = .ok (.iload 6, 2) := by decide +kernel
theorem dX10_findWish_135 : decode cX10_findWish 135 = .ok (.goto 15, 3) := by decide +kernel
theorem dX10_findWish_138 : decode cX10_findWish 138 = .ok (.aload_n 0, 1) := by decide +kernel
theorem dX10_findWish_139 : decode cX10_findWish 139 = .ok (.getfield 83, 3) := by decide +kernel
theorem dX10_findWish_142 : decode cX10_findWish 142 = .ok (.bipush 100, 2) := by decide +kernel
theorem dX10_findWish_144 : decode cX10_findWish 144 = .ok (.iload_n 3, 1) := by decide +kernel
theorem dX10_findWish_145 : decode cX10_findWish 145 = .ok (.imul, 1) := by decide +kernel
theorem dX10_findWish_146 : decode cX10_findWish 146 = .ok (.iload 4, 2) := by decide +kernel
theorem dX10_findWish_148 : decode cX10_findWish 148 = .ok (.iadd, 1) := by decide +kernel
theorem dX10_findWish_149 : decode cX10_findWish 149 = .ok (.iaload, 1) := by decide +kernel
theorem dX10_findWish_150 : decode cX10_findWish 150 = .ok (.iastore, 1) := by decide +kernel
theorem dX10_findWish_151 : decode cX10_findWish 151 = .ok (.iinc 5 1, 3) := by decide +kernel
theorem dX10_findWish_154 : decode cX10_findWish 154 = .ok (.goto (-89), 3) := by decide +kernel
theorem dX10_findWish_157 : decode cX10_findWish 157 = .ok (.iinc 4 1, 3) := by decide +kernel
theorem dX10_findWish_160 : decode cX10_findWish 160 = .ok (.goto (-118), 3) := by decide +kernel
theorem dX10_findWish_163 : decode cX10_findWish 163 = .ok (.iinc 3 (-1), 3) := by decide +kernel
theorem dX10_findWish_166 : decode cX10_findWish 166 = .ok (.goto (-131), 3) := by decide +kernel
theorem dX10_findWish_169 : decode cX10_findWish 169 = .ok (.aload_n 0, 1) := by decide +kernel
theorem dX10_findWish_170 : decode cX10_findWish 170 = .ok (.getfield 83, 3) := by decide +kernel
theorem dX10_findWish_173 : decode cX10_findWish 173 = .ok (.iload_n 2, 1) := by decide +kernel
theorem dX10_findWish_174 : decode cX10_findWish 174 = .ok (.iaload, 1) := by decide +kernel
theorem dX10_findWish_175 : decode cX10_findWish 175 = .ok (.ldc 193, 2) := by decide +kernel
theorem dX10_findWish_177 : decode cX10_findWish 177 = .ok (.if_icmp .lt 6, 3) := by decide +kernel
theorem dX10_findWish_180 : decode cX10_findWish 180 = .ok (.bipush (-9), 2) := by decide +kernel
theorem dX10_findWish_182 : decode cX10_findWish 182 = .ok (.ireturn, 1) := by decide +kernel
theorem dX10_findWish_183 : decode cX10_findWish 183 = .ok (.iload_n 2, 1) := by decide +kernel
theorem dX10_findWish_184 : decode cX10_findWish 184 = .ok (.istore_n 3, 1) := by decide +kernel
theorem dX10_findWish_185 : decode cX10_findWish 185 = .ok (.iconst 0, 1) := by decide +kernel
theorem dX10_findWish_186 : decode cX10_findWish 186 = .ok (.istore 4, 2) := by decide +kernel
theorem dX10_findWish_188 : decode cX10_findWish 188 = .ok (.iload 4, 2) := by decide +kernel
theorem dX10_findWish_190 : decode cX10_findWish 190 = .ok (.bipush 6, 2) := by decide +kernel
theorem dX10_findWish_192 : decode cX10_findWish 192 = .ok (.if_icmp .ge 73, 3) := by decide +kernel
theorem dX10_findWish_195 : decode cX10_findWish 195 = .ok (.iconst 0, 1) := by decide +kernel
theorem dX10_findWish_196 : decode cX10_findWish 196 = .ok (.istore 5, 2) := by decide +kernel
theorem dX10_findWish_198 : decode cX10_findWish 198 = .ok (.aload_n 0, 1) := by decide +kernel
theorem dX10_findWish_199 : decode cX10_findWish 199 = .ok (.iload 4, 2) := by decide +kernel
theorem dX10_findWish_201 : decode cX10_findWish 201 = .ok (.iload 5, 2) := by decide +kernel
theorem dX10_findWish_203 : decode cX10_findWish 203 = .ok (.invokevirtual 170, 3) := by decide +kernel
theorem dX10_findWish_206 : decode cX10_findWish 206 = .ok (.aload_n 0, 1) := by decide +kernel
theorem dX10_findWish_207 : decode cX10_findWish 207 = .ok (.getfield 83, 3) := by decide +kernel
theorem dX10_findWish_210 : decode cX10_findWish 210 = .ok (.bipush 100, 2) := by decide +kernel
theorem dX10_findWish_212 : decode cX10_findWish 212 = .ok (.iload 4, 2) := by decide +kernel
theorem dX10_findWish_214 : decode cX10_findWish 214 = .ok (.iconst 1, 1) := by decide +kernel
theorem dX10_findWish_215 : decode cX10_findWish 215 = .ok (.iadd, 1) := by decide +kernel
theorem dX10_findWish_216 : decode cX10_findWish 216 = .ok (.imul, 1) := by decide +kernel
theorem dX10_findWish_217 : decode cX10_findWish 217 = .ok (.iload_n 3, 1) := by decide +kernel
theorem dX10_findWish_218 : decode cX10_findWish 218 = .ok (.iadd, 1) := by decide +kernel
theorem dX10_findWish_219 : decode cX10_findWish 219 = .ok (.iload 5, 2) := by decide +kernel
theorem dX10_findWish_221 : decode cX10_findWish 221 = .ok (.isub, 1) := by decide +kernel
theorem dX10_findWish_222 : decode cX10_findWish 222 = .ok (.iaload, 1) := by decide +kernel
theorem dX10_findWish_223 : decode cX10_findWish 223 = .ok (.iadd, 1) := by decide +kernel
theorem dX10_findWish_224 : decode cX10_findWish 224 = .ok (.aload_n 0, 1) := by decide +kernel
theorem dX10_findWish_225 : decode cX10_findWish 225 = .ok (.getfield 83, 3) := by decide +kernel
theorem dX10_findWish_228 : decode cX10_findWish 228 = .ok (.bipush 100, 2) := by decide +kernel
theorem dX10_findWish_230 : decode cX10_findWish 230 = .ok (.iload 4, 2) := by decide +kernel
theorem dX10_findWish_232 : decode cX10_findWish 232 = .ok (.imul, 1) := by decide +kernel
theorem dX10_findWish_233 : decode cX10_findWish 233 = .ok (.iload_n 3, 1) := by decide +kernel
theorem dX10_findWish_234 : decode cX10_findWish 234 = .ok (.iadd, 1) := by decide +kernel
theorem dX10_findWish_235 : decode cX10_findWish 235 = .ok (.iaload, 1) := by decide +kernel
theorem dX10_findWish_236 : decode cX10_findWish 236 = .ok (.if_icmp .eq 9, 3) := by decide +kernel
theorem dX10_findWish_239 : decode cX10_findWish 239 = .ok (.iinc 5 1, 3) := by decide +kernel
theorem dX10_findWish_242 : decode cX10_findWish 242 = .ok (.goto (-44), 3) := by decide +kernel
theorem dX10_findWish_245 : decode cX10_findWish 245 = .ok (.aload_n 0, 1) := by decide +kernel
theorem dX10_findWish_246 : decode cX10_findWish 246 = .ok (.getfield 86, 3) := by decide +kernel
theorem dX10_findWish_249 : decode cX10_findWish 249 = .ok (.iload 4, 2) := by decide +kernel
theorem dX10_findWish_251 : decode cX10_findWish 251 = .ok (.iload 5, 2) := by decide +kernel
theorem dX10_findWish_253 : decode cX10_findWish 253 = .ok (.iastore, 1) := by decide +kernel
theorem dX10_findWish_254 : decode cX10_findWish 254 = .ok (.iload_n 3, 1) := by decide +kernel
theorem dX10_findWish_255 : decode cX10_findWish 255 = .ok (.iload 5, 2) := by decide +kernel
theorem dX10_findWish_257 : decode cX10_findWish 257 = .ok (.isub, 1) := by decide +kernel
theorem dX10_findWish_258 : decode cX10_findWish 258 = .ok (.istore_n 3, 1) := by decide +kernel
theorem dX10_findWish_259 : decode cX10_findWish 259 = .ok (.iinc 4 1, 3) := by decide +kernel
theorem dX10_findWish_262 : decode cX10_findWish 262 = .ok (.goto (-74), 3) := by decide +kernel
theorem dX10_findWish_265 : decode cX10_findWish 265 = .ok (.aload_n 0, 1) := by decide +kernel
theorem dX10_findWish_266 : decode cX10_findWish 266 = .ok (.getfield 83, 3) := by decide +kernel
theorem dX10_findWish_269 : decode cX10_findWish 269 = .ok (.iload_n 2, 1) := by decide +kernel
theorem dX10_findWish_270 : decode cX10_findWish 270 = .ok (.iaload, 1) := by decide +kernel
theorem dX10_findWish_271 : decode cX10_findWish 271 = .ok (.ireturn, 1) := by decide +kernel
theorem dX10_mostOf_0 : decode cX10_mostOf 0 = .ok (.iload_n 1, 1) := by decide +kernel
theorem dX10_mostOf_1 : decode cX10_mostOf 1 = .ok (.aload_n 0, 1) := by decide +kernel
theorem dX10_mostOf_2 : decode cX10_mostOf 2 = .ok (.getfield 96, 3) := by decide +kernel
theorem dX10_mostOf_5 : decode cX10_mostOf 5 = .ok (.if_icmp .ge 17, 3) := by decide +kernel
theorem dX10_mostOf_8 : decode cX10_mostOf 8 = .ok (.iload_n 1, 1) := by decide +kernel
theorem dX10_mostOf_9 : decode cX10_mostOf 9 = .ok (.iload_n 2, 1) := by decide +kernel
theorem dX10_mostOf_10 : decode cX10_mostOf 10 = .ok (.if_icmp .eq 12, 3) := by decide +kernel
theorem dX10_mostOf_13 : decode cX10_mostOf 13 = .ok (.aload_n 0, 1) := by decide +kernel
theorem dX10_mostOf_14 : decode cX10_mostOf 14 = .ok (.getfield 19, 3) := by decide +kernel
theorem dX10_mostOf_17 : decode cX10_mostOf 17 = .ok (.iload_n 1, 1) := by decide +kernel
theorem dX10_mostOf_18 : decode cX10_mostOf 18 = .ok (.baload, 1) := by decide +kernel
theorem dX10_mostOf_19 : decode cX10_mostOf 19 = .ok (.ifCond .eq 7, 3) := by decide +kernel
theorem dX10_mostOf_22 : decode cX10_mostOf 22 = .ok (.iconst 0, 1) := by decide +kernel
theorem dX10_mostOf_23 : decode cX10_mostOf 23 = .ok (.goto 9, 3) := by decide +kernel
theorem dX10_mostOf_26 : decode cX10_mostOf 26 = .ok (.aload_n 0, 1) := by decide +kernel
theorem dX10_mostOf_27 : decode cX10_mostOf 27 = .ok (.getfield 13, 3) := by decide +kernel
theorem dX10_mostOf_30 : decode cX10_mostOf 30 = .ok (.iload_n 1, 1) := by decide +kernel
theorem dX10_mostOf_31 : decode cX10_mostOf 31 = .ok (.iaload, 1) := by decide +kernel
theorem dX10_mostOf_32 : decode cX10_mostOf 32 = .ok (.istore 4, 2) := by decide +kernel
theorem dX10_mostOf_34 : decode cX10_mostOf 34 = .ok (.iload 4, 2) := by decide +kernel
theorem dX10_mostOf_36 : decode cX10_mostOf 36 = .ok (.iload_n 3, 1) := by decide +kernel
theorem dX10_mostOf_37 : decode cX10_mostOf 37 = .ok (.if_icmp .ge 8, 3) := by decide +kernel
theorem dX10_mostOf_40 : decode cX10_mostOf 40 = .ok (.iload 4, 2) := by decide +kernel
theorem dX10_mostOf_42 : decode cX10_mostOf 42 = .ok (.goto 4, 3) := by decide +kernel
theorem dX10_mostOf_45 : decode cX10_mostOf 45 = .ok (.iload_n 3, 1) := by decide +kernel
theorem dX10_mostOf_46 : decode cX10_mostOf 46 = .ok (.ireturn, 1) := by decide +kernel
set_option maxRecDepth 20000 in
theorem ggX10_wish_X10_noOne : GoodIn wsX10_wish wsX10_noOne := goodIn_r _ [8, 9, 10, 11, 7, 12, 30, 31, 32, 33, 34, 35, 36, 37, 38, 39, 40, 41, 42, 43, 44, 45, 46, 47, 48, 49, 50, 51, 52, 53, 54, 55, 56, 57, 58, 59, 60, 61, 62, 63, 64, 65, 66, 67] (by decide +kernel) (by decide +kernel)
set_option maxRecDepth 20000 in
theorem gX10_wish_X10_noOne : GoodIn wsX10_wish (wsV RX10 151 RX10 yX10_noOne wsX10_noOne) := goodIn_app (goodIn_of _ (by decide +kernel)) ggX10_wish_X10_noOne
set_option maxRecDepth 20000 in
theorem ggX10_wish_X10_in : GoodIn wsX10_wish wsX10_in := goodIn_r _ [12] (by decide +kernel) (by decide +kernel)
set_option maxRecDepth 20000 in
theorem gX10_wish_X10_in : GoodIn wsX10_wish (va_wsS RX10 99 yX10_in wsX10_in) := goodIn_app (goodIn_of _ (by decide +kernel)) ggX10_wish_X10_in
set_option maxRecDepth 20000 in
theorem ggX10_wish_X10_findWish : GoodIn wsX10_wish wsX10_findWish := goodIn_r _ [16, 17, 18, 19, 20, 21, 22, 7, 23, 9, 3, 24, 25, 26, 27, 28, 29, 30, 31, 32, 33, 34, 35, 36, 37, 38, 39, 40, 41, 42, 43, 44, 45, 46, 47, 48, 49, 50, 51, 52, 53, 54, 55, 56, 57, 58, 59, 60, 61, 62, 63, 64, 65, 66, 67] (by decide +kernel) (by decide +kernel)
set_option maxRecDepth 20000 in
theorem gX10_wish_X10_findWish : GoodIn wsX10_wish (wsV RX10 198 RX10 yX10_findWish wsX10_findWish) := goodIn_app (goodIn_of _ (by decide +kernel)) ggX10_wish_X10_findWish
theorem dX10_wish_0 : decode cX10_wish 0 = .ok (.aload_n 0, 1) := by decide +kernel
theorem dX10_wish_1 : decode cX10_wish 1 = .ok (.iconst 0, 1) := by decide +kernel
theorem dX10_wish_2 : decode cX10_wish 2 = .ok (.putfield 92, 3) := by decide +kernel
theorem dX10_wish_5 : decode cX10_wish 5 = .ok (.aload_n 0, 1) := by decide +kernel
theorem dX10_wish_6 : decode cX10_wish 6 = .ok (.iload_n 1, 1) := by decide +kernel
theorem dX10_wish_7 : decode cX10_wish 7 = .ok (.invokevirtual 151, 3) := by decide +kernel
theorem dX10_wish_10 : decode cX10_wish 10 = .ok (.ifCond .eq 5, 3) := by decide +kernel
theorem dX10_wish_13 : decode cX10_wish 13 = .ok (.iconst (-1), 1) := by decide +kernel
theorem dX10_wish_14 : decode cX10_wish 14 = .ok (.ireturn, 1) := by decide +kernel
theorem dX10_wish_15 : decode cX10_wish 15 = .ok (.iload_n 2, 1) := by decide +kernel
theorem dX10_wish_16 : decode cX10_wish 16 = .ok (.i2l, 1) := by decide +kernel
theorem dX10_wish_17 : decode cX10_wish 17 = .ok (.lconst 1, 1) := by decide +kernel
theorem dX10_wish_18 : decode cX10_wish 18 = .ok (.ldc2_w 168, 3) := by decide +kernel
theorem dX10_wish_21 : decode cX10_wish 21 = .ok (.invokestatic 99, 3) := by decide +kernel
theorem dX10_wish_24 : decode cX10_wish 24 = .ok (.ifCond .ne 6, 3) := by decide +kernel
theorem dX10_wish_27 : decode cX10_wish 27 = .ok (.bipush (-2), 2) := by decide +kernel
theorem dX10_wish_29 : decode cX10_wish 29 = .ok (.ireturn, 1) := by decide +kernel
theorem dX10_wish_30 : decode cX10_wish 30 = .ok (.aload_n 0, 1) := by decide +kernel
theorem dX10_wish_31 : decode cX10_wish 31 = .ok (.getfield 19, 3) := by decide +kernel
theorem dX10_wish_34 : decode cX10_wish 34 = .ok (.iload_n 1, 1) := by decide +kernel
theorem dX10_wish_35 : decode cX10_wish 35 = .ok (.baload, 1) := by decide +kernel
theorem dX10_wish_36 : decode cX10_wish 36 = .ok (.ifCond .eq 8, 3) := by decide +kernel
theorem dX10_wish_39 : decode cX10_wish 39 = .ok (.bipush (-3), 2) := by decide +kernel
theorem dX10_wish_41 : decode cX10_wish 41 = .ok (.goto 9, 3) := by decide +kernel
theorem dX10_wish_44 : decode cX10_wish 44 = .ok (.aload_n 0, 1) := by decide +kernel
theorem dX10_wish_45 : decode cX10_wish 45 = .ok (.iload_n 1, 1) := by decide +kernel
theorem dX10_wish_46 : decode cX10_wish 46 = .ok (.iload_n 2, 1) := by decide +kernel
theorem dX10_wish_47 : decode cX10_wish 47 = .ok (.invokevirtual 198, 3) := by decide +kernel
theorem dX10_wish_50 : decode cX10_wish 50 = .ok (.ireturn, 1) := by decide +kernel
set_option maxRecDepth 20000 in
theorem ggX10_wishBy_X10_noOne : GoodIn wsX10_wishBy wsX10_noOne := goodIn_r _ [9, 10, 11, 12, 8, 13, 30, 31, 32, 33, 34, 35, 36, 37, 38, 39, 40, 41, 42, 43, 44, 45, 46, 47, 48, 49, 50, 51, 52, 53, 54, 55, 56, 57, 58, 59, 60, 61, 62, 63, 64, 65, 66, 67] (by decide +kernel) (by decide +kernel)
set_option maxRecDepth 20000 in
theorem gX10_wishBy_X10_noOne : GoodIn wsX10_wishBy (wsV RX10 151 RX10 yX10_noOne wsX10_noOne) := goodIn_app (goodIn_of _ (by decide +kernel)) ggX10_wishBy_X10_noOne
set_option maxRecDepth 20000 in
theorem ggX10_wishBy_X10_in : GoodIn wsX10_wishBy wsX10_in := goodIn_r _ [13] (by decide +kernel) (by decide +kernel)
set_option maxRecDepth 20000 in
theorem gX10_wishBy_X10_in : GoodIn wsX10_wishBy (va_wsS RX10 99 yX10_in wsX10_in) := goodIn_app (goodIn_of _ (by decide +kernel)) ggX10_wishBy_X10_in
set_option maxRecDepth 20000 in
theorem ggX10_wishBy_X10_findWish : GoodIn wsX10_wishBy wsX10_findWish := goodIn_r _ [17, 18, 19, 4, 20, 21, 22, 8, 23, 10, 3, 24, 25, 26, 27, 28, 29, 30, 31, 32, 33, 34, 35, 36, 37, 38, 39, 40, 41, 42, 43, 44, 45, 46, 47, 48, 49, 50, 51, 52, 53, 54, 55, 56, 57, 58, 59, 60, 61, 62, 63, 64, 65, 66, 67] (by decide +kernel) (by decide +kernel)
set_option maxRecDepth 20000 in
theorem gX10_wishBy_X10_findWish : GoodIn wsX10_wishBy (wsV RX10 198 RX10 yX10_findWish wsX10_findWish) := goodIn_app (goodIn_of _ (by decide +kernel)) ggX10_wishBy_X10_findWish
theorem dX10_wishBy_0 : decode cX10_wishBy 0 = .ok (.aload_n 0, 1) := by decide +kernel
theorem dX10_wishBy_1 : decode cX10_wishBy 1 = .ok (.iconst 0, 1) := by decide +kernel
theorem dX10_wishBy_2 : decode cX10_wishBy 2 = .ok (.putfield 92, 3) := by decide +kernel
theorem dX10_wishBy_5 : decode cX10_wishBy 5 = .ok (.aload_n 0, 1) := by decide +kernel
theorem dX10_wishBy_6 : decode cX10_wishBy 6 = .ok (.iload_n 1, 1) := by decide +kernel
theorem dX10_wishBy_7 : decode cX10_wishBy 7 = .ok (.invokevirtual 151, 3) := by decide +kernel
theorem dX10_wishBy_10 : decode cX10_wishBy 10 = .ok (.ifCond .ne 11, 3) := by decide +kernel
theorem dX10_wishBy_13 : decode cX10_wishBy 13 = .ok (.aload_n 0, 1) := by decide +kernel
theorem dX10_wishBy_14 : decode cX10_wishBy 14 = .ok (.iload_n 3, 1) := by decide +kernel
theorem dX10_wishBy_15 : decode cX10_wishBy 15 = .ok (.invokevirtual 151, 3) := by decide +kernel
theorem dX10_wishBy_18 : decode cX10_wishBy 18 = .ok (.ifCond .eq 5, 3) := by decide +kernel
theorem dX10_wishBy_21 : decode cX10_wishBy 21 = .ok (.iconst (-1), 1) := by decide +kernel
theorem dX10_wishBy_22 : decode cX10_wishBy 22 = .ok (.ireturn, 1) := by decide +kernel
theorem dX10_wishBy_23 : decode cX10_wishBy 23 = .ok (.iload_n 2, 1) := by decide +kernel
theorem dX10_wishBy_24 : decode cX10_wishBy 24 = .ok (.i2l, 1) := by decide +kernel
theorem dX10_wishBy_25 : decode cX10_wishBy 25 = .ok (.lconst 1, 1) := by decide +kernel
theorem dX10_wishBy_26 : decode cX10_wishBy 26 = .ok (.ldc2_w 168, 3) := by decide +kernel
theorem dX10_wishBy_29 : decode cX10_wishBy 29 = .ok (.invokestatic 99, 3) := by decide +kernel
theorem dX10_wishBy_32 : decode cX10_wishBy 32 = .ok (.ifCond .ne 6, 3) := by decide +kernel
theorem dX10_wishBy_35 : decode cX10_wishBy 35 = .ok (.bipush (-2), 2) := by decide +kernel
theorem dX10_wishBy_37 : decode cX10_wishBy 37 = .ok (.ireturn, 1) := by decide +kernel
theorem dX10_wishBy_38 : decode cX10_wishBy 38 = .ok (.aload_n 0, 1) := by decide +kernel
theorem dX10_wishBy_39 : decode cX10_wishBy 39 = .ok (.getfield 19, 3) := by decide +kernel
theorem dX10_wishBy_42 : decode cX10_wishBy 42 = .ok (.iload_n 1, 1) := by decide +kernel
theorem dX10_wishBy_43 : decode cX10_wishBy 43 = .ok (.baload, 1) := by decide +kernel
theorem dX10_wishBy_44 : decode cX10_wishBy 44 = .ok (.ifCond .eq 6, 3) := by decide +kernel
theorem dX10_wishBy_47 : decode cX10_wishBy 47 = .ok (.bipush (-3), 2) := by decide +kernel
theorem dX10_wishBy_49 : decode cX10_wishBy 49 = .ok (.ireturn, 1) := by decide +kernel
theorem dX10_wishBy_50 : decode cX10_wishBy 50 = .ok (.aload_n 0, 1) := by decide +kernel
theorem dX10_wishBy_51 : decode cX10_wishBy 51 = .ok (.iload_n 1, 1) := by decide +kernel
theorem dX10_wishBy_52 : decode cX10_wishBy 52 = .ok (.iload_n 2, 1) := by decide +kernel
theorem dX10_wishBy_53 : decode cX10_wishBy 53 = .ok (.invokevirtual 198, 3) := by decide +kernel
theorem dX10_wishBy_56 : decode cX10_wishBy 56 = .ok (.bipush (-9), 2) := by decide +kernel
theorem dX10_wishBy_58 : decode cX10_wishBy 58 = .ok (.if_icmp .ne 8, 3) := by decide +kernel
theorem dX10_wishBy_61 : decode cX10_wishBy 61 = .ok (.bipush (-9), 2) := by decide +kernel
theorem dX10_wishBy_63 : decode cX10_wishBy 63 = .ok (.goto 9, 3) := by decide +kernel
theorem dX10_wishBy_66 : decode cX10_wishBy 66 = .ok (.aload_n 0, 1) := by decide +kernel
theorem dX10_wishBy_67 : decode cX10_wishBy 67 = .ok (.getfield 86, 3) := by decide +kernel
theorem dX10_wishBy_70 : decode cX10_wishBy 70 = .ok (.iload_n 3, 1) := by decide +kernel
theorem dX10_wishBy_71 : decode cX10_wishBy 71 = .ok (.iaload, 1) := by decide +kernel
theorem dX10_wishBy_72 : decode cX10_wishBy 72 = .ok (.ireturn, 1) := by decide +kernel
theorem dX10_layAskers_0 : decode cX10_layAskers 0 = .ok (.aload_n 0, 1) := by decide +kernel
theorem dX10_layAskers_1 : decode cX10_layAskers 1 = .ok (.iconst 0, 1) := by decide +kernel
theorem dX10_layAskers_2 : decode cX10_layAskers 2 = .ok (.putfield 201, 3) := by decide +kernel
theorem dX10_layAskers_5 : decode cX10_layAskers 5 = .ok (.iconst 0, 1) := by decide +kernel
theorem dX10_layAskers_6 : decode cX10_layAskers 6 = .ok (.istore_n 2, 1) := by decide +kernel
theorem dX10_layAskers_7 : decode cX10_layAskers 7 = .ok (.iload_n 2, 1) := by decide +kernel
theorem dX10_layAskers_8 : decode cX10_layAskers 8 = .ok (.aload_n 0, 1) := by decide +kernel
theorem dX10_layAskers_9 : decode cX10_layAskers 9 = .ok (.getfield 96, 3) := by decide +kernel
theorem dX10_layAskers_12 : decode cX10_layAskers 12 = .ok (.if_icmp .ge 89, 3) := by decide +kernel
theorem dX10_layAskers_15 : decode cX10_layAskers 15 = .ok (.iconst 0, 1) := by decide +kernel
theorem dX10_layAskers_16 : decode cX10_layAskers 16 = .ok (.istore_n 3, 1) := by decide +kernel
theorem dX10_layAskers_17 : decode cX10_layAskers 17 = .ok (.iconst 0, 1) := by decide +kernel
theorem dX10_layAskers_18 : decode cX10_layAskers 18 = .ok (.istore 4, 2) := by decide +kernel
theorem dX10_layAskers_20 : decode cX10_layAskers 20 = .ok (.iload 4, 2) := by decide +kernel
theorem dX10_layAskers_22 : decode cX10_layAskers 22 = .ok (.aload_n 0, 1) := by decide +kernel
theorem dX10_layAskers_23 : decode cX10_layAskers 23 = .ok (.getfield 135, 3) := by decide +kernel
theorem dX10_layAskers_26 : decode cX10_layAskers 26 = .ok (.if_icmp .ge 45, 3) := by decide +kernel
theorem dX10_layAskers_29 : decode cX10_layAskers 29 = .ok (.iload_n 3, 1) := by decide +kernel
theorem dX10_layAskers_30 : decode cX10_layAskers 30 = .ok (.aload_n 0, 1) := by decide +kernel
theorem dX10_layAskers_31 : decode cX10_layAskers 31 = .ok (.getfield 29, 3) := by decide +kernel
theorem dX10_layAskers_34 : decode cX10_layAskers 34 = .ok (.iload 4, 2) := by decide +kernel
theorem dX10_layAskers_36 : decode cX10_layAskers 36 = .ok (.iaload, 1) := by decide +kernel
theorem dX10_layAskers_37 : decode cX10_layAskers 37 = .ok (.iload_n 1, 1) := by decide +kernel
theorem dX10_layAskers_38 : decode cX10_layAskers 38 = .ok (.if_icmp .ne 24, 3) := by decide +kernel
theorem dX10_layAskers_41 : decode cX10_layAskers 41 = .ok (.aload_n 0, 1) := by decide +kernel
theorem dX10_layAskers_42 : decode cX10_layAskers 42 = .ok (.getfield 26, 3) := by decide +kernel
theorem dX10_layAskers_45 : decode cX10_layAskers 45 = .ok (.iload 4, 2) := by decide +kernel
theorem dX10_layAskers_47 : decode cX10_layAskers 47 = .ok (.iaload, 1) := by decide +kernel
theorem dX10_layAskers_48 : decode cX10_layAskers 48 = .ok (.iload_n 2, 1) := by decide +kernel
theorem dX10_layAskers_49 : decode cX10_layAskers 49 = .ok (.if_icmp .ne 13, 3) := by decide +kernel
theorem dX10_layAskers_52 : decode cX10_layAskers 52 = .ok (.aload_n 0, 1) := by decide +kernel
theorem dX10_layAskers_53 : decode cX10_layAskers 53 = .ok (.getfield 32, 3) := by decide +kernel
theorem dX10_layAskers_56 : decode cX10_layAskers 56 = .ok (.iload 4, 2) := by decide +kernel
theorem dX10_layAskers_58 : decode cX10_layAskers 58 = .ok (.iaload, 1) := by decide +kernel
theorem dX10_layAskers_59 : decode cX10_layAskers 59 = .ok (.goto 4, 3) := by decide +kernel
theorem dX10_layAskers_62 : decode cX10_layAskers 62 = .ok (.iconst 0, 1) := by decide +kernel
theorem dX10_layAskers_63 : decode cX10_layAskers 63 = .ok (.iadd, 1) := by decide +kernel
theorem dX10_layAskers_64 : decode cX10_layAskers 64 = .ok (.istore_n 3, 1) := by decide +kernel
theorem dX10_layAskers_65 : decode cX10_layAskers 65 = .ok (.iinc 4 1, 3) := by decide +kernel
theorem dX10_layAskers_68 : decode cX10_layAskers 68 = .ok (.goto (-48), 3) := by decide +kernel
theorem dX10_layAskers_71 : decode cX10_layAskers 71 = .ok (.iload_n 3, 1) := by decide +kernel
theorem dX10_layAskers_72 : decode cX10_layAskers 72 = .ok (.ifCond .le 23, 3) := by decide +kernel
theorem dX10_layAskers_75 : decode cX10_layAskers 75 = .ok (.aload_n 0, 1) := by decide +kernel
theorem dX10_layAskers_76 : decode cX10_layAskers 76 = .ok (.getfield 89, 3) := by decide +kernel
theorem dX10_layAskers_79 : decode cX10_layAskers 79 = .ok (.aload_n 0, 1) := by decide +kernel
theorem dX10_layAskers_80 : decode cX10_layAskers 80 = .ok (.getfield 201, 3) := by decide +kernel
theorem dX10_layAskers_83 : decode cX10_layAskers 83 = .ok (.iload_n 3, 1) := by decide +kernel
theorem dX10_layAskers_84 : decode cX10_layAskers 84 = .ok (.iastore, 1) := by decide +kernel
theorem dX10_layAskers_85 : decode cX10_layAskers 85 = .ok (.aload_n 0, 1) := by decide +kernel
theorem dX10_layAskers_86 : decode cX10_layAskers 86 = .ok (.dup, 1) := by decide +kernel
theorem dX10_layAskers_87 : decode cX10_layAskers 87 = .ok (.getfield 201, 3) := by decide +kernel
theorem dX10_layAskers_90 : decode cX10_layAskers 90 = .ok (.iconst 1, 1) := by decide +kernel
theorem dX10_layAskers_91 : decode cX10_layAskers 91 = .ok (.iadd, 1) := by decide +kernel
theorem dX10_layAskers_92 : decode cX10_layAskers 92 = .ok (.putfield 201, 3) := by decide +kernel
theorem dX10_layAskers_95 : decode cX10_layAskers 95 = .ok (.iinc 2 1, 3) := by decide +kernel
theorem dX10_layAskers_98 : decode cX10_layAskers 98 = .ok (.goto (-91), 3) := by decide +kernel
theorem dX10_layAskers_101 : decode cX10_layAskers 101 = .ok (.return_, 1) := by decide +kernel
set_option maxRecDepth 20000 in
theorem ggX10_enoughBy_X10_has : GoodIn wsX10_enoughBy wsX10_has := goodIn_r _ [6] (by decide +kernel) (by decide +kernel)
set_option maxRecDepth 20000 in
theorem gX10_enoughBy_X10_has : GoodIn wsX10_enoughBy (va_wsS RX10 160 yX10_has wsX10_has) := goodIn_app (goodIn_of _ (by decide +kernel)) ggX10_enoughBy_X10_has
theorem dX10_enoughBy_0 : decode cX10_enoughBy 0 = .ok (.lconst 0, 1) := by decide +kernel
theorem dX10_enoughBy_1 : decode cX10_enoughBy 1 = .ok (.lstore_n 3, 1) := by decide +kernel
theorem dX10_enoughBy_2 : decode cX10_enoughBy 2 = .ok (.iconst 0, 1) := by decide +kernel
theorem dX10_enoughBy_3 : decode cX10_enoughBy 3 = .ok (.istore 5, 2) := by decide +kernel
theorem dX10_enoughBy_5 : decode cX10_enoughBy 5 = .ok (.iload 5, 2) := by decide +kernel
theorem dX10_enoughBy_7 : decode cX10_enoughBy 7 = .ok (.iconst 1, 1) := by decide +kernel
theorem dX10_enoughBy_8 : decode cX10_enoughBy 8 = .ok (.aload_n 0, 1) := by decide +kernel
theorem dX10_enoughBy_9 : decode cX10_enoughBy 9 = .ok (.getfield 201, 3) := by decide +kernel
theorem dX10_enoughBy_12 : decode cX10_enoughBy 12 = .ok (.ishl, 1) := by decide +kernel
theorem dX10_enoughBy_13 : decode cX10_enoughBy 13 = .ok (.if_icmp .ge 99, 3) := by decide +kernel
theorem dX10_enoughBy_16 : decode cX10_enoughBy 16 = .ok (.lconst 1, 1) := by decide +kernel
theorem dX10_enoughBy_17 : decode cX10_enoughBy 17 = .ok (.lstore 6, 2) := by decide +kernel
theorem dX10_enoughBy_19 : decode cX10_enoughBy 19 = .ok (.iconst 0, 1) := by decide +kernel
theorem dX10_enoughBy_20 : decode cX10_enoughBy 20 = .ok (.istore 8, 2) := by decide +kernel
theorem dX10_enoughBy_22 : decode cX10_enoughBy 22 = .ok (.iconst 0, 1) := by decide +kernel
theorem dX10_enoughBy_23 : decode cX10_enoughBy 23 = .ok (.istore 9, 2) := by decide +kernel
theorem dX10_enoughBy_25 : decode cX10_enoughBy 25 = .ok (.iload 9, 2) := by decide +kernel
theorem dX10_enoughBy_27 : decode cX10_enoughBy 27 = .ok (.aload_n 0, 1) := by decide +kernel
theorem dX10_enoughBy_28 : decode cX10_enoughBy 28 = .ok (.getfield 201, 3) := by decide +kernel
theorem dX10_enoughBy_31 : decode cX10_enoughBy 31 = .ok (.if_icmp .ge 60, 3) := by decide +kernel
theorem dX10_enoughBy_34 : decode cX10_enoughBy 34 = .ok (.lload 6, 2) := by decide +kernel
theorem dX10_enoughBy_36 : decode cX10_enoughBy 36 = .ok (.iload 5, 2) := by decide +kernel
theorem dX10_enoughBy_38 : decode cX10_enoughBy 38 = .ok (.iload 9, 2) := by decide +kernel
theorem dX10_enoughBy_40 : decode cX10_enoughBy 40 = .ok (.invokestatic 160, 3) := by decide +kernel
theorem dX10_enoughBy_43 : decode cX10_enoughBy 43 = .ok (.ifCond .eq 8, 3) := by decide +kernel
theorem dX10_enoughBy_46 : decode cX10_enoughBy 46 = .ok (.iload_n 2, 1) := by decide +kernel
theorem dX10_enoughBy_47 : decode cX10_enoughBy 47 = .ok (.i2l, 1) := by decide +kernel
theorem dX10_enoughBy_48 : decode cX10_enoughBy 48 = .ok (.goto 8, 3) := by decide +kernel
theorem dX10_enoughBy_51 : decode cX10_enoughBy 51 = .ok (.bipush 10, 2) := by decide +kernel
theorem dX10_enoughBy_53 : decode cX10_enoughBy 53 = .ok (.iload_n 2, 1) := by decide +kernel
theorem dX10_enoughBy_54 : decode cX10_enoughBy 54 = .ok (.isub, 1) := by decide +kernel
theorem dX10_enoughBy_55 : decode cX10_enoughBy 55 = .ok (.i2l, 1) := by decide +kernel
theorem dX10_enoughBy_56 : decode cX10_enoughBy 56 = .ok (.lmul, 1) := by decide +kernel
theorem dX10_enoughBy_57 : decode cX10_enoughBy 57 = .ok (.lstore 6, 2) := by decide +kernel
theorem dX10_enoughBy_59 : decode cX10_enoughBy 59 = .ok (.iload 8, 2) := by decide +kernel
theorem dX10_enoughBy_61 : decode cX10_enoughBy 61 = .ok (.iload 5, 2) := by decide +kernel
theorem dX10_enoughBy_63 : decode cX10_enoughBy 63 = .ok (.iload 9, 2) := by decide +kernel
theorem dX10_enoughBy_65 : decode cX10_enoughBy 65 = .ok (.invokestatic 160, 3) := by decide +kernel
theorem dX10_enoughBy_68 : decode cX10_enoughBy 68 = .ok (.ifCond .eq 13, 3) := by decide +kernel
theorem dX10_enoughBy_71 : decode cX10_enoughBy 71 = .ok (.aload_n 0, 1) := by decide +kernel
theorem dX10_enoughBy_72 : decode cX10_enoughBy 72 = .ok (.getfield 89, 3) := by decide +kernel
theorem dX10_enoughBy_75 : decode cX10_enoughBy 75 = .ok (.iload 9, 2) := by decide +kernel
theorem dX10_enoughBy_77 : decode cX10_enoughBy 77 = .ok (.iaload, 1) := by decide +kernel
theorem dX10_enoughBy_78 : decode cX10_enoughBy 78 = .ok (.goto 4, 3) := by decide +kernel
theorem dX10_enoughBy_81 : decode cX10_enoughBy 81 = .ok (.iconst 0, 1) := by decide +kernel
theorem dX10_enoughBy_82 : decode cX10_enoughBy 82 = .ok (.iadd, 1) := by decide +kernel
theorem dX10_enoughBy_83 : decode cX10_enoughBy 83 = .ok (.istore 8, 2) := by decide +kernel
theorem dX10_enoughBy_85 : decode cX10_enoughBy 85 = .ok (.iinc 9 1, 3) := by decide +kernel
theorem dX10_enoughBy_88 : decode cX10_enoughBy 88 = .ok (.goto (-63), 3) := by decide +kernel
theorem dX10_enoughBy_91 : decode cX10_enoughBy 91 = .ok (.lload_n 3, 1) := by decide +kernel
theorem dX10_enoughBy_92 : decode cX10_enoughBy 92 = .ok (.iload 8, 2) := by decide +kernel
theorem dX10_enoughBy_94 : decode cX10_enoughBy 94 = .ok (.iload_n 1, 1) := by decide +kernel
theorem dX10_enoughBy_95 : decode cX10_enoughBy 95 = .ok (.if_icmp .gt 8, 3) := by decide +kernel
theorem dX10_enoughBy_98 : decode cX10_enoughBy 98 = .ok (.lload 6, 2) := by decide +kernel
theorem dX10_enoughBy_100 : decode cX10_enoughBy 100 = .ok (.goto 4, 3) := by decide +kernel
theorem dX10_enoughBy_103 : decode cX10_enoughBy 103 = .ok (.lconst 0, 1) := by decide +kernel
theorem dX10_enoughBy_104 : decode cX10_enoughBy 104 = .ok (.ladd, 1) := by decide +kernel
theorem dX10_enoughBy_105 : decode cX10_enoughBy 105 = .ok (.lstore_n 3, 1) := by decide +kernel
theorem dX10_enoughBy_106 : decode cX10_enoughBy 106 = .ok (.iinc 5 1, 3) := by decide +kernel
theorem dX10_enoughBy_109 : decode cX10_enoughBy 109 = .ok (.goto (-104), 3) := by decide +kernel
theorem dX10_enoughBy_112 : decode cX10_enoughBy 112 = .ok (.lload_n 3, 1) := by decide +kernel
theorem dX10_enoughBy_113 : decode cX10_enoughBy 113 = .ok (.lreturn, 1) := by decide +kernel
theorem dX10_divisor_0 : decode cX10_divisor 0 = .ok (.lload_n 0, 1) := by decide +kernel
theorem dX10_divisor_1 : decode cX10_divisor 1 = .ok (.lstore 4, 2) := by decide +kernel
theorem dX10_divisor_3 : decode cX10_divisor 3 = .ok (.lload_n 2, 1) := by decide +kernel
theorem dX10_divisor_4 : decode cX10_divisor 4 = .ok (.lstore 6, 2) := by decide +kernel
theorem dX10_divisor_6 : decode cX10_divisor 6 = .ok (.lload 6, 2) := by decide +kernel
theorem dX10_divisor_8 : decode cX10_divisor 8 = .ok (.lconst 0, 1) := by decide +kernel
theorem dX10_divisor_9 : decode cX10_divisor 9 = .ok (.lcmp, 1) := by decide +kernel
theorem dX10_divisor_10 : decode cX10_divisor 10 = .ok (.ifCond .eq 21, 3) := by decide +kernel
theorem dX10_divisor_13 : decode cX10_divisor 13 = .ok (.lload 4, 2) := by decide +kernel
theorem dX10_divisor_15 : decode cX10_divisor 15 = .ok (.lload 6, 2) := by decide +kernel
theorem dX10_divisor_17 : decode cX10_divisor 17 = .ok (.lrem, 1) := by decide +kernel
theorem dX10_divisor_18 : decode cX10_divisor 18 = .ok (.lstore 8, 2) := by decide +kernel
theorem dX10_divisor_20 : decode cX10_divisor 20 = .ok (.lload 6, 2) := by decide +kernel
theorem dX10_divisor_22 : decode cX10_divisor 22 = .ok (.lstore 4, 2) := by decide +kernel
theorem dX10_divisor_24 : decode cX10_divisor 24 = .ok (.lload 8, 2) := by decide +kernel
theorem dX10_divisor_26 : decode cX10_divisor 26 = .ok (.lstore 6, 2) := by decide +kernel
theorem dX10_divisor_28 : decode cX10_divisor 28 = .ok (.goto (-22), 3) := by decide +kernel
theorem dX10_divisor_31 : decode cX10_divisor 31 = .ok (.lload 4, 2) := by decide +kernel
theorem dX10_divisor_33 : decode cX10_divisor 33 = .ok (.lreturn, 1) := by decide +kernel
theorem dX10_wholeOf_0 : decode cX10_wholeOf 0 = .ok (.lconst 1, 1) := by decide +kernel
theorem dX10_wholeOf_1 : decode cX10_wholeOf 1 = .ok (.lstore_n 1, 1) := by decide +kernel
theorem dX10_wholeOf_2 : decode cX10_wholeOf 2 = .ok (.iconst 0, 1) := by decide +kernel
theorem dX10_wholeOf_3 : decode cX10_wholeOf 3 = .ok (.istore_n 3, 1) := by decide +kernel
theorem dX10_wholeOf_4 : decode cX10_wholeOf 4 = .ok (.iload_n 3, 1) := by decide +kernel
theorem dX10_wholeOf_5 : decode cX10_wholeOf 5 = .ok (.aload_n 0, 1) := by decide +kernel
theorem dX10_wholeOf_6 : decode cX10_wholeOf 6 = .ok (.getfield 201, 3) := by decide +kernel
theorem dX10_wholeOf_9 : decode cX10_wholeOf 9 = .ok (.if_icmp .ge 15, 3) := by decide +kernel
theorem dX10_wholeOf_12 : decode cX10_wholeOf 12 = .ok (.lload_n 1, 1) := by decide +kernel
theorem dX10_wholeOf_13 : decode cX10_wholeOf 13 = .ok (.ldc2_w 204, 3) := by decide +kernel
theorem dX10_wholeOf_16 : decode cX10_wholeOf 16 = .ok (.lmul, 1) := by decide +kernel
theorem dX10_wholeOf_17 : decode cX10_wholeOf 17 = .ok (.lstore_n 1, 1) := by decide +kernel
theorem dX10_wholeOf_18 : decode cX10_wholeOf 18 = .ok (.iinc 3 1, 3) := by decide +kernel
theorem dX10_wholeOf_21 : decode cX10_wholeOf 21 = .ok (.goto (-17), 3) := by decide +kernel
theorem dX10_wholeOf_24 : decode cX10_wholeOf 24 = .ok (.lload_n 1, 1) := by decide +kernel
theorem dX10_wholeOf_25 : decode cX10_wholeOf 25 = .ok (.lreturn, 1) := by decide +kernel
set_option maxRecDepth 20000 in
theorem ggX10_run_X10_noOne : GoodIn wsX10_run wsX10_noOne := goodIn_r _ [10, 11, 12, 13, 9, 14, 39, 40, 41, 42, 43, 44, 45, 46, 47, 48, 49, 50, 51, 52, 53, 54, 55, 56, 57, 58, 59, 60, 61, 62, 63, 64, 65, 66, 67, 68, 69, 70, 71, 72, 73, 74, 75, 76] (by decide +kernel) (by decide +kernel)
set_option maxRecDepth 20000 in
theorem gX10_run_X10_noOne : GoodIn wsX10_run (wsV RX10 151 RX10 yX10_noOne wsX10_noOne) := goodIn_app (goodIn_of _ (by decide +kernel)) ggX10_run_X10_noOne
set_option maxRecDepth 20000 in
theorem ggX10_run_X10_in : GoodIn wsX10_run wsX10_in := goodIn_r _ [14] (by decide +kernel) (by decide +kernel)
set_option maxRecDepth 20000 in
theorem gX10_run_X10_in : GoodIn wsX10_run (va_wsS RX10 99 yX10_in wsX10_in) := goodIn_app (goodIn_of _ (by decide +kernel)) ggX10_run_X10_in
set_option maxRecDepth 20000 in
theorem ggX10_run_X10_layAskers : GoodIn wsX10_run wsX10_layAskers := goodIn_r _ [18, 19, 11, 20, 21, 22, 23, 24, 39, 40, 41, 42, 43, 44, 45, 46, 47, 48, 49, 50, 51, 52, 53, 54, 55, 56, 57, 58, 59, 60, 61, 62, 63, 64, 65, 66, 67, 68, 69, 70, 71, 72, 73, 74, 75, 76] (by decide +kernel) (by decide +kernel)
set_option maxRecDepth 20000 in
theorem gX10_run_X10_layAskers : GoodIn wsX10_run (wsV RX10 210 RX10 yX10_layAskers wsX10_layAskers) := goodIn_app (goodIn_of _ (by decide +kernel)) ggX10_run_X10_layAskers
set_option maxRecDepth 20000 in
theorem ggX10_run_X10_enoughBy : GoodIn wsX10_run wsX10_enoughBy := goodIn_r _ [28, 19, 24, 29, 30, 9, 31, 39, 40, 41, 42, 43, 44, 45, 46, 47, 48, 49, 50, 51, 52, 53, 54, 55, 56, 57, 58, 59, 60, 61, 62, 63, 64, 65, 66, 67, 68, 69, 70, 71, 72, 73, 74, 75, 76] (by decide +kernel) (by decide +kernel)
set_option maxRecDepth 20000 in
theorem gX10_run_X10_enoughBy : GoodIn wsX10_run (wsV RX10 213 RX10 yX10_enoughBy wsX10_enoughBy) := goodIn_app (goodIn_of _ (by decide +kernel)) ggX10_run_X10_enoughBy
set_option maxRecDepth 20000 in
theorem ggX10_run_X10_wholeOf : GoodIn wsX10_run wsX10_wholeOf := goodIn_r _ [35, 19, 3, 39, 40, 41, 42, 43, 44, 45, 46, 47, 48, 49, 50, 51, 52, 53, 54, 55, 56, 57, 58, 59, 60, 61, 62, 63, 64, 65, 66, 67, 68, 69, 70, 71, 72, 73, 74, 75, 76] (by decide +kernel) (by decide +kernel)
set_option maxRecDepth 20000 in
theorem gX10_run_X10_wholeOf : GoodIn wsX10_run (wsV RX10 217 RX10 yX10_wholeOf wsX10_wholeOf) := goodIn_app (goodIn_of _ (by decide +kernel)) ggX10_run_X10_wholeOf
set_option maxRecDepth 20000 in
theorem ggX10_run_X10_divisor : GoodIn wsX10_run wsX10_divisor := goodIn_r _ [38] (by decide +kernel) (by decide +kernel)
set_option maxRecDepth 20000 in
theorem gX10_run_X10_divisor : GoodIn wsX10_run (va_wsS RX10 221 yX10_divisor wsX10_divisor) := goodIn_app (goodIn_of _ (by decide +kernel)) ggX10_run_X10_divisor
theorem dX10_run_0 : decode cX10_run 0 = .ok (.aload_n 0, 1) := by decide +kernel
theorem dX10_run_1 : decode cX10_run 1 = .ok (.iconst 0, 1) := by decide +kernel
theorem dX10_run_2 : decode cX10_run 2 = .ok (.putfield 92, 3) := by decide +kernel
theorem dX10_run_5 : decode cX10_run 5 = .ok (.aload_n 0, 1) := by decide +kernel
theorem dX10_run_6 : decode cX10_run 6 = .ok (.iload_n 1, 1) := by decide +kernel
theorem dX10_run_7 : decode cX10_run 7 = .ok (.invokevirtual 151, 3) := by decide +kernel
theorem dX10_run_10 : decode cX10_run 10 = .ok (.ifCond .eq 7, 3) := by decide +kernel
theorem dX10_run_13 : decode cX10_run 13 = .ok (.ldc2_w 206, 3) := by decide +kernel
theorem dX10_run_16 : decode cX10_run 16 = .ok (.lreturn, 1) := by decide +kernel
theorem dX10_run_17 : decode cX10_run 17 = .ok (.iload_n 2, 1) := by decide +kernel
theorem dX10_run_18 : decode cX10_run 18 = .ok (.i2l, 1) := by decide +kernel
theorem dX10_run_19 : decode cX10_run 19 = .ok (.lconst 0, 1) := by decide +kernel
theorem dX10_run_20 : decode cX10_run 20 = .ok (.ldc2_w 204, 3) := by decide +kernel
theorem dX10_run_23 : decode cX10_run 23 = .ok (.invokestatic 99, 3) := by decide +kernel
theorem dX10_run_26 : decode cX10_run 26 = .ok (.ifCond .ne 7, 3) := by decide +kernel
theorem dX10_run_29 : decode cX10_run 29 = .ok (.ldc2_w 208, 3) := by decide +kernel
theorem dX10_run_32 : decode cX10_run 32 = .ok (.lreturn, 1) := by decide +kernel
theorem dX10_run_33 : decode cX10_run 33 = .ok (.aload_n 0, 1) := by decide +kernel
theorem dX10_run_34 : decode cX10_run 34 = .ok (.iload_n 1, 1) := by decide +kernel
theorem dX10_run_35 : decode cX10_run 35 = .ok (.invokevirtual 210, 3) := by decide +kernel
theorem dX10_run_38 : decode cX10_run 38 = .ok (.aload_n 0, 1) := by decide +kernel
theorem dX10_run_39 : decode cX10_run 39 = .ok (.aload_n 0, 1) := by decide +kernel
theorem dX10_run_40 : decode cX10_run 40 = .ok (.getfield 13, 3) := by decide +kernel
theorem dX10_run_43 : decode cX10_run 43 = .ok (.iload_n 1, 1) := by decide +kernel
theorem dX10_run_44 : decode cX10_run 44 = .ok (.iaload, 1) := by decide +kernel
theorem dX10_run_45 : decode cX10_run 45 = .ok (.iload_n 2, 1) := by decide +kernel
theorem dX10_run_46 : decode cX10_run 46 = .ok (.invokevirtual 213, 3) := by decide +kernel
theorem dX10_run_49 : decode cX10_run 49 = .ok (.lstore 4, 2) := by decide +kernel
theorem dX10_run_51 : decode cX10_run 51 = .ok (.lload 4, 2) := by decide +kernel
theorem dX10_run_53 : decode cX10_run 53 = .ok (.aload_n 0, 1) := by decide +kernel
theorem dX10_run_54 : decode cX10_run 54 = .ok (.invokevirtual 217, 3) := by decide +kernel
theorem dX10_run_57 : decode cX10_run 57 = .ok (.invokestatic 221, 3) := by decide +kernel
theorem dX10_run_60 : decode cX10_run 60 = .ok (.lstore 6, 2) := by decide +kernel
theorem dX10_run_62 : decode cX10_run 62 = .ok (.iload_n 3, 1) := by decide +kernel
theorem dX10_run_63 : decode cX10_run 63 = .ok (.ifCond .eq 11, 3) := by decide +kernel
theorem dX10_run_66 : decode cX10_run 66 = .ok (.lload 4, 2) := by decide +kernel
theorem dX10_run_68 : decode cX10_run 68 = .ok (.lload 6, 2) := by decide +kernel
theorem dX10_run_70 : decode cX10_run 70 = .ok (.ldiv, 1) := by decide +kernel
theorem dX10_run_71 : decode cX10_run 71 = .ok (.goto 10, 3) := by decide +kernel
theorem dX10_run_74 : decode cX10_run 74 = .ok (.aload_n 0, 1) := by decide +kernel
theorem dX10_run_75 : decode cX10_run 75 = .ok (.invokevirtual 217, 3) := by decide +kernel
theorem dX10_run_78 : decode cX10_run 78 = .ok (.lload 6, 2) := by decide +kernel
theorem dX10_run_80 : decode cX10_run 80 = .ok (.ldiv, 1) := by decide +kernel
theorem dX10_run_81 : decode cX10_run 81 = .ok (.lreturn, 1) := by decide +kernel
set_option maxRecDepth 20000 in
theorem ggX10_enough_X10_noOne : GoodIn wsX10_enough wsX10_noOne := goodIn_r _ [8, 9, 10, 11, 7, 12, 34, 35, 36, 37, 38, 39, 40, 41, 42, 43, 44, 45, 46, 47, 48, 49, 50, 51, 52, 53, 54, 55, 56, 57, 58, 59, 60, 61, 62, 63, 64, 65, 66, 67, 68, 69, 70, 71] (by decide +kernel) (by decide +kernel)
set_option maxRecDepth 20000 in
theorem gX10_enough_X10_noOne : GoodIn wsX10_enough (wsV RX10 151 RX10 yX10_noOne wsX10_noOne) := goodIn_app (goodIn_of _ (by decide +kernel)) ggX10_enough_X10_noOne
set_option maxRecDepth 20000 in
theorem ggX10_enough_X10_in : GoodIn wsX10_enough wsX10_in := goodIn_r _ [12] (by decide +kernel) (by decide +kernel)
set_option maxRecDepth 20000 in
theorem gX10_enough_X10_in : GoodIn wsX10_enough (va_wsS RX10 99 yX10_in wsX10_in) := goodIn_app (goodIn_of _ (by decide +kernel)) ggX10_enough_X10_in
set_option maxRecDepth 20000 in
theorem ggX10_enough_X10_layAskers : GoodIn wsX10_enough wsX10_layAskers := goodIn_r _ [16, 17, 9, 18, 19, 20, 21, 22, 34, 35, 36, 37, 38, 39, 40, 41, 42, 43, 44, 45, 46, 47, 48, 49, 50, 51, 52, 53, 54, 55, 56, 57, 58, 59, 60, 61, 62, 63, 64, 65, 66, 67, 68, 69, 70, 71] (by decide +kernel) (by decide +kernel)
set_option maxRecDepth 20000 in
theorem gX10_enough_X10_layAskers : GoodIn wsX10_enough (wsV RX10 210 RX10 yX10_layAskers wsX10_layAskers) := goodIn_app (goodIn_of _ (by decide +kernel)) ggX10_enough_X10_layAskers
set_option maxRecDepth 20000 in
theorem ggX10_enough_X10_enoughBy : GoodIn wsX10_enough wsX10_enoughBy := goodIn_r _ [26, 17, 22, 27, 28, 7, 29, 34, 35, 36, 37, 38, 39, 40, 41, 42, 43, 44, 45, 46, 47, 48, 49, 50, 51, 52, 53, 54, 55, 56, 57, 58, 59, 60, 61, 62, 63, 64, 65, 66, 67, 68, 69, 70, 71] (by decide +kernel) (by decide +kernel)
set_option maxRecDepth 20000 in
theorem gX10_enough_X10_enoughBy : GoodIn wsX10_enough (wsV RX10 213 RX10 yX10_enoughBy wsX10_enoughBy) := goodIn_app (goodIn_of _ (by decide +kernel)) ggX10_enough_X10_enoughBy
set_option maxRecDepth 20000 in
theorem ggX10_enough_X10_wholeOf : GoodIn wsX10_enough wsX10_wholeOf := goodIn_r _ [33, 17, 2, 34, 35, 36, 37, 38, 39, 40, 41, 42, 43, 44, 45, 46, 47, 48, 49, 50, 51, 52, 53, 54, 55, 56, 57, 58, 59, 60, 61, 62, 63, 64, 65, 66, 67, 68, 69, 70, 71] (by decide +kernel) (by decide +kernel)
set_option maxRecDepth 20000 in
theorem gX10_enough_X10_wholeOf : GoodIn wsX10_enough (wsV RX10 217 RX10 yX10_wholeOf wsX10_wholeOf) := goodIn_app (goodIn_of _ (by decide +kernel)) ggX10_enough_X10_wholeOf
theorem dX10_enough_0 : decode cX10_enough 0 = .ok (.aload_n 0, 1) := by decide +kernel
theorem dX10_enough_1 : decode cX10_enough 1 = .ok (.iconst 0, 1) := by decide +kernel
theorem dX10_enough_2 : decode cX10_enough 2 = .ok (.putfield 92, 3) := by decide +kernel
theorem dX10_enough_5 : decode cX10_enough 5 = .ok (.aload_n 0, 1) := by decide +kernel
theorem dX10_enough_6 : decode cX10_enough 6 = .ok (.iload_n 1, 1) := by decide +kernel
theorem dX10_enough_7 : decode cX10_enough 7 = .ok (.invokevirtual 151, 3) := by decide +kernel
theorem dX10_enough_10 : decode cX10_enough 10 = .ok (.ifCond .eq 5, 3) := by decide +kernel
theorem dX10_enough_13 : decode cX10_enough 13 = .ok (.iconst (-1), 1) := by decide +kernel
theorem dX10_enough_14 : decode cX10_enough 14 = .ok (.ireturn, 1) := by decide +kernel
theorem dX10_enough_15 : decode cX10_enough 15 = .ok (.iload_n 2, 1) := by decide +kernel
theorem dX10_enough_16 : decode cX10_enough 16 = .ok (.i2l, 1) := by decide +kernel
theorem dX10_enough_17 : decode cX10_enough 17 = .ok (.lconst 0, 1) := by decide +kernel
theorem dX10_enough_18 : decode cX10_enough 18 = .ok (.ldc2_w 204, 3) := by decide +kernel
theorem dX10_enough_21 : decode cX10_enough 21 = .ok (.invokestatic 99, 3) := by decide +kernel
theorem dX10_enough_24 : decode cX10_enough 24 = .ok (.ifCond .eq 15, 3) := by decide +kernel
theorem dX10_enough_27 : decode cX10_enough 27 = .ok (.iload_n 3, 1) := by decide +kernel
theorem dX10_enough_28 : decode cX10_enough 28 = .ok (.i2l, 1) := by decide +kernel
theorem dX10_enough_29 : decode cX10_enough 29 = .ok (.lconst 0, 1) := by decide +kernel
theorem dX10_enough_30 : decode cX10_enough 30 = .ok (.ldc2_w 225, 3) := by decide +kernel
theorem dX10_enough_33 : decode cX10_enough 33 = .ok (.invokestatic 99, 3) := by decide +kernel
theorem dX10_enough_36 : decode cX10_enough 36 = .ok (.ifCond .ne 6, 3) := by decide +kernel
theorem dX10_enough_39 : decode cX10_enough 39 = .ok (.bipush (-2), 2) := by decide +kernel
theorem dX10_enough_41 : decode cX10_enough 41 = .ok (.ireturn, 1) := by decide +kernel
theorem dX10_enough_42 : decode cX10_enough 42 = .ok (.aload_n 0, 1) := by decide +kernel
theorem dX10_enough_43 : decode cX10_enough 43 = .ok (.iload_n 1, 1) := by decide +kernel
theorem dX10_enough_44 : decode cX10_enough 44 = .ok (.invokevirtual 210, 3) := by decide +kernel
theorem dX10_enough_47 : decode cX10_enough 47 = .ok (.iconst 0, 1) := by decide +kernel
theorem dX10_enough_48 : decode cX10_enough 48 = .ok (.istore 4, 2) := by decide +kernel
theorem dX10_enough_50 : decode cX10_enough 50 = .ok (.aload_n 0, 1) := by decide +kernel
theorem dX10_enough_51 : decode cX10_enough 51 = .ok (.iload 4, 2) := by decide +kernel
theorem dX10_enough_53 : decode cX10_enough 53 = .ok (.iload_n 2, 1) := by decide +kernel
theorem dX10_enough_54 : decode cX10_enough 54 = .ok (.invokevirtual 213, 3) := by decide +kernel

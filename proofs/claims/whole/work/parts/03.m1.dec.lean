theorem dX10_about_53 : decode cX10_about 53 = .ok (.iload 6, 2) := by decide +kernel
theorem dX10_about_55 : decode cX10_about 55 = .ok (.baload, 1) := by decide +kernel
theorem dX10_about_56 : decode cX10_about 56 = .ok (.ifCond .eq 10, 3) := by decide +kernel
theorem dX10_about_59 : decode cX10_about 59 = .ok (.iconst 1, 1) := by decide +kernel
theorem dX10_about_60 : decode cX10_about 60 = .ok (.iload 6, 2) := by decide +kernel
theorem dX10_about_62 : decode cX10_about 62 = .ok (.ishl, 1) := by decide +kernel
theorem dX10_about_63 : decode cX10_about 63 = .ok (.goto 4, 3) := by decide +kernel
theorem dX10_about_66 : decode cX10_about 66 = .ok (.iconst 0, 1) := by decide +kernel
theorem dX10_about_67 : decode cX10_about 67 = .ok (.ior, 1) := by decide +kernel
theorem dX10_about_68 : decode cX10_about 68 = .ok (.istore_n 3, 1) := by decide +kernel
theorem dX10_about_69 : decode cX10_about 69 = .ok (.iload 4, 2) := by decide +kernel
theorem dX10_about_71 : decode cX10_about 71 = .ok (.aload_n 0, 1) := by decide +kernel
theorem dX10_about_72 : decode cX10_about 72 = .ok (.getfield 13, 3) := by decide +kernel
theorem dX10_about_75 : decode cX10_about 75 = .ok (.iload 6, 2) := by decide +kernel
theorem dX10_about_77 : decode cX10_about 77 = .ok (.iaload, 1) := by decide +kernel
theorem dX10_about_78 : decode cX10_about 78 = .ok (.iadd, 1) := by decide +kernel
theorem dX10_about_79 : decode cX10_about 79 = .ok (.istore 4, 2) := by decide +kernel
theorem dX10_about_81 : decode cX10_about 81 = .ok (.iload 5, 2) := by decide +kernel
theorem dX10_about_83 : decode cX10_about 83 = .ok (.aload_n 0, 1) := by decide +kernel
theorem dX10_about_84 : decode cX10_about 84 = .ok (.iload 6, 2) := by decide +kernel
theorem dX10_about_86 : decode cX10_about 86 = .ok (.invokevirtual 144, 3) := by decide +kernel
theorem dX10_about_89 : decode cX10_about 89 = .ok (.iadd, 1) := by decide +kernel
theorem dX10_about_90 : decode cX10_about 90 = .ok (.istore 5, 2) := by decide +kernel
theorem dX10_about_92 : decode cX10_about 92 = .ok (.iinc 6 1, 3) := by decide +kernel
theorem dX10_about_95 : decode cX10_about 95 = .ok (.goto (-77), 3) := by decide +kernel
theorem dX10_about_98 : decode cX10_about 98 = .ok (.iload_n 1, 1) := by decide +kernel
theorem dX10_about_99 : decode cX10_about 99 = .ok (.tableswitch 93 0 9 #[53, 58, 63, 68, 73, 75, 77, 80, 83, 88], 53) := by decide +kernel
theorem dX10_about_152 : decode cX10_about 152 = .ok (.aload_n 0, 1) := by decide +kernel
theorem dX10_about_153 : decode cX10_about 153 = .ok (.getfield 96, 3) := by decide +kernel
theorem dX10_about_156 : decode cX10_about 156 = .ok (.ireturn, 1) := by decide +kernel
theorem dX10_about_157 : decode cX10_about 157 = .ok (.aload_n 0, 1) := by decide +kernel
theorem dX10_about_158 : decode cX10_about 158 = .ok (.getfield 135, 3) := by decide +kernel
theorem dX10_about_161 : decode cX10_about 161 = .ok (.ireturn, 1) := by decide +kernel
theorem dX10_about_162 : decode cX10_about 162 = .ok (.aload_n 0, 1) := by decide +kernel
theorem dX10_about_163 : decode cX10_about 163 = .ok (.getfield 138, 3) := by decide +kernel
theorem dX10_about_166 : decode cX10_about 166 = .ok (.ireturn, 1) := by decide +kernel
theorem dX10_about_167 : decode cX10_about 167 = .ok (.aload_n 0, 1) := by decide +kernel
theorem dX10_about_168 : decode cX10_about 168 = .ok (.getfield 141, 3) := by decide +kernel
theorem dX10_about_171 : decode cX10_about 171 = .ok (.ireturn, 1) := by decide +kernel
theorem dX10_about_172 : decode cX10_about 172 = .ok (.iload_n 2, 1) := by decide +kernel
theorem dX10_about_173 : decode cX10_about 173 = .ok (.ireturn, 1) := by decide +kernel
theorem dX10_about_174 : decode cX10_about 174 = .ok (.iload_n 3, 1) := by decide +kernel
theorem dX10_about_175 : decode cX10_about 175 = .ok (.ireturn, 1) := by decide +kernel
theorem dX10_about_176 : decode cX10_about 176 = .ok (.iload 4, 2) := by decide +kernel
theorem dX10_about_178 : decode cX10_about 178 = .ok (.ireturn, 1) := by decide +kernel
theorem dX10_about_179 : decode cX10_about 179 = .ok (.iload 5, 2) := by decide +kernel
theorem dX10_about_181 : decode cX10_about 181 = .ok (.ireturn, 1) := by decide +kernel
theorem dX10_about_182 : decode cX10_about 182 = .ok (.aload_n 0, 1) := by decide +kernel
theorem dX10_about_183 : decode cX10_about 183 = .ok (.getfield 148, 3) := by decide +kernel
theorem dX10_about_186 : decode cX10_about 186 = .ok (.ireturn, 1) := by decide +kernel
theorem dX10_about_187 : decode cX10_about 187 = .ok (.aload_n 0, 1) := by decide +kernel
theorem dX10_about_188 : decode cX10_about 188 = .ok (.getfield 105, 3) := by decide +kernel
theorem dX10_about_191 : decode cX10_about 191 = .ok (.ireturn, 1) := by decide +kernel
theorem dX10_about_192 : decode cX10_about 192 = .ok (.bipush (-2), 2) := by decide +kernel
theorem dX10_about_194 : decode cX10_about 194 = .ok (.ireturn, 1) := by decide +kernel
set_option maxRecDepth 20000 in
theorem ggX10_person_X10_noOne : GoodIn wsX10_person wsX10_noOne := goodIn_r _ [10, 11, 12, 13, 9, 14, 27, 28, 29, 30, 31, 32, 33, 34, 35, 36, 37, 38, 39, 40, 41, 42, 43, 44, 45, 46, 47, 48, 49, 50, 51, 52, 53, 54, 55, 56, 57, 58, 59, 60, 61, 62, 63, 64] (by decide +kernel) (by decide +kernel)
set_option maxRecDepth 20000 in
theorem gX10_person_X10_noOne : GoodIn wsX10_person (wsV RX10 151 RX10 yX10_noOne wsX10_noOne) := goodIn_app (goodIn_of _ (by decide +kernel)) ggX10_person_X10_noOne
set_option maxRecDepth 20000 in
theorem ggX10_person_X10_owesAll : GoodIn wsX10_person wsX10_owesAll := goodIn_r _ [18, 19, 20, 21, 27, 28, 29, 30, 31, 32, 33, 34, 35, 36, 37, 38, 39, 40, 41, 42, 43, 44, 45, 46, 47, 48, 49, 50, 51, 52, 53, 54, 55, 56, 57, 58, 59, 60, 61, 62, 63, 64] (by decide +kernel) (by decide +kernel)
set_option maxRecDepth 20000 in
theorem gX10_person_X10_owesAll : GoodIn wsX10_person (wsV RX10 144 RX10 yX10_owesAll wsX10_owesAll) := goodIn_app (goodIn_of _ (by decide +kernel)) ggX10_person_X10_owesAll
set_option maxRecDepth 20000 in
theorem ggX10_person_X10_owedAll : GoodIn wsX10_person wsX10_owedAll := goodIn_r _ [25, 19, 26, 21, 27, 28, 29, 30, 31, 32, 33, 34, 35, 36, 37, 38, 39, 40, 41, 42, 43, 44, 45, 46, 47, 48, 49, 50, 51, 52, 53, 54, 55, 56, 57, 58, 59, 60, 61, 62, 63, 64] (by decide +kernel) (by decide +kernel)
set_option maxRecDepth 20000 in
theorem gX10_person_X10_owedAll : GoodIn wsX10_person (wsV RX10 155 RX10 yX10_owedAll wsX10_owedAll) := goodIn_app (goodIn_of _ (by decide +kernel)) ggX10_person_X10_owedAll
theorem dX10_person_0 : decode cX10_person 0 = .ok (.aload_n 0, 1) := by decide +kernel
theorem dX10_person_1 : decode cX10_person 1 = .ok (.iconst 0, 1) := by decide +kernel
theorem dX10_person_2 : decode cX10_person 2 = .ok (.putfield 92, 3) := by decide +kernel
theorem dX10_person_5 : decode cX10_person 5 = .ok (.aload_n 0, 1) := by decide +kernel
theorem dX10_person_6 : decode cX10_person 6 = .ok (.iload_n 1, 1) := by decide +kernel
theorem dX10_person_7 : decode cX10_person 7 = .ok (.invokevirtual 151, 3) := by decide +kernel
theorem dX10_person_10 : decode cX10_person 10 = .ok (.ifCond .eq 5, 3) := by decide +kernel
theorem dX10_person_13 : decode cX10_person 13 = .ok (.iconst (-1), 1) := by decide +kernel
theorem dX10_person_14 : decode cX10_person 14 = .ok (.ireturn, 1) := by decide +kernel
theorem dX10_person_15 : decode cX10_person 15 = .ok (.iload_n 2, 1) := by decide +kernel
theorem dX10_person_16 : decode cX10_person 16 = .ok (.tableswitch 116 0 6 #[44, 51, 58, 73, 88, 94, 100], 44) := by decide +kernel
theorem dX10_person_60 : decode cX10_person 60 = .ok (.aload_n 0, 1) := by decide +kernel
theorem dX10_person_61 : decode cX10_person 61 = .ok (.getfield 13, 3) := by decide +kernel
theorem dX10_person_64 : decode cX10_person 64 = .ok (.iload_n 1, 1) := by decide +kernel
theorem dX10_person_65 : decode cX10_person 65 = .ok (.iaload, 1) := by decide +kernel
theorem dX10_person_66 : decode cX10_person 66 = .ok (.ireturn, 1) := by decide +kernel
theorem dX10_person_67 : decode cX10_person 67 = .ok (.aload_n 0, 1) := by decide +kernel
theorem dX10_person_68 : decode cX10_person 68 = .ok (.getfield 16, 3) := by decide +kernel
theorem dX10_person_71 : decode cX10_person 71 = .ok (.iload_n 1, 1) := by decide +kernel
theorem dX10_person_72 : decode cX10_person 72 = .ok (.iaload, 1) := by decide +kernel
theorem dX10_person_73 : decode cX10_person 73 = .ok (.ireturn, 1) := by decide +kernel
theorem dX10_person_74 : decode cX10_person 74 = .ok (.aload_n 0, 1) := by decide +kernel
theorem dX10_person_75 : decode cX10_person 75 = .ok (.getfield 19, 3) := by decide +kernel
theorem dX10_person_78 : decode cX10_person 78 = .ok (.iload_n 1, 1) := by decide +kernel
theorem dX10_person_79 : decode cX10_person 79 = .ok (.baload, 1) := by decide +kernel
theorem dX10_person_80 : decode cX10_person 80 = .ok (.ifCond .eq 7, 3) := by decide +kernel
theorem dX10_person_83 : decode cX10_person 83 = .ok (.iconst 0, 1) := by decide +kernel
theorem dX10_person_84 : decode cX10_person 84 = .ok (.goto 4, 3) := by decide +kernel
theorem dX10_person_87 : decode cX10_person 87 = .ok (.iconst 1, 1) := by decide +kernel
theorem dX10_person_88 : decode cX10_person 88 = .ok (.ireturn, 1) := by decide +kernel
theorem dX10_person_89 : decode cX10_person 89 = .ok (.aload_n 0, 1) := by decide +kernel
theorem dX10_person_90 : decode cX10_person 90 = .ok (.getfield 23, 3) := by decide +kernel
theorem dX10_person_93 : decode cX10_person 93 = .ok (.iload_n 1, 1) := by decide +kernel
theorem dX10_person_94 : decode cX10_person 94 = .ok (.baload, 1) := by decide +kernel
theorem dX10_person_95 : decode cX10_person 95 = .ok (.ifCond .eq 7, 3) := by decide +kernel
theorem dX10_person_98 : decode cX10_person 98 = .ok (.iconst 1, 1) := by decide +kernel
theorem dX10_person_99 : decode cX10_person 99 = .ok (.goto 4, 3) := by decide +kernel
theorem dX10_person_102 : decode cX10_person 102 = .ok (.iconst 0, 1) := by decide +kernel
theorem dX10_person_103 : decode cX10_person 103 = .ok (.ireturn, 1) := by decide +kernel
theorem dX10_person_104 : decode cX10_person 104 = .ok (.aload_n 0, 1) := by decide +kernel
theorem dX10_person_105 : decode cX10_person 105 = .ok (.iload_n 1, 1) := by decide +kernel
theorem dX10_person_106 : decode cX10_person 106 = .ok (.invokevirtual 144, 3) := by decide +kernel
theorem dX10_person_109 : decode cX10_person 109 = .ok (.ireturn, 1) := by decide +kernel
theorem dX10_person_110 : decode cX10_person 110 = .ok (.aload_n 0, 1) := by decide +kernel
theorem dX10_person_111 : decode cX10_person 111 = .ok (.iload_n 1, 1) := by decide +kernel
theorem dX10_person_112 : decode cX10_person 112 = .ok (.invokevirtual 155, 3) := by decide +kernel
theorem dX10_person_115 : decode cX10_person 115 = .ok (.ireturn, 1) := by decide +kernel
theorem dX10_person_116 : decode cX10_person 116 = .ok (.sipush 10000, 3) := by decide +kernel
theorem dX10_person_119 : decode cX10_person 119 = .ok (.aload_n 0, 1) := by decide +kernel
theorem dX10_person_120 : decode cX10_person 120 = .ok (.iload_n 1, 1) := by decide +kernel
theorem dX10_person_121 : decode cX10_person 121 = .ok (.invokevirtual 155, 3) := by decide +kernel
theorem dX10_person_124 : decode cX10_person 124 = .ok (.iadd, 1) := by decide +kernel
theorem dX10_person_125 : decode cX10_person 125 = .ok (.aload_n 0, 1) := by decide +kernel
theorem dX10_person_126 : decode cX10_person 126 = .ok (.iload_n 1, 1) := by decide +kernel
theorem dX10_person_127 : decode cX10_person 127 = .ok (.invokevirtual 144, 3) := by decide +kernel
theorem dX10_person_130 : decode cX10_person 130 = .ok (.isub, 1) := by decide +kernel
theorem dX10_person_131 : decode cX10_person 131 = .ok (.ireturn, 1) := by decide +kernel
theorem dX10_person_132 : decode cX10_person 132 = .ok (.bipush (-2), 2) := by decide +kernel
theorem dX10_person_134 : decode cX10_person 134 = .ok (.ireturn, 1) := by decide +kernel
set_option maxRecDepth 20000 in
theorem ggX10_debt_X10_in : GoodIn wsX10_debt wsX10_in := goodIn_r _ [10] (by decide +kernel) (by decide +kernel)
set_option maxRecDepth 20000 in
theorem gX10_debt_X10_in : GoodIn wsX10_debt (va_wsS RX10 99 yX10_in wsX10_in) := goodIn_app (goodIn_of _ (by decide +kernel)) ggX10_debt_X10_in
theorem dX10_debt_0 : decode cX10_debt 0 = .ok (.aload_n 0, 1) := by decide +kernel
theorem dX10_debt_1 : decode cX10_debt 1 = .ok (.iconst 0, 1) := by decide +kernel
theorem dX10_debt_2 : decode cX10_debt 2 = .ok (.putfield 92, 3) := by decide +kernel
theorem dX10_debt_5 : decode cX10_debt 5 = .ok (.iload_n 1, 1) := by decide +kernel
theorem dX10_debt_6 : decode cX10_debt 6 = .ok (.i2l, 1) := by decide +kernel
theorem dX10_debt_7 : decode cX10_debt 7 = .ok (.lconst 0, 1) := by decide +kernel
theorem dX10_debt_8 : decode cX10_debt 8 = .ok (.aload_n 0, 1) := by decide +kernel
theorem dX10_debt_9 : decode cX10_debt 9 = .ok (.getfield 135, 3) := by decide +kernel
theorem dX10_debt_12 : decode cX10_debt 12 = .ok (.iconst 1, 1) := by decide +kernel
theorem dX10_debt_13 : decode cX10_debt 13 = .ok (.isub, 1) := by decide +kernel
theorem dX10_debt_14 : decode cX10_debt 14 = .ok (.i2l, 1) := by decide +kernel
theorem dX10_debt_15 : decode cX10_debt 15 = .ok (.invokestatic 99, 3) := by decide +kernel
theorem dX10_debt_18 : decode cX10_debt 18 = .ok (.ifCond .ne 5, 3) := by decide +kernel
theorem dX10_debt_21 : decode cX10_debt 21 = .ok (.iconst (-1), 1) := by decide +kernel
theorem dX10_debt_22 : decode cX10_debt 22 = .ok (.ireturn, 1) := by decide +kernel
theorem dX10_debt_23 : decode cX10_debt 23 = .ok (.iload_n 2, 1) := by decide +kernel
theorem dX10_debt_24 : decode cX10_debt 24 = .ok (.ifCond .ne 12, 3) := by decide +kernel
theorem dX10_debt_27 : decode cX10_debt 27 = .ok (.aload_n 0, 1) := by decide +kernel
theorem dX10_debt_28 : decode cX10_debt 28 = .ok (.getfield 26, 3) := by decide +kernel
theorem dX10_debt_31 : decode cX10_debt 31 = .ok (.iload_n 1, 1) := by decide +kernel
theorem dX10_debt_32 : decode cX10_debt 32 = .ok (.iaload, 1) := by decide +kernel
theorem dX10_debt_33 : decode cX10_debt 33 = .ok (.goto 47, 3) := by decide +kernel
theorem dX10_debt_36 : decode cX10_debt 36 = .ok (.iload_n 2, 1) := by decide +kernel
theorem dX10_debt_37 : decode cX10_debt 37 = .ok (.iconst 1, 1) := by decide +kernel
theorem dX10_debt_38 : decode cX10_debt 38 = .ok (.if_icmp .ne 12, 3) := by decide +kernel
theorem dX10_debt_41 : decode cX10_debt 41 = .ok (.aload_n 0, 1) := by decide +kernel
theorem dX10_debt_42 : decode cX10_debt 42 = .ok (.getfield 29, 3) := by decide +kernel
theorem dX10_debt_45 : decode cX10_debt 45 = .ok (.iload_n 1, 1) := by decide +kernel
theorem dX10_debt_46 : decode cX10_debt 46 = .ok (.iaload, 1) := by decide +kernel
theorem dX10_debt_47 : decode cX10_debt 47 = .ok (.goto 33, 3) := by decide +kernel
theorem dX10_debt_50 : decode cX10_debt 50 = .ok (.iload_n 2, 1) := by decide +kernel
theorem dX10_debt_51 : decode cX10_debt 51 = .ok (.iconst 2, 1) := by decide +kernel
theorem dX10_debt_52 : decode cX10_debt 52 = .ok (.if_icmp .ne 12, 3) := by decide +kernel
theorem dX10_debt_55 : decode cX10_debt 55 = .ok (.aload_n 0, 1) := by decide +kernel
theorem dX10_debt_56 : decode cX10_debt 56 = .ok (.getfield 32, 3) := by decide +kernel
theorem dX10_debt_59 : decode cX10_debt 59 = .ok (.iload_n 1, 1) := by decide +kernel
theorem dX10_debt_60 : decode cX10_debt 60 = .ok (.iaload, 1) := by decide +kernel
theorem dX10_debt_61 : decode cX10_debt 61 = .ok (.goto 19, 3) := by decide +kernel
theorem dX10_debt_64 : decode cX10_debt 64 = .ok (.iload_n 2, 1) := by decide +kernel
theorem dX10_debt_65 : decode cX10_debt 65 = .ok (.iconst 3, 1) := by decide +kernel
theorem dX10_debt_66 : decode cX10_debt 66 = .ok (.if_icmp .ne 12, 3) := by decide +kernel
theorem dX10_debt_69 : decode cX10_debt 69 = .ok (.aload_n 0, 1) := by decide +kernel
theorem dX10_debt_70 : decode cX10_debt 70 = .ok (.getfield 35, 3) := by decide +kernel
theorem dX10_debt_73 : decode cX10_debt 73 = .ok (.iload_n 1, 1) := by decide +kernel
theorem dX10_debt_74 : decode cX10_debt 74 = .ok (.iaload, 1) := by decide +kernel
theorem dX10_debt_75 : decode cX10_debt 75 = .ok (.goto 5, 3) := by decide +kernel
theorem dX10_debt_78 : decode cX10_debt 78 = .ok (.bipush (-2), 2) := by decide +kernel
theorem dX10_debt_80 : decode cX10_debt 80 = .ok (.ireturn, 1) := by decide +kernel
set_option maxRecDepth 20000 in
theorem ggX10_ask_X10_noOne : GoodIn wsX10_ask wsX10_noOne := goodIn_r _ [8, 9, 10, 11, 7, 12, 13, 14, 15, 16, 17, 18, 19, 20, 21, 22, 23, 24, 25, 26, 27, 28, 29, 30, 31, 32, 33, 34, 35, 36, 37, 38, 39, 40, 41, 42, 43, 44, 45, 46, 47, 48, 49, 50] (by decide +kernel) (by decide +kernel)
set_option maxRecDepth 20000 in
theorem gX10_ask_X10_noOne : GoodIn wsX10_ask (wsV RX10 151 RX10 yX10_noOne wsX10_noOne) := goodIn_app (goodIn_of _ (by decide +kernel)) ggX10_ask_X10_noOne
set_option maxRecDepth 20000 in
theorem ggX10_ask_X10_in : GoodIn wsX10_ask wsX10_in := goodIn_r _ [12] (by decide +kernel) (by decide +kernel)
set_option maxRecDepth 20000 in
theorem gX10_ask_X10_in : GoodIn wsX10_ask (va_wsS RX10 99 yX10_in wsX10_in) := goodIn_app (goodIn_of _ (by decide +kernel)) ggX10_ask_X10_in
theorem dX10_ask_0 : decode cX10_ask 0 = .ok (.aload_n 0, 1) := by decide +kernel
theorem dX10_ask_1 : decode cX10_ask 1 = .ok (.iconst 0, 1) := by decide +kernel
theorem dX10_ask_2 : decode cX10_ask 2 = .ok (.putfield 92, 3) := by decide +kernel
theorem dX10_ask_5 : decode cX10_ask 5 = .ok (.aload_n 0, 1) := by decide +kernel
theorem dX10_ask_6 : decode cX10_ask 6 = .ok (.iload_n 1, 1) := by decide +kernel
theorem dX10_ask_7 : decode cX10_ask 7 = .ok (.invokevirtual 151, 3) := by decide +kernel
theorem dX10_ask_10 : decode cX10_ask 10 = .ok (.ifCond .eq 5, 3) := by decide +kernel
theorem dX10_ask_13 : decode cX10_ask 13 = .ok (.iconst (-1), 1) := by decide +kernel
theorem dX10_ask_14 : decode cX10_ask 14 = .ok (.ireturn, 1) := by decide +kernel
theorem dX10_ask_15 : decode cX10_ask 15 = .ok (.iload_n 2, 1) := by decide +kernel
theorem dX10_ask_16 : decode cX10_ask 16 = .ok (.i2l, 1) := by decide +kernel
theorem dX10_ask_17 : decode cX10_ask 17 = .ok (.lconst 0, 1) := by decide +kernel
theorem dX10_ask_18 : decode cX10_ask 18 = .ok (.ldc2_w 158, 3) := by decide +kernel
theorem dX10_ask_21 : decode cX10_ask 21 = .ok (.invokestatic 99, 3) := by decide +kernel
theorem dX10_ask_24 : decode cX10_ask 24 = .ok (.ifCond .ne 6, 3) := by decide +kernel
theorem dX10_ask_27 : decode cX10_ask 27 = .ok (.bipush (-2), 2) := by decide +kernel
theorem dX10_ask_29 : decode cX10_ask 29 = .ok (.ireturn, 1) := by decide +kernel
theorem dX10_ask_30 : decode cX10_ask 30 = .ok (.aload_n 0, 1) := by decide +kernel
theorem dX10_ask_31 : decode cX10_ask 31 = .ok (.getfield 16, 3) := by decide +kernel
theorem dX10_ask_34 : decode cX10_ask 34 = .ok (.iload_n 1, 1) := by decide +kernel
theorem dX10_ask_35 : decode cX10_ask 35 = .ok (.iaload, 1) := by decide +kernel
theorem dX10_ask_36 : decode cX10_ask 36 = .ok (.istore_n 3, 1) := by decide +kernel
theorem dX10_ask_37 : decode cX10_ask 37 = .ok (.aload_n 0, 1) := by decide +kernel
theorem dX10_ask_38 : decode cX10_ask 38 = .ok (.getfield 16, 3) := by decide +kernel
theorem dX10_ask_41 : decode cX10_ask 41 = .ok (.iload_n 1, 1) := by decide +kernel
theorem dX10_ask_42 : decode cX10_ask 42 = .ok (.iload_n 2, 1) := by decide +kernel
theorem dX10_ask_43 : decode cX10_ask 43 = .ok (.iastore, 1) := by decide +kernel
theorem dX10_ask_44 : decode cX10_ask 44 = .ok (.iload_n 3, 1) := by decide +kernel
theorem dX10_ask_45 : decode cX10_ask 45 = .ok (.ireturn, 1) := by decide +kernel
theorem dX10_layPage_0 : decode cX10_layPage 0 = .ok (.iconst 0, 1) := by decide +kernel
theorem dX10_layPage_1 : decode cX10_layPage 1 = .ok (.istore_n 3, 1) := by decide +kernel
theorem dX10_layPage_2 : decode cX10_layPage 2 = .ok (.iload_n 3, 1) := by decide +kernel
theorem dX10_layPage_3 : decode cX10_layPage 3 = .ok (.bipush 6, 2) := by decide +kernel
theorem dX10_layPage_5 : decode cX10_layPage 5 = .ok (.if_icmp .ge 71, 3) := by decide +kernel
theorem dX10_layPage_8 : decode cX10_layPage 8 = .ok (.aload_n 1, 1) := by decide +kernel
theorem dX10_layPage_9 : decode cX10_layPage 9 = .ok (.iload_n 2, 1) := by decide +kernel
theorem dX10_layPage_10 : decode cX10_layPage 10 = .ok (.iload_n 3, 1) := by decide +kernel
theorem dX10_layPage_11 : decode cX10_layPage 11 = .ok (.iadd, 1) := by decide +kernel
theorem dX10_layPage_12 : decode cX10_layPage 12 = .ok (.aload_n 0, 1) := by decide +kernel
theorem dX10_layPage_13 : decode cX10_layPage 13 = .ok (.getfield 13, 3) := by decide +kernel
theorem dX10_layPage_16 : decode cX10_layPage 16 = .ok (.iload_n 3, 1) := by decide +kernel
theorem dX10_layPage_17 : decode cX10_layPage 17 = .ok (.iaload, 1) := by decide +kernel
theorem dX10_layPage_18 : decode cX10_layPage 18 = .ok (.iastore, 1) := by decide +kernel
theorem dX10_layPage_19 : decode cX10_layPage 19 = .ok (.aload_n 1, 1) := by decide +kernel
theorem dX10_layPage_20 : decode cX10_layPage 20 = .ok (.iload_n 2, 1) := by decide +kernel
theorem dX10_layPage_21 : decode cX10_layPage 21 = .ok (.bipush 6, 2) := by decide +kernel
theorem dX10_layPage_23 : decode cX10_layPage 23 = .ok (.iadd, 1) := by decide +kernel
theorem dX10_layPage_24 : decode cX10_layPage 24 = .ok (.iload_n 3, 1) := by decide +kernel
theorem dX10_layPage_25 : decode cX10_layPage 25 = .ok (.iadd, 1) := by decide +kernel
theorem dX10_layPage_26 : decode cX10_layPage 26 = .ok (.aload_n 0, 1) := by decide +kernel
theorem dX10_layPage_27 : decode cX10_layPage 27 = .ok (.getfield 16, 3) := by decide +kernel
theorem dX10_layPage_30 : decode cX10_layPage 30 = .ok (.iload_n 3, 1) := by decide +kernel
theorem dX10_layPage_31 : decode cX10_layPage 31 = .ok (.iaload, 1) := by decide +kernel
theorem dX10_layPage_32 : decode cX10_layPage 32 = .ok (.iastore, 1) := by decide +kernel
theorem dX10_layPage_33 : decode cX10_layPage 33 = .ok (.aload_n 1, 1) := by decide +kernel
theorem dX10_layPage_34 : decode cX10_layPage 34 = .ok (.iload_n 2, 1) := by decide +kernel
theorem dX10_layPage_35 : decode cX10_layPage 35 = .ok (.bipush 12, 2) := by decide +kernel
theorem dX10_layPage_37 : decode cX10_layPage 37 = .ok (.iadd, 1) := by decide +kernel
theorem dX10_layPage_38 : decode cX10_layPage 38 = .ok (.iload_n 3, 1) := by decide +kernel
theorem dX10_layPage_39 : decode cX10_layPage 39 = .ok (.iadd, 1) := by decide +kernel
theorem dX10_layPage_40 : decode cX10_layPage 40 = .ok (.aload_n 0, 1) := by decide +kernel
theorem dX10_layPage_41 : decode cX10_layPage 41 = .ok (.getfield 19, 3) := by decide +kernel
theorem dX10_layPage_44 : decode cX10_layPage 44 = .ok (.iload_n 3, 1) := by decide +kernel
theorem dX10_layPage_45 : decode cX10_layPage 45 = .ok (.baload, 1) := by decide +kernel
theorem dX10_layPage_46 : decode cX10_layPage 46 = .ok (.ifCond .eq 7, 3) := by decide +kernel
theorem dX10_layPage_49 : decode cX10_layPage 49 = .ok (.iconst 1, 1) := by decide +kernel
theorem dX10_layPage_50 : decode cX10_layPage 50 = .ok (.goto 4, 3) := by decide +kernel
theorem dX10_layPage_53 : decode cX10_layPage 53 = .ok (.iconst 0, 1) := by decide +kernel
theorem dX10_layPage_54 : decode cX10_layPage 54 = .ok (.aload_n 0, 1) := by decide +kernel
theorem dX10_layPage_55 : decode cX10_layPage 55 = .ok (.getfield 23, 3) := by decide +kernel
theorem dX10_layPage_58 : decode cX10_layPage 58 = .ok (.iload_n 3, 1) := by decide +kernel
theorem dX10_layPage_59 : decode cX10_layPage 59 = .ok (.baload, 1) := by decide +kernel
theorem dX10_layPage_60 : decode cX10_layPage 60 = .ok (.ifCond .eq 7, 3) := by decide +kernel
theorem dX10_layPage_63 : decode cX10_layPage 63 = .ok (.iconst 2, 1) := by decide +kernel
theorem dX10_layPage_64 : decode cX10_layPage 64 = .ok (.goto 4, 3) := by decide +kernel
theorem dX10_layPage_67 : decode cX10_layPage 67 = .ok (.iconst 0, 1) := by decide +kernel
theorem dX10_layPage_68 : decode cX10_layPage 68 = .ok (.iadd, 1) := by decide +kernel
theorem dX10_layPage_69 : decode cX10_layPage 69 = .ok (.iastore, 1) := by decide +kernel
theorem dX10_layPage_70 : decode cX10_layPage 70 = .ok (.iinc 3 1, 3) := by decide +kernel
theorem dX10_layPage_73 : decode cX10_layPage 73 = .ok (.goto (-71), 3) := by decide +kernel
theorem dX10_layPage_76 : decode cX10_layPage 76 = .ok (.iconst 0, 1) := by decide +kernel
theorem dX10_layPage_77 : decode cX10_layPage 77 = .ok (.istore_n 3, 1) := by decide +kernel
theorem dX10_layPage_78 : decode cX10_layPage 78 = .ok (.iload_n 3, 1) := by decide +kernel
theorem dX10_layPage_79 : decode cX10_layPage 79 = .ok (.bipush 12, 2) := by decide +kernel
theorem dX10_layPage_81 : decode cX10_layPage 81 = .ok (.if_icmp .ge 65, 3) := by decide +kernel
theorem dX10_layPage_84 : decode cX10_layPage 84 = .ok (.aload_n 1, 1) := by decide +kernel
theorem dX10_layPage_85 : decode cX10_layPage 85 = .ok (.iload_n 2, 1) := by decide +kernel
theorem dX10_layPage_86 : decode cX10_layPage 86 = .ok (.bipush 18, 2) := by decide +kernel
theorem dX10_layPage_88 : decode cX10_layPage 88 = .ok (.iadd, 1) := by decide +kernel
theorem dX10_layPage_89 : decode cX10_layPage 89 = .ok (.iload_n 3, 1) := by decide +kernel
theorem dX10_layPage_90 : decode cX10_layPage 90 = .ok (.iadd, 1) := by decide +kernel
theorem dX10_layPage_91 : decode cX10_layPage 91 = .ok (.aload_n 0, 1) := by decide +kernel
theorem dX10_layPage_92 : decode cX10_layPage 92 = .ok (.getfield 26, 3) := by decide +kernel
theorem dX10_layPage_95 : decode cX10_layPage 95 = .ok (.iload_n 3, 1) := by decide +kernel
theorem dX10_layPage_96 : decode cX10_layPage 96 = .ok (.iaload, 1) := by decide +kernel
theorem dX10_layPage_97 : decode cX10_layPage 97 = .ok (.iastore, 1) := by decide +kernel
theorem dX10_layPage_98 : decode cX10_layPage 98 = .ok (.aload_n 1, 1) := by decide +kernel
theorem dX10_layPage_99 : decode cX10_layPage 99 = .ok (.iload_n 2, 1) := by decide +kernel
theorem dX10_layPage_100 : decode cX10_layPage 100 = .ok (.bipush 30, 2) := by decide +kernel
theorem dX10_layPage_102 : decode cX10_layPage 102 = .ok (.iadd, 1) := by decide +kernel
theorem dX10_layPage_103 : decode cX10_layPage 103 = .ok (.iload_n 3, 1) := by decide +kernel
theorem dX10_layPage_104 : decode cX10_layPage 104 = .ok (.iadd, 1) := by decide +kernel
theorem dX10_layPage_105 : decode cX10_layPage 105 = .ok (.aload_n 0, 1) := by decide +kernel
theorem dX10_layPage_106 : decode cX10_layPage 106 = .ok (.getfield 29, 3) := by decide +kernel
theorem dX10_layPage_109 : decode cX10_layPage 109 = .ok (.iload_n 3, 1) := by decide +kernel
theorem dX10_layPage_110 : decode cX10_layPage 110 = .ok (.iaload, 1) := by decide +kernel
theorem dX10_layPage_111 : decode cX10_layPage 111 = .ok (.iastore, 1) := by decide +kernel
theorem dX10_layPage_112 : decode cX10_layPage 112 = .ok (.aload_n 1, 1) := by decide +kernel
theorem dX10_layPage_113 : decode cX10_layPage 113 = .ok (.iload_n 2, 1) := by decide +kernel
theorem dX10_layPage_114 : decode cX10_layPage 114 = .ok (.bipush 42, 2) := by decide +kernel
theorem dX10_layPage_116 : decode cX10_layPage 116 = .ok (.iadd, 1) := by decide +kernel
theorem dX10_layPage_117 : decode cX10_layPage 117 = .ok (.iload_n 3, 1) := by decide +kernel
theorem dX10_layPage_118 : decode cX10_layPage 118 = .ok (.iadd, 1) := by decide +kernel
theorem dX10_layPage_119 : decode cX10_layPage 119 = .ok (.aload_n 0, 1) := by decide +kernel
theorem dX10_layPage_120 : decode cX10_layPage 120 = .ok (.getfield 32, 3) := by decide +kernel
theorem dX10_layPage_123 : decode cX10_layPage 123 = .ok (.iload_n 3, 1) := by decide +kernel
theorem dX10_layPage_124 : decode cX10_layPage 124 = .ok (.iaload, 1) := by decide +kernel
theorem dX10_layPage_125 : decode cX10_layPage 125 = .ok (.iastore, 1) := by decide +kernel
theorem dX10_layPage_126 : decode cX10_layPage 126 = .ok (.aload_n 1, 1) := by decide +kernel
theorem dX10_layPage_127 : decode cX10_layPage 127 = .ok (.iload_n 2, 1) := by decide +kernel
theorem dX10_layPage_128 : decode cX10_layPage 128 = .ok (.bipush 54, 2) := by decide +kernel
theorem dX10_layPage_130 : decode cX10_layPage 130 = .ok (.iadd, 1) := by decide +kernel
theorem dX10_layPage_131 : decode cX10_layPage 131 = .ok (.iload_n 3, 1) := by decide +kernel
theorem dX10_layPage_132 : decode cX10_layPage 132 = .ok (.iadd, 1) := by decide +kernel
theorem dX10_layPage_133 : decode cX10_layPage 133 = .ok (.aload_n 0, 1) := by decide +kernel
theorem dX10_layPage_134 : decode cX10_layPage 134 = .ok (.getfield 35, 3) := by decide +kernel
theorem dX10_layPage_137 : decode cX10_layPage 137 = .ok (.iload_n 3, 1) := by decide +kernel
theorem dX10_layPage_138 : decode cX10_layPage 138 = .ok (.iaload, 1) := by decide +kernel
theorem dX10_layPage_139 : decode cX10_layPage 139 = .ok (.iastore, 1) := by decide +kernel
theorem dX10_layPage_140 : decode cX10_layPage 140 = .ok (.iinc 3 1, 3) := by decide +kernel
theorem dX10_layPage_143 : decode cX10_layPage 143 = .ok (.goto (-65), 3) := by decide +kernel
theorem dX10_layPage_146 : decode cX10_layPage 146 = .ok (.aload_n 1, 1) := by decide +kernel
theorem dX10_layPage_147 : decode cX10_layPage 147 = .ok (.iload_n 2, 1) := by decide +kernel
theorem dX10_layPage_148 : decode cX10_layPage 148 = .ok (.bipush 66, 2) := by decide +kernel
theorem dX10_layPage_150 : decode cX10_layPage 150 = .ok (.iadd, 1) := by decide +kernel
theorem dX10_layPage_151 : decode cX10_layPage 151 = .ok (.aload_n 0, 1) := by decide +kernel
theorem dX10_layPage_152 : decode cX10_layPage 152 = .ok (.getfield 135, 3) := by decide +kernel
theorem dX10_layPage_155 : decode cX10_layPage 155 = .ok (.iastore, 1) := by decide +kernel
theorem dX10_layPage_156 : decode cX10_layPage 156 = .ok (.aload_n 1, 1) := by decide +kernel
theorem dX10_layPage_157 : decode cX10_layPage 157 = .ok (.iload_n 2, 1) := by decide +kernel
theorem dX10_layPage_158 : decode cX10_layPage 158 = .ok (.bipush 67, 2) := by decide +kernel
theorem dX10_layPage_160 : decode cX10_layPage 160 = .ok (.iadd, 1) := by decide +kernel
theorem dX10_layPage_161 : decode cX10_layPage 161 = .ok (.aload_n 0, 1) := by decide +kernel
theorem dX10_layPage_162 : decode cX10_layPage 162 = .ok (.getfield 138, 3) := by decide +kernel
theorem dX10_layPage_165 : decode cX10_layPage 165 = .ok (.iastore, 1) := by decide +kernel
theorem dX10_layPage_166 : decode cX10_layPage 166 = .ok (.return_, 1) := by decide +kernel
set_option maxRecDepth 20000 in
theorem ggX10_takePage_X10_has : GoodIn wsX10_takePage wsX10_has := goodIn_r _ [14] (by decide +kernel) (by decide +kernel)
set_option maxRecDepth 20000 in
theorem gX10_takePage_X10_has : GoodIn wsX10_takePage (va_wsS RX10 160 yX10_has wsX10_has) := goodIn_app (goodIn_of _ (by decide +kernel)) ggX10_takePage_X10_has
theorem dX10_takePage_0 : decode cX10_takePage 0 = .ok (.iconst 0, 1) := by decide +kernel
theorem dX10_takePage_1 : decode cX10_takePage 1 = .ok (.istore_n 3, 1) := by decide +kernel
theorem dX10_takePage_2 : decode cX10_takePage 2 = .ok (.iload_n 3, 1) := by decide +kernel
theorem dX10_takePage_3 : decode cX10_takePage 3 = .ok (.bipush 6, 2) := by decide +kernel
theorem dX10_takePage_5 : decode cX10_takePage 5 = .ok (.if_icmp .ge 70, 3) := by decide +kernel
theorem dX10_takePage_8 : decode cX10_takePage 8 = .ok (.aload_n 0, 1) := by decide +kernel
theorem dX10_takePage_9 : decode cX10_takePage 9 = .ok (.getfield 13, 3) := by decide +kernel
theorem dX10_takePage_12 : decode cX10_takePage 12 = .ok (.iload_n 3, 1) := by decide +kernel
theorem dX10_takePage_13 : decode cX10_takePage 13 = .ok (.aload_n 1, 1) := by decide +kernel
theorem dX10_takePage_14 : decode cX10_takePage 14 = .ok (.iload_n 2, 1) := by decide +kernel
theorem dX10_takePage_15 : decode cX10_takePage 15 = .ok (.iload_n 3, 1) := by decide +kernel
theorem dX10_takePage_16 : decode cX10_takePage 16 = .ok (.iadd, 1) := by decide +kernel
theorem dX10_takePage_17 : decode cX10_takePage 17 = .ok (.iaload, 1) := by decide +kernel
theorem dX10_takePage_18 : decode cX10_takePage 18 = .ok (.iastore, 1) := by decide +kernel
theorem dX10_takePage_19 : decode cX10_takePage 19 = .ok (.aload_n 0, 1) := by decide +kernel
theorem dX10_takePage_20 : decode cX10_takePage 20 = .ok (.getfield 16, 3) := by decide +kernel
theorem dX10_takePage_23 : decode cX10_takePage 23 = .ok (.iload_n 3, 1) := by decide +kernel
theorem dX10_takePage_24 : decode cX10_takePage 24 = .ok (.aload_n 1, 1) := by decide +kernel
theorem dX10_takePage_25 : decode cX10_takePage 25 = .ok (.iload_n 2, 1) := by decide +kernel
theorem dX10_takePage_26 : decode cX10_takePage 26 = .ok (.bipush 6, 2) := by decide +kernel
theorem dX10_takePage_28 : decode cX10_takePage 28 = .ok (.iadd, 1) := by decide +kernel
theorem dX10_takePage_29 : decode cX10_takePage 29 = .ok (.iload_n 3, 1) := by decide +kernel
theorem dX10_takePage_30 : decode cX10_takePage 30 = .ok (.iadd, 1) := by decide +kernel
theorem dX10_takePage_31 : decode cX10_takePage 31 = .ok (.iaload, 1) := by decide +kernel
theorem dX10_takePage_32 : decode cX10_takePage 32 = .ok (.iastore, 1) := by decide +kernel
theorem dX10_takePage_33 : decode cX10_takePage 33 = .ok (.aload_n 0, 1) := by decide +kernel
theorem dX10_takePage_34 : decode cX10_takePage 34 = .ok (.getfield 19, 3) := by decide +kernel
theorem dX10_takePage_37 : decode cX10_takePage 37 = .ok (.iload_n 3, 1) := by decide +kernel
theorem dX10_takePage_38 : decode cX10_takePage 38 = .ok (.aload_n 1, 1) := by decide +kernel
theorem dX10_takePage_39 : decode cX10_takePage 39 = .ok (.iload_n 2, 1) := by decide +kernel
theorem dX10_takePage_40 : decode cX10_takePage 40 = .ok (.bipush 12, 2) := by decide +kernel
theorem dX10_takePage_42 : decode cX10_takePage 42 = .ok (.iadd, 1) := by decide +kernel
theorem dX10_takePage_43 : decode cX10_takePage 43 = .ok (.iload_n 3, 1) := by decide +kernel
theorem dX10_takePage_44 : decode cX10_takePage 44 = .ok (.iadd, 1) := by decide +kernel
theorem dX10_takePage_45 : decode cX10_takePage 45 = .ok (.iaload, 1) := by decide +kernel
theorem dX10_takePage_46 : decode cX10_takePage 46 = .ok (.iconst 0, 1) := by decide +kernel
theorem dX10_takePage_47 : decode cX10_takePage 47 = .ok (.invokestatic 160, 3) := by decide +kernel
theorem dX10_takePage_50 : decode cX10_takePage 50 = .ok (.bastore, 1) := by decide +kernel
theorem dX10_takePage_51 : decode cX10_takePage 51 = .ok (.aload_n 0, 1) := by decide +kernel
theorem dX10_takePage_52 : decode cX10_takePage 52 = .ok (.getfield 23, 3) := by decide +kernel
theorem dX10_takePage_55 : decode cX10_takePage 55 = .ok (.iload_n 3, 1) := by decide +kernel
theorem dX10_takePage_56 : decode cX10_takePage 56 = .ok (.aload_n 1, 1) := by decide +kernel
theorem dX10_takePage_57 : decode cX10_takePage 57 = .ok (.iload_n 2, 1) := by decide +kernel
theorem dX10_takePage_58 : decode cX10_takePage 58 = .ok (.bipush 12, 2) := by decide +kernel
theorem dX10_takePage_60 : decode cX10_takePage 60 = .ok (.iadd, 1) := by decide +kernel
theorem dX10_takePage_61 : decode cX10_takePage 61 = .ok (.iload_n 3, 1) := by decide +kernel
theorem dX10_takePage_62 : decode cX10_takePage 62 = .ok (.iadd, 1) := by decide +kernel
theorem dX10_takePage_63 : decode cX10_takePage 63 = .ok (.iaload, 1) := by decide +kernel
theorem dX10_takePage_64 : decode cX10_takePage 64 = .ok (.iconst 1, 1) := by decide +kernel
theorem dX10_takePage_65 : decode cX10_takePage 65 = .ok (.invokestatic 160, 3) := by decide +kernel
theorem dX10_takePage_68 : decode cX10_takePage 68 = .ok (.bastore, 1) := by decide +kernel
theorem dX10_takePage_69 : decode cX10_takePage 69 = .ok (.iinc 3 1, 3) := by decide +kernel
theorem dX10_takePage_72 : decode cX10_takePage 72 = .ok (.goto (-70), 3) := by decide +kernel
theorem dX10_takePage_75 : decode cX10_takePage 75 = .ok (.iconst 0, 1) := by decide +kernel
theorem dX10_takePage_76 : decode cX10_takePage 76 = .ok (.istore_n 3, 1) := by decide +kernel
theorem dX10_takePage_77 : decode cX10_takePage 77 = .ok (.iload_n 3, 1) := by decide +kernel
theorem dX10_takePage_78 : decode cX10_takePage 78 = .ok (.bipush 12, 2) := by decide +kernel
theorem dX10_takePage_80 : decode cX10_takePage 80 = .ok (.if_icmp .ge 65, 3) := by decide +kernel
theorem dX10_takePage_83 : decode cX10_takePage 83 = .ok (.aload_n 0, 1) := by decide +kernel
theorem dX10_takePage_84 : decode cX10_takePage 84 = .ok (.getfield 26, 3) := by decide +kernel
theorem dX10_takePage_87 : decode cX10_takePage 87 = .ok (.iload_n 3, 1) := by decide +kernel
theorem dX10_takePage_88 : decode cX10_takePage 88 = .ok (.aload_n 1, 1) := by decide +kernel
theorem dX10_takePage_89 : decode cX10_takePage 89 = .ok (.iload_n 2, 1) := by decide +kernel
theorem dX10_takePage_90 : decode cX10_takePage 90 = .ok (.bipush 18, 2) := by decide +kernel
theorem dX10_takePage_92 : decode cX10_takePage 92 = .ok (.iadd, 1) := by decide +kernel
theorem dX10_takePage_93 : decode cX10_takePage 93 = .ok (.iload_n 3, 1) := by decide +kernel
theorem dX10_takePage_94 : decode cX10_takePage 94 = .ok (.iadd, 1) := by decide +kernel
theorem dX10_takePage_95 : decode cX10_takePage 95 = .ok (.iaload, 1) := by decide +kernel
theorem dX10_takePage_96 : decode cX10_takePage 96 = .ok (.iastore, 1) := by decide +kernel
theorem dX10_takePage_97 : decode cX10_takePage 97 = .ok (.aload_n 0, 1) := by decide +kernel
theorem dX10_takePage_98 : decode cX10_takePage 98 = .ok (.getfield 29, 3) := by decide +kernel
theorem dX10_takePage_101 : decode cX10_takePage 101 = .ok (.iload_n 3, 1) := by decide +kernel
theorem dX10_takePage_102 : decode cX10_takePage 102 = .ok (.aload_n 1, 1) := by decide +kernel
theorem dX10_takePage_103 : decode cX10_takePage 103 = .ok (.iload_n 2, 1) := by decide +kernel
theorem dX10_takePage_104 : decode cX10_takePage 104 = .ok (.bipush 30, 2) := by decide +kernel
theorem dX10_takePage_106 : decode cX10_takePage 106 = .ok (.iadd, 1) := by decide +kernel
theorem dX10_takePage_107 : decode cX10_takePage 107 = .ok (.iload_n 3, 1) := by decide +kernel
theorem dX10_takePage_108 : decode cX10_takePage 108 = .ok (.iadd, 1) := by decide +kernel
theorem dX10_takePage_109 : decode cX10_takePage 109 = .ok (.iaload, 1) := by decide +kernel
theorem dX10_takePage_110 : decode cX10_takePage 110 = .ok (.iastore, 1) := by decide +kernel
theorem dX10_takePage_111 : decode cX10_takePage 111 = .ok (.aload_n 0, 1) := by decide +kernel
theorem dX10_takePage_112 : decode cX10_takePage 112 = .ok (.getfield 32, 3) := by decide +kernel
theorem dX10_takePage_115 : decode cX10_takePage 115 = .ok (.iload_n 3, 1) := by decide +kernel
theorem dX10_takePage_116 : decode cX10_takePage 116 = .ok (.aload_n 1, 1) := by decide +kernel
theorem dX10_takePage_117 : decode cX10_takePage 117 = .ok (.iload_n 2, 1) := by decide +kernel
theorem dX10_takePage_118 : decode cX10_takePage 118 = .ok (.bipush 42, 2) := by decide +kernel
theorem dX10_takePage_120 : decode cX10_takePage 120 = .ok (.iadd, 1) := by decide +kernel
theorem dX10_takePage_121 : decode cX10_takePage 121 = .ok (.iload_n 3, 1) := by decide +kernel
theorem dX10_takePage_122 : decode cX10_takePage 122 = .ok (.iadd, 1) := by decide +kernel
theorem dX10_takePage_123 : decode cX10_takePage 123 = .ok (.iaload, 1) := by decide +kernel
theorem dX10_takePage_124 : decode cX10_takePage 124 = .ok (.iastore, 1) := by decide +kernel
theorem dX10_takePage_125 : decode cX10_takePage 125 = .ok (.aload_n 0, 1) := by decide +kernel
theorem dX10_takePage_126 : decode cX10_takePage 126 = .ok (.getfield 35, 3) := by decide +kernel
theorem dX10_takePage_129 : decode cX10_takePage 129 = .ok (.iload_n 3, 1) := by decide +kernel
theorem dX10_takePage_130 : decode cX10_takePage 130 = .ok (.aload_n 1, 1) := by decide +kernel
theorem dX10_takePage_131 : decode cX10_takePage 131 = .ok (.iload_n 2, 1) := by decide +kernel
theorem dX10_takePage_132 : decode cX10_takePage 132 = .ok (.bipush 54, 2) := by decide +kernel
theorem dX10_takePage_134 : decode cX10_takePage 134 = .ok (.iadd, 1) := by decide +kernel
theorem dX10_takePage_135 : decode cX10_takePage 135 = .ok (.iload_n 3, 1) := by decide +kernel
theorem dX10_takePage_136 : decode cX10_takePage 136 = .ok (.iadd, 1) := by decide +kernel
theorem dX10_takePage_137 : decode cX10_takePage 137 = .ok (.iaload, 1) := by decide +kernel
theorem dX10_takePage_138 : decode cX10_takePage 138 = .ok (.iastore, 1) := by decide +kernel
theorem dX10_takePage_139 : decode cX10_takePage 139 = .ok (.iinc 3 1, 3) := by decide +kernel
theorem dX10_takePage_142 : decode cX10_takePage 142 = .ok (.goto (-65), 3) := by decide +kernel
theorem dX10_takePage_145 : decode cX10_takePage 145 = .ok (.aload_n 0, 1) := by decide +kernel
theorem dX10_takePage_146 : decode cX10_takePage 146 = .ok (.aload_n 1, 1) := by decide +kernel
theorem dX10_takePage_147 : decode cX10_takePage 147 = .ok (.iload_n 2, 1) := by decide +kernel
theorem dX10_takePage_148 : decode cX10_takePage 148 = .ok (.bipush 66, 2) := by decide +kernel
theorem dX10_takePage_150 : decode cX10_takePage 150 = .ok (.iadd, 1) := by decide +kernel
theorem dX10_takePage_151 : decode cX10_takePage 151 = .ok (.iaload, 1) := by decide +kernel
theorem dX10_takePage_152 : decode cX10_takePage 152 = .ok (.putfield 135, 3) := by decide +kernel
theorem dX10_takePage_155 : decode cX10_takePage 155 = .ok (.aload_n 0, 1) := by decide +kernel
theorem dX10_takePage_156 : decode cX10_takePage 156 = .ok (.aload_n 1, 1) := by decide +kernel
theorem dX10_takePage_157 : decode cX10_takePage 157 = .ok (.iload_n 2, 1) := by decide +kernel
theorem dX10_takePage_158 : decode cX10_takePage 158 = .ok (.bipush 67, 2) := by decide +kernel
theorem dX10_takePage_160 : decode cX10_takePage 160 = .ok (.iadd, 1) := by decide +kernel
theorem dX10_takePage_161 : decode cX10_takePage 161 = .ok (.iaload, 1) := by decide +kernel
theorem dX10_takePage_162 : decode cX10_takePage 162 = .ok (.putfield 138, 3) := by decide +kernel
theorem dX10_takePage_165 : decode cX10_takePage 165 = .ok (.return_, 1) := by decide +kernel
set_option maxRecDepth 20000 in
theorem ggX10_note_X10_layPage : GoodIn wsX10_note wsX10_layPage := goodIn_r _ [7, 8, 9, 10, 11, 12, 13, 14, 15, 16, 17, 18, 19, 20, 21, 22, 23, 24, 25, 26, 27, 28, 29, 30, 31, 32, 33, 34, 35, 36, 37, 38, 39, 40, 41, 42, 43, 44, 45, 46, 47, 48, 49, 50, 51, 52, 53, 54, 55] (by decide +kernel) (by decide +kernel)
set_option maxRecDepth 20000 in
theorem gX10_note_X10_layPage : GoodIn wsX10_note (wsV RX10 164 RX10 yX10_layPage wsX10_layPage) := goodIn_app (goodIn_of _ (by decide +kernel)) ggX10_note_X10_layPage
theorem dX10_note_0 : decode cX10_note 0 = .ok (.aload_n 0, 1) := by decide +kernel
theorem dX10_note_1 : decode cX10_note 1 = .ok (.getfield 141, 3) := by decide +kernel
theorem dX10_note_4 : decode cX10_note 4 = .ok (.bipush 10, 2) := by decide +kernel
theorem dX10_note_6 : decode cX10_note 6 = .ok (.if_icmp .ne 43, 3) := by decide +kernel
theorem dX10_note_9 : decode cX10_note 9 = .ok (.iconst 0, 1) := by decide +kernel
theorem dX10_note_10 : decode cX10_note 10 = .ok (.istore_n 1, 1) := by decide +kernel
theorem dX10_note_11 : decode cX10_note 11 = .ok (.iload_n 1, 1) := by decide +kernel
theorem dX10_note_12 : decode cX10_note 12 = .ok (.sipush 666, 3) := by decide +kernel
theorem dX10_note_15 : decode cX10_note 15 = .ok (.if_icmp .ge 24, 3) := by decide +kernel
theorem dX10_note_18 : decode cX10_note 18 = .ok (.aload_n 0, 1) := by decide +kernel
theorem dX10_note_19 : decode cX10_note 19 = .ok (.getfield 56, 3) := by decide +kernel
theorem dX10_note_22 : decode cX10_note 22 = .ok (.iload_n 1, 1) := by decide +kernel
theorem dX10_note_23 : decode cX10_note 23 = .ok (.aload_n 0, 1) := by decide +kernel
theorem dX10_note_24 : decode cX10_note 24 = .ok (.getfield 56, 3) := by decide +kernel
theorem dX10_note_27 : decode cX10_note 27 = .ok (.iload_n 1, 1) := by decide +kernel
theorem dX10_note_28 : decode cX10_note 28 = .ok (.bipush 74, 2) := by decide +kernel
theorem dX10_note_30 : decode cX10_note 30 = .ok (.iadd, 1) := by decide +kernel
theorem dX10_note_31 : decode cX10_note 31 = .ok (.iaload, 1) := by decide +kernel
theorem dX10_note_32 : decode cX10_note 32 = .ok (.iastore, 1) := by decide +kernel
theorem dX10_note_33 : decode cX10_note 33 = .ok (.iinc 1 1, 3) := by decide +kernel
theorem dX10_note_36 : decode cX10_note 36 = .ok (.goto (-25), 3) := by decide +kernel
theorem dX10_note_39 : decode cX10_note 39 = .ok (.aload_n 0, 1) := by decide +kernel
theorem dX10_note_40 : decode cX10_note 40 = .ok (.dup, 1) := by decide +kernel
theorem dX10_note_41 : decode cX10_note 41 = .ok (.getfield 141, 3) := by decide +kernel
theorem dX10_note_44 : decode cX10_note 44 = .ok (.iconst 1, 1) := by decide +kernel
theorem dX10_note_45 : decode cX10_note 45 = .ok (.isub, 1) := by decide +kernel
theorem dX10_note_46 : decode cX10_note 46 = .ok (.putfield 141, 3) := by decide +kernel
theorem dX10_note_49 : decode cX10_note 49 = .ok (.aload_n 0, 1) := by decide +kernel
theorem dX10_note_50 : decode cX10_note 50 = .ok (.aload_n 0, 1) := by decide +kernel
theorem dX10_note_51 : decode cX10_note 51 = .ok (.getfield 56, 3) := by decide +kernel
theorem dX10_note_54 : decode cX10_note 54 = .ok (.bipush 74, 2) := by decide +kernel
theorem dX10_note_56 : decode cX10_note 56 = .ok (.aload_n 0, 1) := by decide +kernel
theorem dX10_note_57 : decode cX10_note 57 = .ok (.getfield 141, 3) := by decide +kernel
theorem dX10_note_60 : decode cX10_note 60 = .ok (.imul, 1) := by decide +kernel
theorem dX10_note_61 : decode cX10_note 61 = .ok (.invokevirtual 164, 3) := by decide +kernel
theorem dX10_note_64 : decode cX10_note 64 = .ok (.aload_n 0, 1) := by decide +kernel
theorem dX10_note_65 : decode cX10_note 65 = .ok (.dup, 1) := by decide +kernel
theorem dX10_note_66 : decode cX10_note 66 = .ok (.getfield 141, 3) := by decide +kernel
theorem dX10_note_69 : decode cX10_note 69 = .ok (.iconst 1, 1) := by decide +kernel
theorem dX10_note_70 : decode cX10_note 70 = .ok (.iadd, 1) := by decide +kernel
theorem dX10_note_71 : decode cX10_note 71 = .ok (.putfield 141, 3) := by decide +kernel
theorem dX10_note_74 : decode cX10_note 74 = .ok (.return_, 1) := by decide +kernel
theorem dX10_drop_0 : decode cX10_drop 0 = .ok (.aload_n 0, 1) := by decide +kernel
theorem dX10_drop_1 : decode cX10_drop 1 = .ok (.dup, 1) := by decide +kernel
theorem dX10_drop_2 : decode cX10_drop 2 = .ok (.getfield 135, 3) := by decide +kernel
theorem dX10_drop_5 : decode cX10_drop 5 = .ok (.iconst 1, 1) := by decide +kernel
theorem dX10_drop_6 : decode cX10_drop 6 = .ok (.isub, 1) := by decide +kernel
theorem dX10_drop_7 : decode cX10_drop 7 = .ok (.putfield 135, 3) := by decide +kernel
theorem dX10_drop_10 : decode cX10_drop 10 = .ok (.iload_n 1, 1) := by decide +kernel
theorem dX10_drop_11 : decode cX10_drop 11 = .ok (.istore_n 2, 1) := by decide +kernel
theorem dX10_drop_12 : decode cX10_drop 12 = .ok (.iload_n 2, 1) := by decide +kernel
theorem dX10_drop_13 : decode cX10_drop 13 = .ok (.aload_n 0, 1) := by decide +kernel
theorem dX10_drop_14 : decode cX10_drop 14 = .ok (.getfield 135, 3) := by decide +kernel
theorem dX10_drop_17 : decode cX10_drop 17 = .ok (.if_icmp .ge 65, 3) := by decide +kernel
theorem dX10_drop_20 : decode cX10_drop 20 = .ok (.aload_n 0, 1) := by decide +kernel
theorem dX10_drop_21 : decode cX10_drop 21 = .ok (.getfield 26, 3) := by decide +kernel
theorem dX10_drop_24 : decode cX10_drop 24 = .ok (.iload_n 2, 1) := by decide +kernel
theorem dX10_drop_25 : decode cX10_drop 25 = .ok (.aload_n 0, 1) := by decide +kernel
theorem dX10_drop_26 : decode cX10_drop 26 = .ok (.getfield 26, 3) := by decide +kernel
theorem dX10_drop_29 : decode cX10_drop 29 = .ok (.iload_n 2, 1) := by decide +kernel
theorem dX10_drop_30 : decode cX10_drop 30 = .ok (.iconst 1, 1) := by decide +kernel
theorem dX10_drop_31 : decode cX10_drop 31 = .ok (.iadd, 1) := by decide +kernel
theorem dX10_drop_32 : decode cX10_drop 32 = .ok (.iaload, 1) := by decide +kernel
theorem dX10_drop_33 : decode cX10_drop 33 = .ok (.iastore, 1) := by decide +kernel
theorem dX10_drop_34 : decode cX10_drop 34 = .ok (.aload_n 0, 1) := by decide +kernel
theorem dX10_drop_35 : decode cX10_drop 35 = .ok (.getfield 29, 3) := by decide +kernel
theorem dX10_drop_38 : decode cX10_drop 38 = .ok (.iload_n 2, 1) := by decide +kernel
theorem dX10_drop_39 : decode cX10_drop 39 = .ok (.aload_n 0, 1) := by decide +kernel
theorem dX10_drop_40 : decode cX10_drop 40 = .ok (.getfield 29, 3) := by decide +kernel
theorem dX10_drop_43 : decode cX10_drop 43 = .ok (.iload_n 2, 1) := by decide +kernel
theorem dX10_drop_44 : decode cX10_drop 44 = .ok (.iconst 1, 1) := by decide +kernel
theorem dX10_drop_45 : decode cX10_drop 45 = .ok (.iadd, 1) := by decide +kernel
theorem dX10_drop_46 : decode cX10_drop 46 = .ok (.iaload, 1) := by decide +kernel
theorem dX10_drop_47 : decode cX10_drop 47 = .ok (.iastore, 1) := by decide +kernel
theorem dX10_drop_48 : decode cX10_drop 48 = .ok (.aload_n 0, 1) := by decide +kernel
theorem dX10_drop_49 : decode cX10_drop 49 = .ok (.getfield 32, 3) := by decide +kernel
theorem dX10_drop_52 : decode cX10_drop 52 = .ok (.iload_n 2, 1) := by decide +kernel
theorem dX10_drop_53 : decode cX10_drop 53 = .ok (.aload_n 0, 1) := by decide +kernel
theorem dX10_drop_54 : decode cX10_drop 54 = .ok (.getfield 32, 3) := by decide +kernel
theorem dX10_drop_57 : decode cX10_drop 57 = .ok (.iload_n 2, 1) := by decide +kernel
theorem dX10_drop_58 : decode cX10_drop 58 = .ok (.iconst 1, 1) := by decide +kernel
theorem dX10_drop_59 : decode cX10_drop 59 = .ok (.iadd, 1) := by decide +kernel
theorem dX10_drop_60 : decode cX10_drop 60 = .ok (.iaload, 1) := by decide +kernel
theorem dX10_drop_61 : decode cX10_drop 61 = .ok (.iastore, 1) := by decide +kernel
theorem dX10_drop_62 : decode cX10_drop 62 = .ok (.aload_n 0, 1) := by decide +kernel
theorem dX10_drop_63 : decode cX10_drop 63 = .ok (.getfield 35, 3) := by decide +kernel
theorem dX10_drop_66 : decode cX10_drop 66 = .ok (.iload_n 2, 1) := by decide +kernel
theorem dX10_drop_67 : decode cX10_drop 67 = .ok (.aload_n 0, 1) := by decide +kernel
theorem dX10_drop_68 : decode cX10_drop 68 = .ok (.getfield 35, 3) := by decide +kernel
theorem dX10_drop_71 : decode cX10_drop 71 = .ok (.iload_n 2, 1) := by decide +kernel
theorem dX10_drop_72 : decode cX10_drop 72 = .ok (.iconst 1, 1) := by decide +kernel
theorem dX10_drop_73 : decode cX10_drop 73 = .ok (.iadd, 1) := by decide +kernel
theorem dX10_drop_74 : decode cX10_drop 74 = .ok (.iaload, 1) := by decide +kernel
theorem dX10_drop_75 : decode cX10_drop 75 = .ok (.iastore, 1) := by decide +kernel
theorem dX10_drop_76 : decode cX10_drop 76 = .ok (.iinc 2 1, 3) := by decide +kernel
theorem dX10_drop_79 : decode cX10_drop 79 = .ok (.goto (-67), 3) := by decide +kernel
theorem dX10_drop_82 : decode cX10_drop 82 = .ok (.return_, 1) := by decide +kernel
theorem dX10_priceOf_0 : decode cX10_priceOf 0 = .ok (.aload_n 0, 1) := by decide +kernel
theorem dX10_priceOf_1 : decode cX10_priceOf 1 = .ok (.getfield 16, 3) := by decide +kernel
theorem dX10_priceOf_4 : decode cX10_priceOf 4 = .ok (.iload_n 1, 1) := by decide +kernel
theorem dX10_priceOf_5 : decode cX10_priceOf 5 = .ok (.iaload, 1) := by decide +kernel
theorem dX10_priceOf_6 : decode cX10_priceOf 6 = .ok (.iload_n 2, 1) := by decide +kernel
theorem dX10_priceOf_7 : decode cX10_priceOf 7 = .ok (.iconst 1, 1) := by decide +kernel
theorem dX10_priceOf_8 : decode cX10_priceOf 8 = .ok (.iadd, 1) := by decide +kernel
theorem dX10_priceOf_9 : decode cX10_priceOf 9 = .ok (.iconst 2, 1) := by decide +kernel
theorem dX10_priceOf_10 : decode cX10_priceOf 10 = .ok (.idiv, 1) := by decide +kernel
theorem dX10_priceOf_11 : decode cX10_priceOf 11 = .ok (.imul, 1) := by decide +kernel
theorem dX10_priceOf_12 : decode cX10_priceOf 12 = .ok (.ireturn, 1) := by decide +kernel
set_option maxRecDepth 20000 in
theorem ggX10_lend_X10_noOne : GoodIn wsX10_lend wsX10_noOne := goodIn_r _ [17, 18, 19, 20, 16, 21, 41, 42, 43, 44, 45, 46, 47, 48, 49, 50, 51, 52, 53, 54, 55, 56, 57, 58, 59, 60, 61, 62, 63, 64, 65, 66, 67, 68, 69, 70, 71, 72, 73, 74, 75, 76, 77, 78] (by decide +kernel) (by decide +kernel)
set_option maxRecDepth 20000 in
theorem gX10_lend_X10_noOne : GoodIn wsX10_lend (wsV RX10 151 RX10 yX10_noOne wsX10_noOne) := goodIn_app (goodIn_of _ (by decide +kernel)) ggX10_lend_X10_noOne
set_option maxRecDepth 20000 in
theorem ggX10_lend_X10_in : GoodIn wsX10_lend wsX10_in := goodIn_r _ [21] (by decide +kernel) (by decide +kernel)
set_option maxRecDepth 20000 in
theorem gX10_lend_X10_in : GoodIn wsX10_lend (va_wsS RX10 99 yX10_in wsX10_in) := goodIn_app (goodIn_of _ (by decide +kernel)) ggX10_lend_X10_in
set_option maxRecDepth 20000 in
theorem ggX10_lend_X10_priceOf : GoodIn wsX10_lend wsX10_priceOf := goodIn_r _ [25, 26, 41, 42, 43, 44, 45, 46, 47, 48, 49, 50, 51, 52, 53, 54, 55, 56, 57, 58, 59, 60, 61, 62, 63, 64, 65, 66, 67, 68, 69, 70, 71, 72, 73, 74, 75, 76, 77, 78] (by decide +kernel) (by decide +kernel)
set_option maxRecDepth 20000 in
theorem gX10_lend_X10_priceOf : GoodIn wsX10_lend (wsV RX10 170 RX10 yX10_priceOf wsX10_priceOf) := goodIn_app (goodIn_of _ (by decide +kernel)) ggX10_lend_X10_priceOf
set_option maxRecDepth 20000 in
theorem ggX10_lend_X10_owesAll : GoodIn wsX10_lend wsX10_owesAll := goodIn_r _ [30, 7, 9, 10, 41, 42, 43, 44, 45, 46, 47, 48, 49, 50, 51, 52, 53, 54, 55, 56, 57, 58, 59, 60, 61, 62, 63, 64, 65, 66, 67, 68, 69, 70, 71, 72, 73, 74, 75, 76, 77, 78] (by decide +kernel) (by decide +kernel)
set_option maxRecDepth 20000 in
theorem gX10_lend_X10_owesAll : GoodIn wsX10_lend (wsV RX10 144 RX10 yX10_owesAll wsX10_owesAll) := goodIn_app (goodIn_of _ (by decide +kernel)) ggX10_lend_X10_owesAll
set_option maxRecDepth 20000 in
theorem ggX10_lend_X10_note : GoodIn wsX10_lend wsX10_note := goodIn_r _ [34, 35, 36, 37, 38, 39, 16, 40, 4, 26, 5, 6, 8, 9, 10, 11, 7, 12, 41, 42, 43, 44, 45, 46, 47, 48, 49, 50, 51, 52, 53, 54, 55, 56, 57, 58, 59, 60, 61, 62, 63, 64, 65, 66, 67, 68, 69, 70, 71, 72, 73, 74, 75, 76, 77, 78] (by decide +kernel) (by decide +kernel)
set_option maxRecDepth 20000 in
theorem gX10_lend_X10_note : GoodIn wsX10_lend (wsV RX10 173 RX10 yX10_note wsX10_note) := goodIn_app (goodIn_of _ (by decide +kernel)) ggX10_lend_X10_note
theorem dX10_lend_0 : decode cX10_lend 0 = .ok (.aload_n 0, 1) := by decide +kernel
theorem dX10_lend_1 : decode cX10_lend 1 = .ok (.iconst 0, 1) := by decide +kernel
theorem dX10_lend_2 : decode cX10_lend 2 = .ok (.putfield 92, 3) := by decide +kernel
theorem dX10_lend_5 : decode cX10_lend 5 = .ok (.aload_n 0, 1) := by decide +kernel
theorem dX10_lend_6 : decode cX10_lend 6 = .ok (.iload_n 1, 1) := by decide +kernel
theorem dX10_lend_7 : decode cX10_lend 7 = .ok (.invokevirtual 151, 3) := by decide +kernel
theorem dX10_lend_10 : decode cX10_lend 10 = .ok (.ifCond .ne 11, 3) := by decide +kernel
theorem dX10_lend_13 : decode cX10_lend 13 = .ok (.aload_n 0, 1) := by decide +kernel
theorem dX10_lend_14 : decode cX10_lend 14 = .ok (.iload_n 2, 1) := by decide +kernel
theorem dX10_lend_15 : decode cX10_lend 15 = .ok (.invokevirtual 151, 3) := by decide +kernel
theorem dX10_lend_18 : decode cX10_lend 18 = .ok (.ifCond .eq 5, 3) := by decide +kernel
theorem dX10_lend_21 : decode cX10_lend 21 = .ok (.iconst (-1), 1) := by decide +kernel
theorem dX10_lend_22 : decode cX10_lend 22 = .ok (.ireturn, 1) := by decide +kernel
theorem dX10_lend_23 : decode cX10_lend 23 = .ok (.iload_n 1, 1) := by decide +kernel
theorem dX10_lend_24 : decode cX10_lend 24 = .ok (.iload_n 2, 1) := by decide +kernel
theorem dX10_lend_25 : decode cX10_lend 25 = .ok (.if_icmp .eq 28, 3) := by decide +kernel
theorem dX10_lend_28 : decode cX10_lend 28 = .ok (.iload_n 3, 1) := by decide +kernel
theorem dX10_lend_29 : decode cX10_lend 29 = .ok (.i2l, 1) := by decide +kernel
theorem dX10_lend_30 : decode cX10_lend 30 = .ok (.lconst 1, 1) := by decide +kernel
theorem dX10_lend_31 : decode cX10_lend 31 = .ok (.ldc2_w 168, 3) := by decide +kernel
theorem dX10_lend_34 : decode cX10_lend 34 = .ok (.invokestatic 99, 3) := by decide +kernel
theorem dX10_lend_37 : decode cX10_lend 37 = .ok (.ifCond .eq 16, 3) := by decide +kernel
theorem dX10_lend_40 : decode cX10_lend 40 = .ok (.iload 4, 2) := by decide +kernel
theorem dX10_lend_42 : decode cX10_lend 42 = .ok (.i2l, 1) := by decide +kernel
theorem dX10_lend_43 : decode cX10_lend 43 = .ok (.lconst 1, 1) := by decide +kernel
theorem dX10_lend_44 : decode cX10_lend 44 = .ok (.ldc2_w 158, 3) := by decide +kernel
theorem dX10_lend_47 : decode cX10_lend 47 = .ok (.invokestatic 99, 3) := by decide +kernel
theorem dX10_lend_50 : decode cX10_lend 50 = .ok (.ifCond .ne 6, 3) := by decide +kernel
theorem dX10_lend_53 : decode cX10_lend 53 = .ok (.bipush (-2), 2) := by decide +kernel
theorem dX10_lend_55 : decode cX10_lend 55 = .ok (.ireturn, 1) := by decide +kernel
theorem dX10_lend_56 : decode cX10_lend 56 = .ok (.iload_n 3, 1) := by decide +kernel
theorem dX10_lend_57 : decode cX10_lend 57 = .ok (.aload_n 0, 1) := by decide +kernel
theorem dX10_lend_58 : decode cX10_lend 58 = .ok (.iload_n 1, 1) := by decide +kernel
theorem dX10_lend_59 : decode cX10_lend 59 = .ok (.iload_n 3, 1) := by decide +kernel
theorem dX10_lend_60 : decode cX10_lend 60 = .ok (.invokevirtual 170, 3) := by decide +kernel
theorem dX10_lend_63 : decode cX10_lend 63 = .ok (.iadd, 1) := by decide +kernel
theorem dX10_lend_64 : decode cX10_lend 64 = .ok (.istore 5, 2) := by decide +kernel
theorem dX10_lend_66 : decode cX10_lend 66 = .ok (.aload_n 0, 1) := by decide +kernel
theorem dX10_lend_67 : decode cX10_lend 67 = .ok (.getfield 13, 3) := by decide +kernel
theorem dX10_lend_70 : decode cX10_lend 70 = .ok (.iload_n 1, 1) := by decide +kernel
theorem dX10_lend_71 : decode cX10_lend 71 = .ok (.iaload, 1) := by decide +kernel
theorem dX10_lend_72 : decode cX10_lend 72 = .ok (.iload_n 3, 1) := by decide +kernel
theorem dX10_lend_73 : decode cX10_lend 73 = .ok (.if_icmp .lt 43, 3) := by decide +kernel
theorem dX10_lend_76 : decode cX10_lend 76 = .ok (.aload_n 0, 1) := by decide +kernel
theorem dX10_lend_77 : decode cX10_lend 77 = .ok (.getfield 19, 3) := by decide +kernel
theorem dX10_lend_80 : decode cX10_lend 80 = .ok (.iload_n 1, 1) := by decide +kernel
theorem dX10_lend_81 : decode cX10_lend 81 = .ok (.baload, 1) := by decide +kernel
theorem dX10_lend_82 : decode cX10_lend 82 = .ok (.ifCond .ne 34, 3) := by decide +kernel
theorem dX10_lend_85 : decode cX10_lend 85 = .ok (.aload_n 0, 1) := by decide +kernel
theorem dX10_lend_86 : decode cX10_lend 86 = .ok (.getfield 19, 3) := by decide +kernel
theorem dX10_lend_89 : decode cX10_lend 89 = .ok (.iload_n 2, 1) := by decide +kernel
theorem dX10_lend_90 : decode cX10_lend 90 = .ok (.baload, 1) := by decide +kernel
theorem dX10_lend_91 : decode cX10_lend 91 = .ok (.ifCond .ne 25, 3) := by decide +kernel
theorem dX10_lend_94 : decode cX10_lend 94 = .ok (.aload_n 0, 1) := by decide +kernel
theorem dX10_lend_95 : decode cX10_lend 95 = .ok (.getfield 23, 3) := by decide +kernel
theorem dX10_lend_98 : decode cX10_lend 98 = .ok (.iload_n 2, 1) := by decide +kernel
theorem dX10_lend_99 : decode cX10_lend 99 = .ok (.baload, 1) := by decide +kernel
theorem dX10_lend_100 : decode cX10_lend 100 = .ok (.ifCond .ne 16, 3) := by decide +kernel
theorem dX10_lend_103 : decode cX10_lend 103 = .ok (.aload_n 0, 1) := by decide +kernel
theorem dX10_lend_104 : decode cX10_lend 104 = .ok (.iload_n 2, 1) := by decide +kernel
theorem dX10_lend_105 : decode cX10_lend 105 = .ok (.invokevirtual 144, 3) := by decide +kernel
theorem dX10_lend_108 : decode cX10_lend 108 = .ok (.iload 5, 2) := by decide +kernel
theorem dX10_lend_110 : decode cX10_lend 110 = .ok (.iadd, 1) := by decide +kernel
theorem dX10_lend_111 : decode cX10_lend 111 = .ok (.bipush 80, 2) := by decide +kernel
theorem dX10_lend_113 : decode cX10_lend 113 = .ok (.if_icmp .le 6, 3) := by decide +kernel
theorem dX10_lend_116 : decode cX10_lend 116 = .ok (.bipush (-3), 2) := by decide +kernel
theorem dX10_lend_118 : decode cX10_lend 118 = .ok (.ireturn, 1) := by decide +kernel
theorem dX10_lend_119 : decode cX10_lend 119 = .ok (.aload_n 0, 1) := by decide +kernel
theorem dX10_lend_120 : decode cX10_lend 120 = .ok (.getfield 135, 3) := by decide +kernel
theorem dX10_lend_123 : decode cX10_lend 123 = .ok (.bipush 12, 2) := by decide +kernel
theorem dX10_lend_125 : decode cX10_lend 125 = .ok (.if_icmp .ne 6, 3) := by decide +kernel
theorem dX10_lend_128 : decode cX10_lend 128 = .ok (.bipush (-4), 2) := by decide +kernel
theorem dX10_lend_130 : decode cX10_lend 130 = .ok (.ireturn, 1) := by decide +kernel
theorem dX10_lend_131 : decode cX10_lend 131 = .ok (.aload_n 0, 1) := by decide +kernel
theorem dX10_lend_132 : decode cX10_lend 132 = .ok (.invokevirtual 173, 3) := by decide +kernel
theorem dX10_lend_135 : decode cX10_lend 135 = .ok (.aload_n 0, 1) := by decide +kernel
theorem dX10_lend_136 : decode cX10_lend 136 = .ok (.getfield 13, 3) := by decide +kernel
theorem dX10_lend_139 : decode cX10_lend 139 = .ok (.iload_n 1, 1) := by decide +kernel
theorem dX10_lend_140 : decode cX10_lend 140 = .ok (.dup2, 1) := by decide +kernel
theorem dX10_lend_141 : decode cX10_lend 141 = .ok (.iaload, 1) := by decide +kernel
theorem dX10_lend_142 : decode cX10_lend 142 = .ok (.iload_n 3, 1) := by decide +kernel
theorem dX10_lend_143 : decode cX10_lend 143 = .ok (.isub, 1) := by decide +kernel
theorem dX10_lend_144 : decode cX10_lend 144 = .ok (.iastore, 1) := by decide +kernel
theorem dX10_lend_145 : decode cX10_lend 145 = .ok (.aload_n 0, 1) := by decide +kernel
theorem dX10_lend_146 : decode cX10_lend 146 = .ok (.getfield 13, 3) := by decide +kernel
theorem dX10_lend_149 : decode cX10_lend 149 = .ok (.iload_n 2, 1) := by decide +kernel
theorem dX10_lend_150 : decode cX10_lend 150 = .ok (.dup2, 1) := by decide +kernel
theorem dX10_lend_151 : decode cX10_lend 151 = .ok (.iaload, 1) := by decide +kernel
theorem dX10_lend_152 : decode cX10_lend 152 = .ok (.iload_n 3, 1) := by decide +kernel
theorem dX10_lend_153 : decode cX10_lend 153 = .ok (.iadd, 1) := by decide +kernel
theorem dX10_lend_154 : decode cX10_lend 154 = .ok (.iastore, 1) := by decide +kernel
theorem dX10_lend_155 : decode cX10_lend 155 = .ok (.aload_n 0, 1) := by decide +kernel
theorem dX10_lend_156 : decode cX10_lend 156 = .ok (.getfield 26, 3) := by decide +kernel
theorem dX10_lend_159 : decode cX10_lend 159 = .ok (.aload_n 0, 1) := by decide +kernel
theorem dX10_lend_160 : decode cX10_lend 160 = .ok (.getfield 135, 3) := by decide +kernel
theorem dX10_lend_163 : decode cX10_lend 163 = .ok (.iload_n 1, 1) := by decide +kernel
theorem dX10_lend_164 : decode cX10_lend 164 = .ok (.iastore, 1) := by decide +kernel
theorem dX10_lend_165 : decode cX10_lend 165 = .ok (.aload_n 0, 1) := by decide +kernel
theorem dX10_lend_166 : decode cX10_lend 166 = .ok (.getfield 29, 3) := by decide +kernel
theorem dX10_lend_169 : decode cX10_lend 169 = .ok (.aload_n 0, 1) := by decide +kernel
theorem dX10_lend_170 : decode cX10_lend 170 = .ok (.getfield 135, 3) := by decide +kernel
theorem dX10_lend_173 : decode cX10_lend 173 = .ok (.iload_n 2, 1) := by decide +kernel
theorem dX10_lend_174 : decode cX10_lend 174 = .ok (.iastore, 1) := by decide +kernel
theorem dX10_lend_175 : decode cX10_lend 175 = .ok (.aload_n 0, 1) := by decide +kernel
theorem dX10_lend_176 : decode cX10_lend 176 = .ok (.getfield 32, 3) := by decide +kernel
theorem dX10_lend_179 : decode cX10_lend 179 = .ok (.aload_n 0, 1) := by decide +kernel
theorem dX10_lend_180 : decode cX10_lend 180 = .ok (.getfield 135, 3) := by decide +kernel
theorem dX10_lend_183 : decode cX10_lend 183 = .ok (.iload 5, 2) := by decide +kernel
theorem dX10_lend_185 : decode cX10_lend 185 = .ok (.iastore, 1) := by decide +kernel
theorem dX10_lend_186 : decode cX10_lend 186 = .ok (.aload_n 0, 1) := by decide +kernel
theorem dX10_lend_187 : decode cX10_lend 187 = .ok (.getfield 35, 3) := by decide +kernel
theorem dX10_lend_190 : decode cX10_lend 190 = .ok (.aload_n 0, 1) := by decide +kernel
theorem dX10_lend_191 : decode cX10_lend 191 = .ok (.getfield 135, 3) := by decide +kernel
theorem dX10_lend_194 : decode cX10_lend 194 = .ok (.aload_n 0, 1) := by decide +kernel
theorem dX10_lend_195 : decode cX10_lend 195 = .ok (.getfield 138, 3) := by decide +kernel
theorem dX10_lend_198 : decode cX10_lend 198 = .ok (.iload 4, 2) := by decide +kernel
theorem dX10_lend_200 : decode cX10_lend 200 = .ok (.iadd, 1) := by decide +kernel
theorem dX10_lend_201 : decode cX10_lend 201 = .ok (.iastore, 1) := by decide +kernel
theorem dX10_lend_202 : decode cX10_lend 202 = .ok (.aload_n 0, 1) := by decide +kernel
theorem dX10_lend_203 : decode cX10_lend 203 = .ok (.dup, 1) := by decide +kernel
theorem dX10_lend_204 : decode cX10_lend 204 = .ok (.getfield 135, 3) := by decide +kernel
theorem dX10_lend_207 : decode cX10_lend 207 = .ok (.iconst 1, 1) := by decide +kernel
theorem dX10_lend_208 : decode cX10_lend 208 = .ok (.iadd, 1) := by decide +kernel
theorem dX10_lend_209 : decode cX10_lend 209 = .ok (.putfield 135, 3) := by decide +kernel
theorem dX10_lend_212 : decode cX10_lend 212 = .ok (.iload 5, 2) := by decide +kernel
theorem dX10_lend_214 : decode cX10_lend 214 = .ok (.ireturn, 1) := by decide +kernel
set_option maxRecDepth 20000 in
theorem ggX10_week_X10_note : GoodIn wsX10_week wsX10_note := goodIn_r _ [15, 16, 17, 18, 19, 20, 14, 21, 6, 22, 23, 8, 9, 5, 7, 4, 3, 2, 28, 29, 30, 31, 32, 33, 34, 35, 36, 37, 38, 39, 40, 41, 42, 43, 44, 45, 46, 47, 48, 49, 50, 51, 52, 53, 54, 55, 56, 57, 58, 59, 60, 61, 62, 63, 64, 65] (by decide +kernel) (by decide +kernel)
set_option maxRecDepth 20000 in
theorem gX10_week_X10_note : GoodIn wsX10_week (wsV RX10 173 RX10 yX10_note wsX10_note) := goodIn_app (goodIn_of _ (by decide +kernel)) ggX10_week_X10_note
set_option maxRecDepth 20000 in
theorem ggX10_week_X10_drop : GoodIn wsX10_week wsX10_drop := goodIn_r _ [27, 3, 9, 5, 7, 4, 28, 29, 30, 31, 32, 33, 34, 35, 36, 37, 38, 39, 40, 41, 42, 43, 44, 45, 46, 47, 48, 49, 50, 51, 52, 53, 54, 55, 56, 57, 58, 59, 60, 61, 62, 63, 64, 65] (by decide +kernel) (by decide +kernel)
set_option maxRecDepth 20000 in
theorem gX10_week_X10_drop : GoodIn wsX10_week (wsV RX10 176 RX10 yX10_drop wsX10_drop) := goodIn_app (goodIn_of _ (by decide +kernel)) ggX10_week_X10_drop
theorem dX10_week_0 : decode cX10_week 0 = .ok (.aload_n 0, 1) := by decide +kernel
theorem dX10_week_1 : decode cX10_week 1 = .ok (.iconst 0, 1) := by decide +kernel
theorem dX10_week_2 : decode cX10_week 2 = .ok (.putfield 92, 3) := by decide +kernel
theorem dX10_week_5 : decode cX10_week 5 = .ok (.aload_n 0, 1) := by decide +kernel
theorem dX10_week_6 : decode cX10_week 6 = .ok (.invokevirtual 173, 3) := by decide +kernel
theorem dX10_week_9 : decode cX10_week 9 = .ok (.aload_n 0, 1) := by decide +kernel
theorem dX10_week_10 : decode cX10_week 10 = .ok (.dup, 1) := by decide +kernel
theorem dX10_week_11 : decode cX10_week 11 = .ok (.getfield 138, 3) := by decide +kernel
theorem dX10_week_14 : decode cX10_week 14 = .ok (.iconst 1, 1) := by decide +kernel

theorem dX10_init_0 : decode cX10_init 0 = .ok (.aload_n 0, 1) := by decide +kernel
theorem dX10_init_1 : decode cX10_init 1 = .ok (.invokespecial 1, 3) := by decide +kernel
theorem dX10_init_4 : decode cX10_init 4 = .ok (.aload_n 0, 1) := by decide +kernel
theorem dX10_init_5 : decode cX10_init 5 = .ok (.bipush 80, 2) := by decide +kernel
theorem dX10_init_7 : decode cX10_init 7 = .ok (.newarray .int, 2) := by decide +kernel
theorem dX10_init_9 : decode cX10_init 9 = .ok (.putfield 7, 3) := by decide +kernel
theorem dX10_init_12 : decode cX10_init 12 = .ok (.aload_n 0, 1) := by decide +kernel
theorem dX10_init_13 : decode cX10_init 13 = .ok (.bipush 6, 2) := by decide +kernel
theorem dX10_init_15 : decode cX10_init 15 = .ok (.newarray .int, 2) := by decide +kernel
theorem dX10_init_17 : decode cX10_init 17 = .ok (.putfield 13, 3) := by decide +kernel
theorem dX10_init_20 : decode cX10_init 20 = .ok (.aload_n 0, 1) := by decide +kernel
theorem dX10_init_21 : decode cX10_init 21 = .ok (.bipush 6, 2) := by decide +kernel
theorem dX10_init_23 : decode cX10_init 23 = .ok (.newarray .int, 2) := by decide +kernel
theorem dX10_init_25 : decode cX10_init 25 = .ok (.putfield 16, 3) := by decide +kernel
theorem dX10_init_28 : decode cX10_init 28 = .ok (.aload_n 0, 1) := by decide +kernel
theorem dX10_init_29 : decode cX10_init 29 = .ok (.bipush 6, 2) := by decide +kernel
theorem dX10_init_31 : decode cX10_init 31 = .ok (.newarray .boolean, 2) := by decide +kernel
theorem dX10_init_33 : decode cX10_init 33 = .ok (.putfield 19, 3) := by decide +kernel
theorem dX10_init_36 : decode cX10_init 36 = .ok (.aload_n 0, 1) := by decide +kernel
theorem dX10_init_37 : decode cX10_init 37 = .ok (.bipush 6, 2) := by decide +kernel
theorem dX10_init_39 : decode cX10_init 39 = .ok (.newarray .boolean, 2) := by decide +kernel
theorem dX10_init_41 : decode cX10_init 41 = .ok (.putfield 23, 3) := by decide +kernel
theorem dX10_init_44 : decode cX10_init 44 = .ok (.aload_n 0, 1) := by decide +kernel
theorem dX10_init_45 : decode cX10_init 45 = .ok (.bipush 12, 2) := by decide +kernel
theorem dX10_init_47 : decode cX10_init 47 = .ok (.newarray .int, 2) := by decide +kernel
theorem dX10_init_49 : decode cX10_init 49 = .ok (.putfield 26, 3) := by decide +kernel
theorem dX10_init_52 : decode cX10_init 52 = .ok (.aload_n 0, 1) := by decide +kernel
theorem dX10_init_53 : decode cX10_init 53 = .ok (.bipush 12, 2) := by decide +kernel
theorem dX10_init_55 : decode cX10_init 55 = .ok (.newarray .int, 2) := by decide +kernel
theorem dX10_init_57 : decode cX10_init 57 = .ok (.putfield 29, 3) := by decide +kernel
theorem dX10_init_60 : decode cX10_init 60 = .ok (.aload_n 0, 1) := by decide +kernel
theorem dX10_init_61 : decode cX10_init 61 = .ok (.bipush 12, 2) := by decide +kernel
theorem dX10_init_63 : decode cX10_init 63 = .ok (.newarray .int, 2) := by decide +kernel
theorem dX10_init_65 : decode cX10_init 65 = .ok (.putfield 32, 3) := by decide +kernel
theorem dX10_init_68 : decode cX10_init 68 = .ok (.aload_n 0, 1) := by decide +kernel
theorem dX10_init_69 : decode cX10_init 69 = .ok (.bipush 12, 2) := by decide +kernel
theorem dX10_init_71 : decode cX10_init 71 = .ok (.newarray .int, 2) := by decide +kernel
theorem dX10_init_73 : decode cX10_init 73 = .ok (.putfield 35, 3) := by decide +kernel
theorem dX10_init_76 : decode cX10_init 76 = .ok (.aload_n 0, 1) := by decide +kernel
theorem dX10_init_77 : decode cX10_init 77 = .ok (.bipush 6, 2) := by decide +kernel
theorem dX10_init_79 : decode cX10_init 79 = .ok (.newarray .int, 2) := by decide +kernel
theorem dX10_init_81 : decode cX10_init 81 = .ok (.putfield 38, 3) := by decide +kernel
theorem dX10_init_84 : decode cX10_init 84 = .ok (.aload_n 0, 1) := by decide +kernel
theorem dX10_init_85 : decode cX10_init 85 = .ok (.bipush 6, 2) := by decide +kernel
theorem dX10_init_87 : decode cX10_init 87 = .ok (.newarray .int, 2) := by decide +kernel
theorem dX10_init_89 : decode cX10_init 89 = .ok (.putfield 41, 3) := by decide +kernel
theorem dX10_init_92 : decode cX10_init 92 = .ok (.aload_n 0, 1) := by decide +kernel
theorem dX10_init_93 : decode cX10_init 93 = .ok (.bipush 8, 2) := by decide +kernel
theorem dX10_init_95 : decode cX10_init 95 = .ok (.newarray .int, 2) := by decide +kernel
theorem dX10_init_97 : decode cX10_init 97 = .ok (.putfield 44, 3) := by decide +kernel
theorem dX10_init_100 : decode cX10_init 100 = .ok (.aload_n 0, 1) := by decide +kernel
theorem dX10_init_101 : decode cX10_init 101 = .ok (.bipush 8, 2) := by decide +kernel
theorem dX10_init_103 : decode cX10_init 103 = .ok (.newarray .int, 2) := by decide +kernel
theorem dX10_init_105 : decode cX10_init 105 = .ok (.putfield 47, 3) := by decide +kernel
theorem dX10_init_108 : decode cX10_init 108 = .ok (.aload_n 0, 1) := by decide +kernel
theorem dX10_init_109 : decode cX10_init 109 = .ok (.bipush 8, 2) := by decide +kernel
theorem dX10_init_111 : decode cX10_init 111 = .ok (.newarray .int, 2) := by decide +kernel
theorem dX10_init_113 : decode cX10_init 113 = .ok (.putfield 50, 3) := by decide +kernel
theorem dX10_init_116 : decode cX10_init 116 = .ok (.aload_n 0, 1) := by decide +kernel
theorem dX10_init_117 : decode cX10_init 117 = .ok (.bipush 8, 2) := by decide +kernel
theorem dX10_init_119 : decode cX10_init 119 = .ok (.newarray .int, 2) := by decide +kernel
theorem dX10_init_121 : decode cX10_init 121 = .ok (.putfield 53, 3) := by decide +kernel
theorem dX10_init_124 : decode cX10_init 124 = .ok (.aload_n 0, 1) := by decide +kernel
theorem dX10_init_125 : decode cX10_init 125 = .ok (.sipush 740, 3) := by decide +kernel
theorem dX10_init_128 : decode cX10_init 128 = .ok (.newarray .int, 2) := by decide +kernel
theorem dX10_init_130 : decode cX10_init 130 = .ok (.putfield 56, 3) := by decide +kernel
theorem dX10_init_133 : decode cX10_init 133 = .ok (.aload_n 0, 1) := by decide +kernel
theorem dX10_init_134 : decode cX10_init 134 = .ok (.sipush 148, 3) := by decide +kernel
theorem dX10_init_137 : decode cX10_init 137 = .ok (.newarray .int, 2) := by decide +kernel
theorem dX10_init_139 : decode cX10_init 139 = .ok (.putfield 59, 3) := by decide +kernel
theorem dX10_init_142 : decode cX10_init 142 = .ok (.aload_n 0, 1) := by decide +kernel
theorem dX10_init_143 : decode cX10_init 143 = .ok (.iconst 2, 1) := by decide +kernel
theorem dX10_init_144 : decode cX10_init 144 = .ok (.newarray .boolean, 2) := by decide +kernel
theorem dX10_init_146 : decode cX10_init 146 = .ok (.putfield 62, 3) := by decide +kernel
theorem dX10_init_149 : decode cX10_init 149 = .ok (.aload_n 0, 1) := by decide +kernel
theorem dX10_init_150 : decode cX10_init 150 = .ok (.bipush 12, 2) := by decide +kernel
theorem dX10_init_152 : decode cX10_init 152 = .ok (.newarray .int, 2) := by decide +kernel
theorem dX10_init_154 : decode cX10_init 154 = .ok (.putfield 65, 3) := by decide +kernel
theorem dX10_init_157 : decode cX10_init 157 = .ok (.aload_n 0, 1) := by decide +kernel
theorem dX10_init_158 : decode cX10_init 158 = .ok (.bipush 12, 2) := by decide +kernel
theorem dX10_init_160 : decode cX10_init 160 = .ok (.newarray .int, 2) := by decide +kernel
theorem dX10_init_162 : decode cX10_init 162 = .ok (.putfield 68, 3) := by decide +kernel
theorem dX10_init_165 : decode cX10_init 165 = .ok (.aload_n 0, 1) := by decide +kernel
theorem dX10_init_166 : decode cX10_init 166 = .ok (.bipush 12, 2) := by decide +kernel
theorem dX10_init_168 : decode cX10_init 168 = .ok (.newarray .boolean, 2) := by decide +kernel
theorem dX10_init_170 : decode cX10_init 170 = .ok (.putfield 71, 3) := by decide +kernel
theorem dX10_init_173 : decode cX10_init 173 = .ok (.aload_n 0, 1) := by decide +kernel
theorem dX10_init_174 : decode cX10_init 174 = .ok (.bipush 64, 2) := by decide +kernel
theorem dX10_init_176 : decode cX10_init 176 = .ok (.newarray .int, 2) := by decide +kernel
theorem dX10_init_178 : decode cX10_init 178 = .ok (.putfield 74, 3) := by decide +kernel
theorem dX10_init_181 : decode cX10_init 181 = .ok (.aload_n 0, 1) := by decide +kernel
theorem dX10_init_182 : decode cX10_init 182 = .ok (.bipush 7, 2) := by decide +kernel
theorem dX10_init_184 : decode cX10_init 184 = .ok (.newarray .int, 2) := by decide +kernel
theorem dX10_init_186 : decode cX10_init 186 = .ok (.putfield 77, 3) := by decide +kernel
theorem dX10_init_189 : decode cX10_init 189 = .ok (.aload_n 0, 1) := by decide +kernel
theorem dX10_init_190 : decode cX10_init 190 = .ok (.bipush 7, 2) := by decide +kernel
theorem dX10_init_192 : decode cX10_init 192 = .ok (.newarray .int, 2) := by decide +kernel
theorem dX10_init_194 : decode cX10_init 194 = .ok (.putfield 80, 3) := by decide +kernel
theorem dX10_init_197 : decode cX10_init 197 = .ok (.aload_n 0, 1) := by decide +kernel
theorem dX10_init_198 : decode cX10_init 198 = .ok (.sipush 700, 3) := by decide +kernel
theorem dX10_init_201 : decode cX10_init 201 = .ok (.newarray .int, 2) := by decide +kernel
theorem dX10_init_203 : decode cX10_init 203 = .ok (.putfield 83, 3) := by decide +kernel
theorem dX10_init_206 : decode cX10_init 206 = .ok (.aload_n 0, 1) := by decide +kernel
theorem dX10_init_207 : decode cX10_init 207 = .ok (.bipush 6, 2) := by decide +kernel
theorem dX10_init_209 : decode cX10_init 209 = .ok (.newarray .int, 2) := by decide +kernel
theorem dX10_init_211 : decode cX10_init 211 = .ok (.putfield 86, 3) := by decide +kernel
theorem dX10_init_214 : decode cX10_init 214 = .ok (.aload_n 0, 1) := by decide +kernel
theorem dX10_init_215 : decode cX10_init 215 = .ok (.bipush 6, 2) := by decide +kernel
theorem dX10_init_217 : decode cX10_init 217 = .ok (.newarray .int, 2) := by decide +kernel
theorem dX10_init_219 : decode cX10_init 219 = .ok (.putfield 89, 3) := by decide +kernel
theorem dX10_init_222 : decode cX10_init 222 = .ok (.return_, 1) := by decide +kernel
theorem dX10_in_0 : decode cX10_in 0 = .ok (.lload_n 0, 1) := by decide +kernel
theorem dX10_in_1 : decode cX10_in 1 = .ok (.lload_n 2, 1) := by decide +kernel
theorem dX10_in_2 : decode cX10_in 2 = .ok (.lcmp, 1) := by decide +kernel
theorem dX10_in_3 : decode cX10_in 3 = .ok (.ifCond .lt 14, 3) := by decide +kernel
theorem dX10_in_6 : decode cX10_in 6 = .ok (.lload_n 0, 1) := by decide +kernel
theorem dX10_in_7 : decode cX10_in 7 = .ok (.lload 4, 2) := by decide +kernel
theorem dX10_in_9 : decode cX10_in 9 = .ok (.lcmp, 1) := by decide +kernel
theorem dX10_in_10 : decode cX10_in 10 = .ok (.ifCond .gt 7, 3) := by decide +kernel
theorem dX10_in_13 : decode cX10_in 13 = .ok (.iconst 1, 1) := by decide +kernel
theorem dX10_in_14 : decode cX10_in 14 = .ok (.goto 4, 3) := by decide +kernel
theorem dX10_in_17 : decode cX10_in 17 = .ok (.iconst 0, 1) := by decide +kernel
theorem dX10_in_18 : decode cX10_in 18 = .ok (.ireturn, 1) := by decide +kernel
theorem dX10_has_0 : decode cX10_has 0 = .ok (.iload_n 0, 1) := by decide +kernel
theorem dX10_has_1 : decode cX10_has 1 = .ok (.iload_n 1, 1) := by decide +kernel
theorem dX10_has_2 : decode cX10_has 2 = .ok (.ishr, 1) := by decide +kernel
theorem dX10_has_3 : decode cX10_has 3 = .ok (.iconst 1, 1) := by decide +kernel
theorem dX10_has_4 : decode cX10_has 4 = .ok (.iand, 1) := by decide +kernel
theorem dX10_has_5 : decode cX10_has 5 = .ok (.iconst 1, 1) := by decide +kernel
theorem dX10_has_6 : decode cX10_has 6 = .ok (.if_icmp .ne 7, 3) := by decide +kernel
theorem dX10_has_9 : decode cX10_has 9 = .ok (.iconst 1, 1) := by decide +kernel
theorem dX10_has_10 : decode cX10_has 10 = .ok (.goto 4, 3) := by decide +kernel
theorem dX10_has_13 : decode cX10_has 13 = .ok (.iconst 0, 1) := by decide +kernel
theorem dX10_has_14 : decode cX10_has 14 = .ok (.ireturn, 1) := by decide +kernel
set_option maxRecDepth 20000 in
theorem ggX10_noOne_X10_in : GoodIn wsX10_noOne wsX10_in := goodIn_r _ [5] (by decide +kernel) (by decide +kernel)
set_option maxRecDepth 20000 in
theorem gX10_noOne_X10_in : GoodIn wsX10_noOne (va_wsS RX10 99 yX10_in wsX10_in) := goodIn_app (goodIn_of _ (by decide +kernel)) ggX10_noOne_X10_in
theorem dX10_noOne_0 : decode cX10_noOne 0 = .ok (.iload_n 1, 1) := by decide +kernel
theorem dX10_noOne_1 : decode cX10_noOne 1 = .ok (.i2l, 1) := by decide +kernel
theorem dX10_noOne_2 : decode cX10_noOne 2 = .ok (.lconst 0, 1) := by decide +kernel
theorem dX10_noOne_3 : decode cX10_noOne 3 = .ok (.aload_n 0, 1) := by decide +kernel
theorem dX10_noOne_4 : decode cX10_noOne 4 = .ok (.getfield 96, 3) := by decide +kernel
theorem dX10_noOne_7 : decode cX10_noOne 7 = .ok (.iconst 1, 1) := by decide +kernel
theorem dX10_noOne_8 : decode cX10_noOne 8 = .ok (.isub, 1) := by decide +kernel
theorem dX10_noOne_9 : decode cX10_noOne 9 = .ok (.i2l, 1) := by decide +kernel
theorem dX10_noOne_10 : decode cX10_noOne 10 = .ok (.invokestatic 99, 3) := by decide +kernel
theorem dX10_noOne_13 : decode cX10_noOne 13 = .ok (.ifCond .ne 7, 3) := by decide +kernel
theorem dX10_noOne_16 : decode cX10_noOne 16 = .ok (.iconst 1, 1) := by decide +kernel
theorem dX10_noOne_17 : decode cX10_noOne 17 = .ok (.goto 4, 3) := by decide +kernel
theorem dX10_noOne_20 : decode cX10_noOne 20 = .ok (.iconst 0, 1) := by decide +kernel
theorem dX10_noOne_21 : decode cX10_noOne 21 = .ok (.ireturn, 1) := by decide +kernel
set_option maxRecDepth 20000 in
theorem ggX10_write_X10_in : GoodIn wsX10_write wsX10_in := goodIn_r _ [8] (by decide +kernel) (by decide +kernel)
set_option maxRecDepth 20000 in
theorem gX10_write_X10_in : GoodIn wsX10_write (va_wsS RX10 99 yX10_in wsX10_in) := goodIn_app (goodIn_of _ (by decide +kernel)) ggX10_write_X10_in
theorem dX10_write_0 : decode cX10_write 0 = .ok (.aload_n 0, 1) := by decide +kernel
theorem dX10_write_1 : decode cX10_write 1 = .ok (.iconst 0, 1) := by decide +kernel
theorem dX10_write_2 : decode cX10_write 2 = .ok (.putfield 92, 3) := by decide +kernel
theorem dX10_write_5 : decode cX10_write 5 = .ok (.iload_n 1, 1) := by decide +kernel
theorem dX10_write_6 : decode cX10_write 6 = .ok (.i2l, 1) := by decide +kernel
theorem dX10_write_7 : decode cX10_write 7 = .ok (.lconst 1, 1) := by decide +kernel
theorem dX10_write_8 : decode cX10_write 8 = .ok (.ldc2_w 103, 3) := by decide +kernel
theorem dX10_write_11 : decode cX10_write 11 = .ok (.invokestatic 99, 3) := by decide +kernel
theorem dX10_write_14 : decode cX10_write 14 = .ok (.ifCond .ne 6, 3) := by decide +kernel
theorem dX10_write_17 : decode cX10_write 17 = .ok (.bipush (-2), 2) := by decide +kernel
theorem dX10_write_19 : decode cX10_write 19 = .ok (.ireturn, 1) := by decide +kernel
theorem dX10_write_20 : decode cX10_write 20 = .ok (.aload_n 0, 1) := by decide +kernel
theorem dX10_write_21 : decode cX10_write 21 = .ok (.getfield 105, 3) := by decide +kernel
theorem dX10_write_24 : decode cX10_write 24 = .ok (.iload_n 1, 1) := by decide +kernel
theorem dX10_write_25 : decode cX10_write 25 = .ok (.iadd, 1) := by decide +kernel
theorem dX10_write_26 : decode cX10_write 26 = .ok (.bipush 80, 2) := by decide +kernel
theorem dX10_write_28 : decode cX10_write 28 = .ok (.if_icmp .le 6, 3) := by decide +kernel
theorem dX10_write_31 : decode cX10_write 31 = .ok (.bipush (-4), 2) := by decide +kernel
theorem dX10_write_33 : decode cX10_write 33 = .ok (.ireturn, 1) := by decide +kernel
theorem dX10_write_34 : decode cX10_write 34 = .ok (.iload_n 1, 1) := by decide +kernel
theorem dX10_write_35 : decode cX10_write 35 = .ok (.iconst 1, 1) := by decide +kernel
theorem dX10_write_36 : decode cX10_write 36 = .ok (.isub, 1) := by decide +kernel
theorem dX10_write_37 : decode cX10_write 37 = .ok (.istore 4, 2) := by decide +kernel
theorem dX10_write_39 : decode cX10_write 39 = .ok (.iload 4, 2) := by decide +kernel
theorem dX10_write_41 : decode cX10_write 41 = .ok (.ifCond .lt 40, 3) := by decide +kernel
theorem dX10_write_44 : decode cX10_write 44 = .ok (.aload_n 0, 1) := by decide +kernel
theorem dX10_write_45 : decode cX10_write 45 = .ok (.getfield 7, 3) := by decide +kernel
theorem dX10_write_48 : decode cX10_write 48 = .ok (.aload_n 0, 1) := by decide +kernel
theorem dX10_write_49 : decode cX10_write 49 = .ok (.getfield 105, 3) := by decide +kernel
theorem dX10_write_52 : decode cX10_write 52 = .ok (.lload_n 2, 1) := by decide +kernel
theorem dX10_write_53 : decode cX10_write 53 = .ok (.bipush 8, 2) := by decide +kernel
theorem dX10_write_55 : decode cX10_write 55 = .ok (.iload 4, 2) := by decide +kernel
theorem dX10_write_57 : decode cX10_write 57 = .ok (.imul, 1) := by decide +kernel
theorem dX10_write_58 : decode cX10_write 58 = .ok (.lshr, 1) := by decide +kernel
theorem dX10_write_59 : decode cX10_write 59 = .ok (.l2i, 1) := by decide +kernel
theorem dX10_write_60 : decode cX10_write 60 = .ok (.sipush 255, 3) := by decide +kernel
theorem dX10_write_63 : decode cX10_write 63 = .ok (.iand, 1) := by decide +kernel
theorem dX10_write_64 : decode cX10_write 64 = .ok (.iastore, 1) := by decide +kernel
theorem dX10_write_65 : decode cX10_write 65 = .ok (.aload_n 0, 1) := by decide +kernel
theorem dX10_write_66 : decode cX10_write 66 = .ok (.dup, 1) := by decide +kernel
theorem dX10_write_67 : decode cX10_write 67 = .ok (.getfield 105, 3) := by decide +kernel
theorem dX10_write_70 : decode cX10_write 70 = .ok (.iconst 1, 1) := by decide +kernel
theorem dX10_write_71 : decode cX10_write 71 = .ok (.iadd, 1) := by decide +kernel
theorem dX10_write_72 : decode cX10_write 72 = .ok (.putfield 105, 3) := by decide +kernel
theorem dX10_write_75 : decode cX10_write 75 = .ok (.iinc 4 (-1), 3) := by decide +kernel
theorem dX10_write_78 : decode cX10_write 78 = .ok (.goto (-39), 3) := by decide +kernel
theorem dX10_write_81 : decode cX10_write 81 = .ok (.aload_n 0, 1) := by decide +kernel
theorem dX10_write_82 : decode cX10_write 82 = .ok (.getfield 105, 3) := by decide +kernel
theorem dX10_write_85 : decode cX10_write 85 = .ok (.ireturn, 1) := by decide +kernel
theorem dX10_wipe_0 : decode cX10_wipe 0 = .ok (.aload_n 0, 1) := by decide +kernel
theorem dX10_wipe_1 : decode cX10_wipe 1 = .ok (.iconst 0, 1) := by decide +kernel
theorem dX10_wipe_2 : decode cX10_wipe 2 = .ok (.putfield 92, 3) := by decide +kernel
theorem dX10_wipe_5 : decode cX10_wipe 5 = .ok (.aload_n 0, 1) := by decide +kernel
theorem dX10_wipe_6 : decode cX10_wipe 6 = .ok (.getfield 105, 3) := by decide +kernel
theorem dX10_wipe_9 : decode cX10_wipe 9 = .ok (.istore_n 1, 1) := by decide +kernel
theorem dX10_wipe_10 : decode cX10_wipe 10 = .ok (.aload_n 0, 1) := by decide +kernel
theorem dX10_wipe_11 : decode cX10_wipe 11 = .ok (.iconst 0, 1) := by decide +kernel
theorem dX10_wipe_12 : decode cX10_wipe 12 = .ok (.putfield 105, 3) := by decide +kernel
theorem dX10_wipe_15 : decode cX10_wipe 15 = .ok (.iload_n 1, 1) := by decide +kernel
theorem dX10_wipe_16 : decode cX10_wipe 16 = .ok (.ireturn, 1) := by decide +kernel
set_option maxRecDepth 20000 in
theorem ggX10_figure_X10_in : GoodIn wsX10_figure wsX10_in := goodIn_r _ [7] (by decide +kernel) (by decide +kernel)
set_option maxRecDepth 20000 in
theorem gX10_figure_X10_in : GoodIn wsX10_figure (va_wsS RX10 99 yX10_in wsX10_in) := goodIn_app (goodIn_of _ (by decide +kernel)) ggX10_figure_X10_in
theorem dX10_figure_0 : decode cX10_figure 0 = .ok (.aload_n 0, 1) := by decide +kernel
theorem dX10_figure_1 : decode cX10_figure 1 = .ok (.getfield 108, 3) := by decide +kernel
theorem dX10_figure_4 : decode cX10_figure 4 = .ok (.aload_n 0, 1) := by decide +kernel
theorem dX10_figure_5 : decode cX10_figure 5 = .ok (.getfield 105, 3) := by decide +kernel
theorem dX10_figure_8 : decode cX10_figure 8 = .ok (.if_icmp .eq 26, 3) := by decide +kernel
theorem dX10_figure_11 : decode cX10_figure 11 = .ok (.aload_n 0, 1) := by decide +kernel
theorem dX10_figure_12 : decode cX10_figure 12 = .ok (.getfield 7, 3) := by decide +kernel
theorem dX10_figure_15 : decode cX10_figure 15 = .ok (.aload_n 0, 1) := by decide +kernel
theorem dX10_figure_16 : decode cX10_figure 16 = .ok (.getfield 108, 3) := by decide +kernel
theorem dX10_figure_19 : decode cX10_figure 19 = .ok (.iaload, 1) := by decide +kernel
theorem dX10_figure_20 : decode cX10_figure 20 = .ok (.bipush 48, 2) := by decide +kernel
theorem dX10_figure_22 : decode cX10_figure 22 = .ok (.isub, 1) := by decide +kernel
theorem dX10_figure_23 : decode cX10_figure 23 = .ok (.i2l, 1) := by decide +kernel
theorem dX10_figure_24 : decode cX10_figure 24 = .ok (.iload_n 1, 1) := by decide +kernel
theorem dX10_figure_25 : decode cX10_figure 25 = .ok (.i2l, 1) := by decide +kernel
theorem dX10_figure_26 : decode cX10_figure 26 = .ok (.iload_n 2, 1) := by decide +kernel
theorem dX10_figure_27 : decode cX10_figure 27 = .ok (.i2l, 1) := by decide +kernel
theorem dX10_figure_28 : decode cX10_figure 28 = .ok (.invokestatic 99, 3) := by decide +kernel
theorem dX10_figure_31 : decode cX10_figure 31 = .ok (.ifCond .ne 6, 3) := by decide +kernel
theorem dX10_figure_34 : decode cX10_figure 34 = .ok (.bipush (-9), 2) := by decide +kernel
theorem dX10_figure_36 : decode cX10_figure 36 = .ok (.ireturn, 1) := by decide +kernel
theorem dX10_figure_37 : decode cX10_figure 37 = .ok (.aload_n 0, 1) := by decide +kernel
theorem dX10_figure_38 : decode cX10_figure 38 = .ok (.dup, 1) := by decide +kernel
theorem dX10_figure_39 : decode cX10_figure 39 = .ok (.getfield 108, 3) := by decide +kernel
theorem dX10_figure_42 : decode cX10_figure 42 = .ok (.iconst 1, 1) := by decide +kernel
theorem dX10_figure_43 : decode cX10_figure 43 = .ok (.iadd, 1) := by decide +kernel
theorem dX10_figure_44 : decode cX10_figure 44 = .ok (.putfield 108, 3) := by decide +kernel
theorem dX10_figure_47 : decode cX10_figure 47 = .ok (.aload_n 0, 1) := by decide +kernel
theorem dX10_figure_48 : decode cX10_figure 48 = .ok (.getfield 7, 3) := by decide +kernel
theorem dX10_figure_51 : decode cX10_figure 51 = .ok (.aload_n 0, 1) := by decide +kernel
theorem dX10_figure_52 : decode cX10_figure 52 = .ok (.getfield 108, 3) := by decide +kernel
theorem dX10_figure_55 : decode cX10_figure 55 = .ok (.iconst 1, 1) := by decide +kernel
theorem dX10_figure_56 : decode cX10_figure 56 = .ok (.isub, 1) := by decide +kernel
theorem dX10_figure_57 : decode cX10_figure 57 = .ok (.iaload, 1) := by decide +kernel
theorem dX10_figure_58 : decode cX10_figure 58 = .ok (.bipush 48, 2) := by decide +kernel
theorem dX10_figure_60 : decode cX10_figure 60 = .ok (.isub, 1) := by decide +kernel
theorem dX10_figure_61 : decode cX10_figure 61 = .ok (.ireturn, 1) := by decide +kernel
set_option maxRecDepth 20000 in
theorem ggX10_readPerson_X10_figure : GoodIn wsX10_readPerson wsX10_figure := goodIn_r _ [8, 9, 10, 11, 12, 13, 7, 14, 15, 16, 17, 18, 19, 20, 21, 22, 23, 24, 25, 26, 27, 28, 29, 30, 31, 32, 33, 34, 35, 36, 37, 38, 39, 40, 41, 42, 43, 44, 45, 46, 47, 48, 49, 50, 51, 52] (by decide +kernel) (by decide +kernel)
set_option maxRecDepth 20000 in
theorem gX10_readPerson_X10_figure : GoodIn wsX10_readPerson (wsV RX10 111 RX10 yX10_figure wsX10_figure) := goodIn_app (goodIn_of _ (by decide +kernel)) ggX10_readPerson_X10_figure
theorem dX10_readPerson_0 : decode cX10_readPerson 0 = .ok (.aload_n 0, 1) := by decide +kernel
theorem dX10_readPerson_1 : decode cX10_readPerson 1 = .ok (.iconst 0, 1) := by decide +kernel
theorem dX10_readPerson_2 : decode cX10_readPerson 2 = .ok (.bipush 9, 2) := by decide +kernel
theorem dX10_readPerson_4 : decode cX10_readPerson 4 = .ok (.invokevirtual 111, 3) := by decide +kernel
theorem dX10_readPerson_7 : decode cX10_readPerson 7 = .ok (.istore_n 1, 1) := by decide +kernel
theorem dX10_readPerson_8 : decode cX10_readPerson 8 = .ok (.iload_n 1, 1) := by decide +kernel
theorem dX10_readPerson_9 : decode cX10_readPerson 9 = .ok (.bipush (-9), 2) := by decide +kernel
theorem dX10_readPerson_11 : decode cX10_readPerson 11 = .ok (.if_icmp .ne 8, 3) := by decide +kernel
theorem dX10_readPerson_14 : decode cX10_readPerson 14 = .ok (.bipush (-9), 2) := by decide +kernel
theorem dX10_readPerson_16 : decode cX10_readPerson 16 = .ok (.goto 10, 3) := by decide +kernel
theorem dX10_readPerson_19 : decode cX10_readPerson 19 = .ok (.aload_n 0, 1) := by decide +kernel
theorem dX10_readPerson_20 : decode cX10_readPerson 20 = .ok (.iconst 0, 1) := by decide +kernel
theorem dX10_readPerson_21 : decode cX10_readPerson 21 = .ok (.bipush 9, 2) := by decide +kernel
theorem dX10_readPerson_23 : decode cX10_readPerson 23 = .ok (.invokevirtual 111, 3) := by decide +kernel
theorem dX10_readPerson_26 : decode cX10_readPerson 26 = .ok (.istore_n 2, 1) := by decide +kernel
theorem dX10_readPerson_27 : decode cX10_readPerson 27 = .ok (.iload_n 2, 1) := by decide +kernel
theorem dX10_readPerson_28 : decode cX10_readPerson 28 = .ok (.bipush (-9), 2) := by decide +kernel
theorem dX10_readPerson_30 : decode cX10_readPerson 30 = .ok (.if_icmp .ne 8, 3) := by decide +kernel
theorem dX10_readPerson_33 : decode cX10_readPerson 33 = .ok (.bipush (-9), 2) := by decide +kernel
theorem dX10_readPerson_35 : decode cX10_readPerson 35 = .ok (.goto 10, 3) := by decide +kernel
theorem dX10_readPerson_38 : decode cX10_readPerson 38 = .ok (.aload_n 0, 1) := by decide +kernel
theorem dX10_readPerson_39 : decode cX10_readPerson 39 = .ok (.iconst 0, 1) := by decide +kernel
theorem dX10_readPerson_40 : decode cX10_readPerson 40 = .ok (.bipush 9, 2) := by decide +kernel
theorem dX10_readPerson_42 : decode cX10_readPerson 42 = .ok (.invokevirtual 111, 3) := by decide +kernel
theorem dX10_readPerson_45 : decode cX10_readPerson 45 = .ok (.istore_n 3, 1) := by decide +kernel
theorem dX10_readPerson_46 : decode cX10_readPerson 46 = .ok (.iload_n 3, 1) := by decide +kernel
theorem dX10_readPerson_47 : decode cX10_readPerson 47 = .ok (.bipush (-9), 2) := by decide +kernel
theorem dX10_readPerson_49 : decode cX10_readPerson 49 = .ok (.if_icmp .ne 5, 3) := by decide +kernel
theorem dX10_readPerson_52 : decode cX10_readPerson 52 = .ok (.iconst 0, 1) := by decide +kernel
theorem dX10_readPerson_53 : decode cX10_readPerson 53 = .ok (.ireturn, 1) := by decide +kernel
theorem dX10_readPerson_54 : decode cX10_readPerson 54 = .ok (.aload_n 0, 1) := by decide +kernel
theorem dX10_readPerson_55 : decode cX10_readPerson 55 = .ok (.getfield 38, 3) := by decide +kernel
theorem dX10_readPerson_58 : decode cX10_readPerson 58 = .ok (.aload_n 0, 1) := by decide +kernel
theorem dX10_readPerson_59 : decode cX10_readPerson 59 = .ok (.getfield 115, 3) := by decide +kernel
theorem dX10_readPerson_62 : decode cX10_readPerson 62 = .ok (.bipush 10, 2) := by decide +kernel
theorem dX10_readPerson_64 : decode cX10_readPerson 64 = .ok (.iload_n 1, 1) := by decide +kernel
theorem dX10_readPerson_65 : decode cX10_readPerson 65 = .ok (.imul, 1) := by decide +kernel
theorem dX10_readPerson_66 : decode cX10_readPerson 66 = .ok (.iload_n 2, 1) := by decide +kernel
theorem dX10_readPerson_67 : decode cX10_readPerson 67 = .ok (.iadd, 1) := by decide +kernel
theorem dX10_readPerson_68 : decode cX10_readPerson 68 = .ok (.iastore, 1) := by decide +kernel
theorem dX10_readPerson_69 : decode cX10_readPerson 69 = .ok (.aload_n 0, 1) := by decide +kernel
theorem dX10_readPerson_70 : decode cX10_readPerson 70 = .ok (.getfield 41, 3) := by decide +kernel
theorem dX10_readPerson_73 : decode cX10_readPerson 73 = .ok (.aload_n 0, 1) := by decide +kernel
theorem dX10_readPerson_74 : decode cX10_readPerson 74 = .ok (.getfield 115, 3) := by decide +kernel
theorem dX10_readPerson_77 : decode cX10_readPerson 77 = .ok (.iload_n 3, 1) := by decide +kernel
theorem dX10_readPerson_78 : decode cX10_readPerson 78 = .ok (.iastore, 1) := by decide +kernel
theorem dX10_readPerson_79 : decode cX10_readPerson 79 = .ok (.aload_n 0, 1) := by decide +kernel
theorem dX10_readPerson_80 : decode cX10_readPerson 80 = .ok (.dup, 1) := by decide +kernel
theorem dX10_readPerson_81 : decode cX10_readPerson 81 = .ok (.getfield 115, 3) := by decide +kernel
theorem dX10_readPerson_84 : decode cX10_readPerson 84 = .ok (.iconst 1, 1) := by decide +kernel
theorem dX10_readPerson_85 : decode cX10_readPerson 85 = .ok (.iadd, 1) := by decide +kernel
theorem dX10_readPerson_86 : decode cX10_readPerson 86 = .ok (.putfield 115, 3) := by decide +kernel
theorem dX10_readPerson_89 : decode cX10_readPerson 89 = .ok (.iconst 1, 1) := by decide +kernel
theorem dX10_readPerson_90 : decode cX10_readPerson 90 = .ok (.ireturn, 1) := by decide +kernel
set_option maxRecDepth 20000 in
theorem ggX10_readDebt_X10_figure : GoodIn wsX10_readDebt wsX10_figure := goodIn_r _ [14, 2, 3, 4, 15, 16, 13, 17, 18, 19, 20, 21, 22, 23, 24, 25, 26, 27, 28, 29, 30, 31, 32, 33, 34, 35, 36, 37, 38, 39, 40, 41, 42, 43, 44, 45, 46, 47, 48, 49, 50, 51, 52, 53, 54, 55] (by decide +kernel) (by decide +kernel)
set_option maxRecDepth 20000 in
theorem gX10_readDebt_X10_figure : GoodIn wsX10_readDebt (wsV RX10 111 RX10 yX10_figure wsX10_figure) := goodIn_app (goodIn_of _ (by decide +kernel)) ggX10_readDebt_X10_figure
theorem dX10_readDebt_0 : decode cX10_readDebt 0 = .ok (.aload_n 0, 1) := by decide +kernel
theorem dX10_readDebt_1 : decode cX10_readDebt 1 = .ok (.iconst 0, 1) := by decide +kernel
theorem dX10_readDebt_2 : decode cX10_readDebt 2 = .ok (.aload_n 0, 1) := by decide +kernel
theorem dX10_readDebt_3 : decode cX10_readDebt 3 = .ok (.getfield 115, 3) := by decide +kernel
theorem dX10_readDebt_6 : decode cX10_readDebt 6 = .ok (.iconst 1, 1) := by decide +kernel
theorem dX10_readDebt_7 : decode cX10_readDebt 7 = .ok (.isub, 1) := by decide +kernel
theorem dX10_readDebt_8 : decode cX10_readDebt 8 = .ok (.invokevirtual 111, 3) := by decide +kernel
theorem dX10_readDebt_11 : decode cX10_readDebt 11 = .ok (.istore_n 1, 1) := by decide +kernel
theorem dX10_readDebt_12 : decode cX10_readDebt 12 = .ok (.iload_n 1, 1) := by decide +kernel
theorem dX10_readDebt_13 : decode cX10_readDebt 13 = .ok (.bipush (-9), 2) := by decide +kernel
theorem dX10_readDebt_15 : decode cX10_readDebt 15 = .ok (.if_icmp .eq 30, 3) := by decide +kernel
theorem dX10_readDebt_18 : decode cX10_readDebt 18 = .ok (.aload_n 0, 1) := by decide +kernel
theorem dX10_readDebt_19 : decode cX10_readDebt 19 = .ok (.getfield 108, 3) := by decide +kernel
theorem dX10_readDebt_22 : decode cX10_readDebt 22 = .ok (.aload_n 0, 1) := by decide +kernel
theorem dX10_readDebt_23 : decode cX10_readDebt 23 = .ok (.getfield 105, 3) := by decide +kernel
theorem dX10_readDebt_26 : decode cX10_readDebt 26 = .ok (.if_icmp .ge 24, 3) := by decide +kernel
theorem dX10_readDebt_29 : decode cX10_readDebt 29 = .ok (.aload_n 0, 1) := by decide +kernel
theorem dX10_readDebt_30 : decode cX10_readDebt 30 = .ok (.getfield 7, 3) := by decide +kernel
theorem dX10_readDebt_33 : decode cX10_readDebt 33 = .ok (.aload_n 0, 1) := by decide +kernel
theorem dX10_readDebt_34 : decode cX10_readDebt 34 = .ok (.getfield 108, 3) := by decide +kernel
theorem dX10_readDebt_37 : decode cX10_readDebt 37 = .ok (.iaload, 1) := by decide +kernel
theorem dX10_readDebt_38 : decode cX10_readDebt 38 = .ok (.bipush 48, 2) := by decide +kernel
theorem dX10_readDebt_40 : decode cX10_readDebt 40 = .ok (.isub, 1) := by decide +kernel
theorem dX10_readDebt_41 : decode cX10_readDebt 41 = .ok (.iload_n 1, 1) := by decide +kernel
theorem dX10_readDebt_42 : decode cX10_readDebt 42 = .ok (.if_icmp .ne 8, 3) := by decide +kernel
theorem dX10_readDebt_45 : decode cX10_readDebt 45 = .ok (.bipush (-9), 2) := by decide +kernel
theorem dX10_readDebt_47 : decode cX10_readDebt 47 = .ok (.goto 14, 3) := by decide +kernel
theorem dX10_readDebt_50 : decode cX10_readDebt 50 = .ok (.aload_n 0, 1) := by decide +kernel
theorem dX10_readDebt_51 : decode cX10_readDebt 51 = .ok (.iconst 0, 1) := by decide +kernel
theorem dX10_readDebt_52 : decode cX10_readDebt 52 = .ok (.aload_n 0, 1) := by decide +kernel
theorem dX10_readDebt_53 : decode cX10_readDebt 53 = .ok (.getfield 115, 3) := by decide +kernel
theorem dX10_readDebt_56 : decode cX10_readDebt 56 = .ok (.iconst 1, 1) := by decide +kernel
theorem dX10_readDebt_57 : decode cX10_readDebt 57 = .ok (.isub, 1) := by decide +kernel
theorem dX10_readDebt_58 : decode cX10_readDebt 58 = .ok (.invokevirtual 111, 3) := by decide +kernel
theorem dX10_readDebt_61 : decode cX10_readDebt 61 = .ok (.istore_n 2, 1) := by decide +kernel
theorem dX10_readDebt_62 : decode cX10_readDebt 62 = .ok (.iload_n 2, 1) := by decide +kernel
theorem dX10_readDebt_63 : decode cX10_readDebt 63 = .ok (.bipush (-9), 2) := by decide +kernel
theorem dX10_readDebt_65 : decode cX10_readDebt 65 = .ok (.if_icmp .ne 8, 3) := by decide +kernel
theorem dX10_readDebt_68 : decode cX10_readDebt 68 = .ok (.bipush (-9), 2) := by decide +kernel
theorem dX10_readDebt_70 : decode cX10_readDebt 70 = .ok (.goto 10, 3) := by decide +kernel
theorem dX10_readDebt_73 : decode cX10_readDebt 73 = .ok (.aload_n 0, 1) := by decide +kernel
theorem dX10_readDebt_74 : decode cX10_readDebt 74 = .ok (.iconst 0, 1) := by decide +kernel
theorem dX10_readDebt_75 : decode cX10_readDebt 75 = .ok (.bipush 9, 2) := by decide +kernel
theorem dX10_readDebt_77 : decode cX10_readDebt 77 = .ok (.invokevirtual 111, 3) := by decide +kernel
theorem dX10_readDebt_80 : decode cX10_readDebt 80 = .ok (.istore_n 3, 1) := by decide +kernel
theorem dX10_readDebt_81 : decode cX10_readDebt 81 = .ok (.iload_n 3, 1) := by decide +kernel
theorem dX10_readDebt_82 : decode cX10_readDebt 82 = .ok (.bipush (-9), 2) := by decide +kernel
theorem dX10_readDebt_84 : decode cX10_readDebt 84 = .ok (.if_icmp .ne 8, 3) := by decide +kernel
theorem dX10_readDebt_87 : decode cX10_readDebt 87 = .ok (.bipush (-9), 2) := by decide +kernel
theorem dX10_readDebt_89 : decode cX10_readDebt 89 = .ok (.goto 18, 3) := by decide +kernel
theorem dX10_readDebt_92 : decode cX10_readDebt 92 = .ok (.aload_n 0, 1) := by decide +kernel
theorem dX10_readDebt_93 : decode cX10_readDebt 93 = .ok (.iload_n 3, 1) := by decide +kernel
theorem dX10_readDebt_94 : decode cX10_readDebt 94 = .ok (.ifCond .ne 7, 3) := by decide +kernel
theorem dX10_readDebt_97 : decode cX10_readDebt 97 = .ok (.iconst 1, 1) := by decide +kernel
theorem dX10_readDebt_98 : decode cX10_readDebt 98 = .ok (.goto 4, 3) := by decide +kernel
theorem dX10_readDebt_101 : decode cX10_readDebt 101 = .ok (.iconst 0, 1) := by decide +kernel
theorem dX10_readDebt_102 : decode cX10_readDebt 102 = .ok (.bipush 9, 2) := by decide +kernel
theorem dX10_readDebt_104 : decode cX10_readDebt 104 = .ok (.invokevirtual 111, 3) := by decide +kernel
theorem dX10_readDebt_107 : decode cX10_readDebt 107 = .ok (.istore 4, 2) := by decide +kernel
theorem dX10_readDebt_109 : decode cX10_readDebt 109 = .ok (.iload 4, 2) := by decide +kernel
theorem dX10_readDebt_111 : decode cX10_readDebt 111 = .ok (.bipush (-9), 2) := by decide +kernel
theorem dX10_readDebt_113 : decode cX10_readDebt 113 = .ok (.if_icmp .ne 8, 3) := by decide +kernel
theorem dX10_readDebt_116 : decode cX10_readDebt 116 = .ok (.bipush (-9), 2) := by decide +kernel
theorem dX10_readDebt_118 : decode cX10_readDebt 118 = .ok (.goto 10, 3) := by decide +kernel
theorem dX10_readDebt_121 : decode cX10_readDebt 121 = .ok (.aload_n 0, 1) := by decide +kernel
theorem dX10_readDebt_122 : decode cX10_readDebt 122 = .ok (.iconst 1, 1) := by decide +kernel
theorem dX10_readDebt_123 : decode cX10_readDebt 123 = .ok (.bipush 9, 2) := by decide +kernel
theorem dX10_readDebt_125 : decode cX10_readDebt 125 = .ok (.invokevirtual 111, 3) := by decide +kernel
theorem dX10_readDebt_128 : decode cX10_readDebt 128 = .ok (.istore 5, 2) := by decide +kernel
theorem dX10_readDebt_130 : decode cX10_readDebt 130 = .ok (.iload 5, 2) := by decide +kernel
theorem dX10_readDebt_132 : decode cX10_readDebt 132 = .ok (.bipush (-9), 2) := by decide +kernel
theorem dX10_readDebt_134 : decode cX10_readDebt 134 = .ok (.if_icmp .ne 5, 3) := by decide +kernel
theorem dX10_readDebt_137 : decode cX10_readDebt 137 = .ok (.iconst 0, 1) := by decide +kernel
theorem dX10_readDebt_138 : decode cX10_readDebt 138 = .ok (.ireturn, 1) := by decide +kernel
theorem dX10_readDebt_139 : decode cX10_readDebt 139 = .ok (.aload_n 0, 1) := by decide +kernel
theorem dX10_readDebt_140 : decode cX10_readDebt 140 = .ok (.getfield 44, 3) := by decide +kernel
theorem dX10_readDebt_143 : decode cX10_readDebt 143 = .ok (.aload_n 0, 1) := by decide +kernel
theorem dX10_readDebt_144 : decode cX10_readDebt 144 = .ok (.getfield 118, 3) := by decide +kernel
theorem dX10_readDebt_147 : decode cX10_readDebt 147 = .ok (.iload_n 1, 1) := by decide +kernel
theorem dX10_readDebt_148 : decode cX10_readDebt 148 = .ok (.iastore, 1) := by decide +kernel
theorem dX10_readDebt_149 : decode cX10_readDebt 149 = .ok (.aload_n 0, 1) := by decide +kernel
theorem dX10_readDebt_150 : decode cX10_readDebt 150 = .ok (.getfield 47, 3) := by decide +kernel
theorem dX10_readDebt_153 : decode cX10_readDebt 153 = .ok (.aload_n 0, 1) := by decide +kernel
theorem dX10_readDebt_154 : decode cX10_readDebt 154 = .ok (.getfield 118, 3) := by decide +kernel
theorem dX10_readDebt_157 : decode cX10_readDebt 157 = .ok (.iload_n 2, 1) := by decide +kernel
theorem dX10_readDebt_158 : decode cX10_readDebt 158 = .ok (.iastore, 1) := by decide +kernel
theorem dX10_readDebt_159 : decode cX10_readDebt 159 = .ok (.aload_n 0, 1) := by decide +kernel
theorem dX10_readDebt_160 : decode cX10_readDebt 160 = .ok (.getfield 50, 3) := by decide +kernel
theorem dX10_readDebt_163 : decode cX10_readDebt 163 = .ok (.aload_n 0, 1) := by decide +kernel
theorem dX10_readDebt_164 : decode cX10_readDebt 164 = .ok (.getfield 118, 3) := by decide +kernel
theorem dX10_readDebt_167 : decode cX10_readDebt 167 = .ok (.bipush 10, 2) := by decide +kernel
theorem dX10_readDebt_169 : decode cX10_readDebt 169 = .ok (.iload_n 3, 1) := by decide +kernel
theorem dX10_readDebt_170 : decode cX10_readDebt 170 = .ok (.imul, 1) := by decide +kernel
theorem dX10_readDebt_171 : decode cX10_readDebt 171 = .ok (.iload 4, 2) := by decide +kernel
theorem dX10_readDebt_173 : decode cX10_readDebt 173 = .ok (.iadd, 1) := by decide +kernel
theorem dX10_readDebt_174 : decode cX10_readDebt 174 = .ok (.iastore, 1) := by decide +kernel
theorem dX10_readDebt_175 : decode cX10_readDebt 175 = .ok (.aload_n 0, 1) := by decide +kernel
theorem dX10_readDebt_176 : decode cX10_readDebt 176 = .ok (.getfield 53, 3) := by decide +kernel
theorem dX10_readDebt_179 : decode cX10_readDebt 179 = .ok (.aload_n 0, 1) := by decide +kernel
theorem dX10_readDebt_180 : decode cX10_readDebt 180 = .ok (.getfield 118, 3) := by decide +kernel
theorem dX10_readDebt_183 : decode cX10_readDebt 183 = .ok (.iload 5, 2) := by decide +kernel
theorem dX10_readDebt_185 : decode cX10_readDebt 185 = .ok (.iastore, 1) := by decide +kernel
theorem dX10_readDebt_186 : decode cX10_readDebt 186 = .ok (.aload_n 0, 1) := by decide +kernel
theorem dX10_readDebt_187 : decode cX10_readDebt 187 = .ok (.dup, 1) := by decide +kernel
theorem dX10_readDebt_188 : decode cX10_readDebt 188 = .ok (.getfield 118, 3) := by decide +kernel
theorem dX10_readDebt_191 : decode cX10_readDebt 191 = .ok (.iconst 1, 1) := by decide +kernel
theorem dX10_readDebt_192 : decode cX10_readDebt 192 = .ok (.iadd, 1) := by decide +kernel
theorem dX10_readDebt_193 : decode cX10_readDebt 193 = .ok (.putfield 118, 3) := by decide +kernel
theorem dX10_readDebt_196 : decode cX10_readDebt 196 = .ok (.iconst 1, 1) := by decide +kernel
theorem dX10_readDebt_197 : decode cX10_readDebt 197 = .ok (.ireturn, 1) := by decide +kernel
set_option maxRecDepth 20000 in
theorem ggX10_readPart_X10_readPerson : GoodIn wsX10_readPart wsX10_readPerson := goodIn_r _ [9, 10, 3, 11, 12, 13, 14, 8, 15, 2, 16, 1, 17, 18, 19, 28, 29, 30, 31, 32, 33, 34, 35, 36, 37, 38, 39, 40, 41, 42, 43, 44, 45, 46, 47, 48, 49, 50, 51, 52, 53, 54, 55, 56, 57, 58, 59, 60, 61, 62, 63, 64, 65] (by decide +kernel) (by decide +kernel)
set_option maxRecDepth 20000 in
theorem gX10_readPart_X10_readPerson : GoodIn wsX10_readPart (wsV RX10 121 RX10 yX10_readPerson wsX10_readPerson) := goodIn_app (goodIn_of _ (by decide +kernel)) ggX10_readPart_X10_readPerson
set_option maxRecDepth 20000 in
theorem ggX10_readPart_X10_readDebt : GoodIn wsX10_readPart wsX10_readDebt := goodIn_r _ [23, 3, 2, 16, 1, 24, 4, 25, 26, 27, 12, 13, 14, 8, 15, 17, 18, 19, 28, 29, 30, 31, 32, 33, 34, 35, 36, 37, 38, 39, 40, 41, 42, 43, 44, 45, 46, 47, 48, 49, 50, 51, 52, 53, 54, 55, 56, 57, 58, 59, 60, 61, 62, 63, 64, 65] (by decide +kernel) (by decide +kernel)
set_option maxRecDepth 20000 in
theorem gX10_readPart_X10_readDebt : GoodIn wsX10_readPart (wsV RX10 125 RX10 yX10_readDebt wsX10_readDebt) := goodIn_app (goodIn_of _ (by decide +kernel)) ggX10_readPart_X10_readDebt
theorem dX10_readPart_0 : decode cX10_readPart 0 = .ok (.aload_n 0, 1) := by decide +kernel
theorem dX10_readPart_1 : decode cX10_readPart 1 = .ok (.getfield 7, 3) := by decide +kernel
theorem dX10_readPart_4 : decode cX10_readPart 4 = .ok (.aload_n 0, 1) := by decide +kernel
theorem dX10_readPart_5 : decode cX10_readPart 5 = .ok (.getfield 108, 3) := by decide +kernel
theorem dX10_readPart_8 : decode cX10_readPart 8 = .ok (.iaload, 1) := by decide +kernel
theorem dX10_readPart_9 : decode cX10_readPart 9 = .ok (.istore_n 1, 1) := by decide +kernel
theorem dX10_readPart_10 : decode cX10_readPart 10 = .ok (.iload_n 1, 1) := by decide +kernel
theorem dX10_readPart_11 : decode cX10_readPart 11 = .ok (.bipush 80, 2) := by decide +kernel
theorem dX10_readPart_13 : decode cX10_readPart 13 = .ok (.if_icmp .ne 27, 3) := by decide +kernel
theorem dX10_readPart_16 : decode cX10_readPart 16 = .ok (.aload_n 0, 1) := by decide +kernel
theorem dX10_readPart_17 : decode cX10_readPart 17 = .ok (.getfield 115, 3) := by decide +kernel
theorem dX10_readPart_20 : decode cX10_readPart 20 = .ok (.bipush 6, 2) := by decide +kernel
theorem dX10_readPart_22 : decode cX10_readPart 22 = .ok (.if_icmp .ge 18, 3) := by decide +kernel
theorem dX10_readPart_25 : decode cX10_readPart 25 = .ok (.aload_n 0, 1) := by decide +kernel
theorem dX10_readPart_26 : decode cX10_readPart 26 = .ok (.dup, 1) := by decide +kernel
theorem dX10_readPart_27 : decode cX10_readPart 27 = .ok (.getfield 108, 3) := by decide +kernel
theorem dX10_readPart_30 : decode cX10_readPart 30 = .ok (.iconst 1, 1) := by decide +kernel
theorem dX10_readPart_31 : decode cX10_readPart 31 = .ok (.iadd, 1) := by decide +kernel
theorem dX10_readPart_32 : decode cX10_readPart 32 = .ok (.putfield 108, 3) := by decide +kernel
theorem dX10_readPart_35 : decode cX10_readPart 35 = .ok (.aload_n 0, 1) := by decide +kernel
theorem dX10_readPart_36 : decode cX10_readPart 36 = .ok (.invokevirtual 121, 3) := by decide +kernel
theorem dX10_readPart_39 : decode cX10_readPart 39 = .ok (.ireturn, 1) := by decide +kernel
theorem dX10_readPart_40 : decode cX10_readPart 40 = .ok (.iload_n 1, 1) := by decide +kernel
theorem dX10_readPart_41 : decode cX10_readPart 41 = .ok (.bipush 68, 2) := by decide +kernel
theorem dX10_readPart_43 : decode cX10_readPart 43 = .ok (.if_icmp .ne 35, 3) := by decide +kernel
theorem dX10_readPart_46 : decode cX10_readPart 46 = .ok (.aload_n 0, 1) := by decide +kernel
theorem dX10_readPart_47 : decode cX10_readPart 47 = .ok (.getfield 118, 3) := by decide +kernel
theorem dX10_readPart_50 : decode cX10_readPart 50 = .ok (.bipush 8, 2) := by decide +kernel
theorem dX10_readPart_52 : decode cX10_readPart 52 = .ok (.if_icmp .ge 26, 3) := by decide +kernel
theorem dX10_readPart_55 : decode cX10_readPart 55 = .ok (.aload_n 0, 1) := by decide +kernel
theorem dX10_readPart_56 : decode cX10_readPart 56 = .ok (.getfield 115, 3) := by decide +kernel
theorem dX10_readPart_59 : decode cX10_readPart 59 = .ok (.iconst 1, 1) := by decide +kernel
theorem dX10_readPart_60 : decode cX10_readPart 60 = .ok (.if_icmp .le 18, 3) := by decide +kernel
theorem dX10_readPart_63 : decode cX10_readPart 63 = .ok (.aload_n 0, 1) := by decide +kernel
theorem dX10_readPart_64 : decode cX10_readPart 64 = .ok (.dup, 1) := by decide +kernel
theorem dX10_readPart_65 : decode cX10_readPart 65 = .ok (.getfield 108, 3) := by decide +kernel
theorem dX10_readPart_68 : decode cX10_readPart 68 = .ok (.iconst 1, 1) := by decide +kernel
theorem dX10_readPart_69 : decode cX10_readPart 69 = .ok (.iadd, 1) := by decide +kernel
theorem dX10_readPart_70 : decode cX10_readPart 70 = .ok (.putfield 108, 3) := by decide +kernel
theorem dX10_readPart_73 : decode cX10_readPart 73 = .ok (.aload_n 0, 1) := by decide +kernel
theorem dX10_readPart_74 : decode cX10_readPart 74 = .ok (.invokevirtual 125, 3) := by decide +kernel
theorem dX10_readPart_77 : decode cX10_readPart 77 = .ok (.ireturn, 1) := by decide +kernel
theorem dX10_readPart_78 : decode cX10_readPart 78 = .ok (.iconst 0, 1) := by decide +kernel
theorem dX10_readPart_79 : decode cX10_readPart 79 = .ok (.ireturn, 1) := by decide +kernel
set_option maxRecDepth 20000 in
theorem ggX10_readBook_X10_readPart : GoodIn wsX10_readBook wsX10_readPart := goodIn_r _ [9, 10, 1, 2, 3, 11, 12, 13, 8, 14, 15, 16, 17, 18, 19, 20, 4, 21, 22, 23, 24, 25, 26, 27, 28, 29, 30, 31, 32, 33, 34, 35, 36, 37, 38, 39, 40, 41, 42, 43, 44, 45, 46, 47, 48, 49, 50, 51, 52, 53, 54, 55, 56, 57, 58, 59, 60, 61, 62, 63, 64, 65, 66, 67, 68, 69] (by decide +kernel) (by decide +kernel)
set_option maxRecDepth 20000 in
theorem gX10_readBook_X10_readPart : GoodIn wsX10_readBook (wsV RX10 128 RX10 yX10_readPart wsX10_readPart) := goodIn_app (goodIn_of _ (by decide +kernel)) ggX10_readBook_X10_readPart
theorem dX10_readBook_0 : decode cX10_readBook 0 = .ok (.aload_n 0, 1) := by decide +kernel
theorem dX10_readBook_1 : decode cX10_readBook 1 = .ok (.iconst 0, 1) := by decide +kernel
theorem dX10_readBook_2 : decode cX10_readBook 2 = .ok (.putfield 108, 3) := by decide +kernel
theorem dX10_readBook_5 : decode cX10_readBook 5 = .ok (.aload_n 0, 1) := by decide +kernel
theorem dX10_readBook_6 : decode cX10_readBook 6 = .ok (.iconst 0, 1) := by decide +kernel
theorem dX10_readBook_7 : decode cX10_readBook 7 = .ok (.putfield 115, 3) := by decide +kernel
theorem dX10_readBook_10 : decode cX10_readBook 10 = .ok (.aload_n 0, 1) := by decide +kernel
theorem dX10_readBook_11 : decode cX10_readBook 11 = .ok (.iconst 0, 1) := by decide +kernel
theorem dX10_readBook_12 : decode cX10_readBook 12 = .ok (.putfield 118, 3) := by decide +kernel
theorem dX10_readBook_15 : decode cX10_readBook 15 = .ok (.aload_n 0, 1) := by decide +kernel
theorem dX10_readBook_16 : decode cX10_readBook 16 = .ok (.getfield 108, 3) := by decide +kernel
theorem dX10_readBook_19 : decode cX10_readBook 19 = .ok (.aload_n 0, 1) := by decide +kernel
theorem dX10_readBook_20 : decode cX10_readBook 20 = .ok (.getfield 105, 3) := by decide +kernel
theorem dX10_readBook_23 : decode cX10_readBook 23 = .ok (.if_icmp .ge 15, 3) := by decide +kernel
theorem dX10_readBook_26 : decode cX10_readBook 26 = .ok (.aload_n 0, 1) := by decide +kernel
theorem dX10_readBook_27 : decode cX10_readBook 27 = .ok (.invokevirtual 128, 3) := by decide +kernel
theorem dX10_readBook_30 : decode cX10_readBook 30 = .ok (.ifCond .ne (-15), 3) := by decide +kernel
theorem dX10_readBook_33 : decode cX10_readBook 33 = .ok (.aload_n 0, 1) := by decide +kernel
theorem dX10_readBook_34 : decode cX10_readBook 34 = .ok (.getfield 108, 3) := by decide +kernel
theorem dX10_readBook_37 : decode cX10_readBook 37 = .ok (.ireturn, 1) := by decide +kernel
theorem dX10_readBook_38 : decode cX10_readBook 38 = .ok (.bipush (-9), 2) := by decide +kernel
theorem dX10_readBook_40 : decode cX10_readBook 40 = .ok (.ireturn, 1) := by decide +kernel
set_option maxRecDepth 20000 in
theorem ggX10_fault_X10_readBook : GoodIn wsX10_fault wsX10_readBook := goodIn_r _ [6, 7, 8, 9, 10, 11, 12, 13, 5, 14, 15, 16, 17, 18, 19, 20, 21, 22, 23, 24, 25, 26, 27, 28, 29, 30, 31, 32, 33, 34, 35, 36, 37, 38, 39, 40, 41, 42, 43, 44, 45, 46, 47, 48, 49, 50, 51, 52, 53, 54, 55, 56, 57, 58, 59, 60, 61, 62, 63, 64, 65, 66, 67, 68, 69, 70, 71, 72, 73, 74] (by decide +kernel) (by decide +kernel)
set_option maxRecDepth 20000 in
theorem gX10_fault_X10_readBook : GoodIn wsX10_fault (wsV RX10 131 RX10 yX10_readBook wsX10_readBook) := goodIn_app (goodIn_of _ (by decide +kernel)) ggX10_fault_X10_readBook
theorem dX10_fault_0 : decode cX10_fault 0 = .ok (.aload_n 0, 1) := by decide +kernel
theorem dX10_fault_1 : decode cX10_fault 1 = .ok (.iconst 0, 1) := by decide +kernel
theorem dX10_fault_2 : decode cX10_fault 2 = .ok (.putfield 92, 3) := by decide +kernel
theorem dX10_fault_5 : decode cX10_fault 5 = .ok (.aload_n 0, 1) := by decide +kernel
theorem dX10_fault_6 : decode cX10_fault 6 = .ok (.invokevirtual 131, 3) := by decide +kernel
theorem dX10_fault_9 : decode cX10_fault 9 = .ok (.ireturn, 1) := by decide +kernel
set_option maxRecDepth 20000 in
theorem ggX10_book_X10_readBook : GoodIn wsX10_book wsX10_readBook := goodIn_r _ [27, 28, 2, 4, 29, 30, 31, 32, 26, 33, 34, 35, 36, 37, 38, 7, 9, 39, 40, 41, 42, 43, 44, 45, 46, 47, 48, 49, 13, 15, 17, 19, 50, 51, 52, 53, 54, 55, 56, 57, 58, 59, 60, 61, 62, 63, 64, 65, 66, 67, 68, 69, 70, 71, 72, 73, 74, 75, 76, 77, 78, 79, 80, 81, 82, 83, 84, 85, 86, 87] (by decide +kernel) (by decide +kernel)
set_option maxRecDepth 20000 in
theorem gX10_book_X10_readBook : GoodIn wsX10_book (wsV RX10 131 RX10 yX10_readBook wsX10_readBook) := goodIn_app (goodIn_of _ (by decide +kernel)) ggX10_book_X10_readBook
theorem dX10_book_0 : decode cX10_book 0 = .ok (.aload_n 0, 1) := by decide +kernel
theorem dX10_book_1 : decode cX10_book 1 = .ok (.iconst 0, 1) := by decide +kernel
theorem dX10_book_2 : decode cX10_book 2 = .ok (.putfield 92, 3) := by decide +kernel
theorem dX10_book_5 : decode cX10_book 5 = .ok (.aload_n 0, 1) := by decide +kernel
theorem dX10_book_6 : decode cX10_book 6 = .ok (.invokevirtual 131, 3) := by decide +kernel
theorem dX10_book_9 : decode cX10_book 9 = .ok (.bipush (-9), 2) := by decide +kernel
theorem dX10_book_11 : decode cX10_book 11 = .ok (.if_icmp .eq 6, 3) := by decide +kernel
theorem dX10_book_14 : decode cX10_book 14 = .ok (.bipush (-3), 2) := by decide +kernel
theorem dX10_book_16 : decode cX10_book 16 = .ok (.ireturn, 1) := by decide +kernel
theorem dX10_book_17 : decode cX10_book 17 = .ok (.aload_n 0, 1) := by decide +kernel
theorem dX10_book_18 : decode cX10_book 18 = .ok (.aload_n 0, 1) := by decide +kernel
theorem dX10_book_19 : decode cX10_book 19 = .ok (.getfield 115, 3) := by decide +kernel
theorem dX10_book_22 : decode cX10_book 22 = .ok (.putfield 96, 3) := by decide +kernel
theorem dX10_book_25 : decode cX10_book 25 = .ok (.aload_n 0, 1) := by decide +kernel
theorem dX10_book_26 : decode cX10_book 26 = .ok (.aload_n 0, 1) := by decide +kernel
theorem dX10_book_27 : decode cX10_book 27 = .ok (.getfield 118, 3) := by decide +kernel
theorem dX10_book_30 : decode cX10_book 30 = .ok (.putfield 135, 3) := by decide +kernel
theorem dX10_book_33 : decode cX10_book 33 = .ok (.iconst 0, 1) := by decide +kernel
theorem dX10_book_34 : decode cX10_book 34 = .ok (.istore_n 1, 1) := by decide +kernel
theorem dX10_book_35 : decode cX10_book 35 = .ok (.iload_n 1, 1) := by decide +kernel
theorem dX10_book_36 : decode cX10_book 36 = .ok (.aload_n 0, 1) := by decide +kernel
theorem dX10_book_37 : decode cX10_book 37 = .ok (.getfield 96, 3) := by decide +kernel
theorem dX10_book_40 : decode cX10_book 40 = .ok (.if_icmp .ge 47, 3) := by decide +kernel
theorem dX10_book_43 : decode cX10_book 43 = .ok (.aload_n 0, 1) := by decide +kernel
theorem dX10_book_44 : decode cX10_book 44 = .ok (.getfield 13, 3) := by decide +kernel
theorem dX10_book_47 : decode cX10_book 47 = .ok (.iload_n 1, 1) := by decide +kernel
theorem dX10_book_48 : decode cX10_book 48 = .ok (.aload_n 0, 1) := by decide +kernel
theorem dX10_book_49 : decode cX10_book 49 = .ok (.getfield 38, 3) := by decide +kernel
theorem dX10_book_52 : decode cX10_book 52 = .ok (.iload_n 1, 1) := by decide +kernel
theorem dX10_book_53 : decode cX10_book 53 = .ok (.iaload, 1) := by decide +kernel
theorem dX10_book_54 : decode cX10_book 54 = .ok (.iastore, 1) := by decide +kernel
theorem dX10_book_55 : decode cX10_book 55 = .ok (.aload_n 0, 1) := by decide +kernel
theorem dX10_book_56 : decode cX10_book 56 = .ok (.getfield 16, 3) := by decide +kernel
theorem dX10_book_59 : decode cX10_book 59 = .ok (.iload_n 1, 1) := by decide +kernel
theorem dX10_book_60 : decode cX10_book 60 = .ok (.aload_n 0, 1) := by decide +kernel
theorem dX10_book_61 : decode cX10_book 61 = .ok (.getfield 41, 3) := by decide +kernel
theorem dX10_book_64 : decode cX10_book 64 = .ok (.iload_n 1, 1) := by decide +kernel
theorem dX10_book_65 : decode cX10_book 65 = .ok (.iaload, 1) := by decide +kernel
theorem dX10_book_66 : decode cX10_book 66 = .ok (.iastore, 1) := by decide +kernel
theorem dX10_book_67 : decode cX10_book 67 = .ok (.aload_n 0, 1) := by decide +kernel
theorem dX10_book_68 : decode cX10_book 68 = .ok (.getfield 19, 3) := by decide +kernel
theorem dX10_book_71 : decode cX10_book 71 = .ok (.iload_n 1, 1) := by decide +kernel
theorem dX10_book_72 : decode cX10_book 72 = .ok (.iconst 0, 1) := by decide +kernel
theorem dX10_book_73 : decode cX10_book 73 = .ok (.bastore, 1) := by decide +kernel
theorem dX10_book_74 : decode cX10_book 74 = .ok (.aload_n 0, 1) := by decide +kernel
theorem dX10_book_75 : decode cX10_book 75 = .ok (.getfield 23, 3) := by decide +kernel
theorem dX10_book_78 : decode cX10_book 78 = .ok (.iload_n 1, 1) := by decide +kernel
theorem dX10_book_79 : decode cX10_book 79 = .ok (.iconst 0, 1) := by decide +kernel
theorem dX10_book_80 : decode cX10_book 80 = .ok (.bastore, 1) := by decide +kernel
theorem dX10_book_81 : decode cX10_book 81 = .ok (.iinc 1 1, 3) := by decide +kernel
theorem dX10_book_84 : decode cX10_book 84 = .ok (.goto (-49), 3) := by decide +kernel
theorem dX10_book_87 : decode cX10_book 87 = .ok (.iconst 0, 1) := by decide +kernel
theorem dX10_book_88 : decode cX10_book 88 = .ok (.istore_n 1, 1) := by decide +kernel
theorem dX10_book_89 : decode cX10_book 89 = .ok (.iload_n 1, 1) := by decide +kernel
theorem dX10_book_90 : decode cX10_book 90 = .ok (.aload_n 0, 1) := by decide +kernel
theorem dX10_book_91 : decode cX10_book 91 = .ok (.getfield 135, 3) := by decide +kernel
theorem dX10_book_94 : decode cX10_book 94 = .ok (.if_icmp .ge 57, 3) := by decide +kernel
theorem dX10_book_97 : decode cX10_book 97 = .ok (.aload_n 0, 1) := by decide +kernel
theorem dX10_book_98 : decode cX10_book 98 = .ok (.getfield 26, 3) := by decide +kernel
theorem dX10_book_101 : decode cX10_book 101 = .ok (.iload_n 1, 1) := by decide +kernel
theorem dX10_book_102 : decode cX10_book 102 = .ok (.aload_n 0, 1) := by decide +kernel
theorem dX10_book_103 : decode cX10_book 103 = .ok (.getfield 44, 3) := by decide +kernel
theorem dX10_book_106 : decode cX10_book 106 = .ok (.iload_n 1, 1) := by decide +kernel
theorem dX10_book_107 : decode cX10_book 107 = .ok (.iaload, 1) := by decide +kernel
theorem dX10_book_108 : decode cX10_book 108 = .ok (.iastore, 1) := by decide +kernel
theorem dX10_book_109 : decode cX10_book 109 = .ok (.aload_n 0, 1) := by decide +kernel
theorem dX10_book_110 : decode cX10_book 110 = .ok (.getfield 29, 3) := by decide +kernel
theorem dX10_book_113 : decode cX10_book 113 = .ok (.iload_n 1, 1) := by decide +kernel
theorem dX10_book_114 : decode cX10_book 114 = .ok (.aload_n 0, 1) := by decide +kernel
theorem dX10_book_115 : decode cX10_book 115 = .ok (.getfield 47, 3) := by decide +kernel
theorem dX10_book_118 : decode cX10_book 118 = .ok (.iload_n 1, 1) := by decide +kernel
theorem dX10_book_119 : decode cX10_book 119 = .ok (.iaload, 1) := by decide +kernel
theorem dX10_book_120 : decode cX10_book 120 = .ok (.iastore, 1) := by decide +kernel
theorem dX10_book_121 : decode cX10_book 121 = .ok (.aload_n 0, 1) := by decide +kernel
theorem dX10_book_122 : decode cX10_book 122 = .ok (.getfield 32, 3) := by decide +kernel
theorem dX10_book_125 : decode cX10_book 125 = .ok (.iload_n 1, 1) := by decide +kernel
theorem dX10_book_126 : decode cX10_book 126 = .ok (.aload_n 0, 1) := by decide +kernel
theorem dX10_book_127 : decode cX10_book 127 = .ok (.getfield 50, 3) := by decide +kernel
theorem dX10_book_130 : decode cX10_book 130 = .ok (.iload_n 1, 1) := by decide +kernel
theorem dX10_book_131 : decode cX10_book 131 = .ok (.iaload, 1) := by decide +kernel
theorem dX10_book_132 : decode cX10_book 132 = .ok (.iastore, 1) := by decide +kernel
theorem dX10_book_133 : decode cX10_book 133 = .ok (.aload_n 0, 1) := by decide +kernel
theorem dX10_book_134 : decode cX10_book 134 = .ok (.getfield 35, 3) := by decide +kernel
theorem dX10_book_137 : decode cX10_book 137 = .ok (.iload_n 1, 1) := by decide +kernel
theorem dX10_book_138 : decode cX10_book 138 = .ok (.aload_n 0, 1) := by decide +kernel
theorem dX10_book_139 : decode cX10_book 139 = .ok (.getfield 53, 3) := by decide +kernel
theorem dX10_book_142 : decode cX10_book 142 = .ok (.iload_n 1, 1) := by decide +kernel
theorem dX10_book_143 : decode cX10_book 143 = .ok (.iaload, 1) := by decide +kernel
theorem dX10_book_144 : decode cX10_book 144 = .ok (.iastore, 1) := by decide +kernel
theorem dX10_book_145 : decode cX10_book 145 = .ok (.iinc 1 1, 3) := by decide +kernel
theorem dX10_book_148 : decode cX10_book 148 = .ok (.goto (-59), 3) := by decide +kernel
theorem dX10_book_151 : decode cX10_book 151 = .ok (.aload_n 0, 1) := by decide +kernel
theorem dX10_book_152 : decode cX10_book 152 = .ok (.iconst 0, 1) := by decide +kernel
theorem dX10_book_153 : decode cX10_book 153 = .ok (.putfield 138, 3) := by decide +kernel
theorem dX10_book_156 : decode cX10_book 156 = .ok (.aload_n 0, 1) := by decide +kernel
theorem dX10_book_157 : decode cX10_book 157 = .ok (.iconst 0, 1) := by decide +kernel
theorem dX10_book_158 : decode cX10_book 158 = .ok (.putfield 141, 3) := by decide +kernel
theorem dX10_book_161 : decode cX10_book 161 = .ok (.aload_n 0, 1) := by decide +kernel
theorem dX10_book_162 : decode cX10_book 162 = .ok (.getfield 62, 3) := by decide +kernel
theorem dX10_book_165 : decode cX10_book 165 = .ok (.iconst 0, 1) := by decide +kernel
theorem dX10_book_166 : decode cX10_book 166 = .ok (.iconst 0, 1) := by decide +kernel
theorem dX10_book_167 : decode cX10_book 167 = .ok (.bastore, 1) := by decide +kernel
theorem dX10_book_168 : decode cX10_book 168 = .ok (.aload_n 0, 1) := by decide +kernel
theorem dX10_book_169 : decode cX10_book 169 = .ok (.getfield 62, 3) := by decide +kernel
theorem dX10_book_172 : decode cX10_book 172 = .ok (.iconst 1, 1) := by decide +kernel
theorem dX10_book_173 : decode cX10_book 173 = .ok (.iconst 0, 1) := by decide +kernel
theorem dX10_book_174 : decode cX10_book 174 = .ok (.bastore, 1) := by decide +kernel
theorem dX10_book_175 : decode cX10_book 175 = .ok (.aload_n 0, 1) := by decide +kernel
theorem dX10_book_176 : decode cX10_book 176 = .ok (.getfield 96, 3) := by decide +kernel
theorem dX10_book_179 : decode cX10_book 179 = .ok (.ireturn, 1) := by decide +kernel
theorem dX10_owesAll_0 : decode cX10_owesAll 0 = .ok (.iconst 0, 1) := by decide +kernel
theorem dX10_owesAll_1 : decode cX10_owesAll 1 = .ok (.istore_n 2, 1) := by decide +kernel
theorem dX10_owesAll_2 : decode cX10_owesAll 2 = .ok (.iconst 0, 1) := by decide +kernel
theorem dX10_owesAll_3 : decode cX10_owesAll 3 = .ok (.istore_n 3, 1) := by decide +kernel
theorem dX10_owesAll_4 : decode cX10_owesAll 4 = .ok (.iload_n 3, 1) := by decide +kernel
theorem dX10_owesAll_5 : decode cX10_owesAll 5 = .ok (.aload_n 0, 1) := by decide +kernel
theorem dX10_owesAll_6 : decode cX10_owesAll 6 = .ok (.getfield 135, 3) := by decide +kernel
theorem dX10_owesAll_9 : decode cX10_owesAll 9 = .ok (.if_icmp .ge 32, 3) := by decide +kernel
theorem dX10_owesAll_12 : decode cX10_owesAll 12 = .ok (.iload_n 2, 1) := by decide +kernel
theorem dX10_owesAll_13 : decode cX10_owesAll 13 = .ok (.aload_n 0, 1) := by decide +kernel
theorem dX10_owesAll_14 : decode cX10_owesAll 14 = .ok (.getfield 29, 3) := by decide +kernel
theorem dX10_owesAll_17 : decode cX10_owesAll 17 = .ok (.iload_n 3, 1) := by decide +kernel
theorem dX10_owesAll_18 : decode cX10_owesAll 18 = .ok (.iaload, 1) := by decide +kernel
theorem dX10_owesAll_19 : decode cX10_owesAll 19 = .ok (.iload_n 1, 1) := by decide +kernel
theorem dX10_owesAll_20 : decode cX10_owesAll 20 = .ok (.if_icmp .ne 12, 3) := by decide +kernel
theorem dX10_owesAll_23 : decode cX10_owesAll 23 = .ok (.aload_n 0, 1) := by decide +kernel
theorem dX10_owesAll_24 : decode cX10_owesAll 24 = .ok (.getfield 32, 3) := by decide +kernel
theorem dX10_owesAll_27 : decode cX10_owesAll 27 = .ok (.iload_n 3, 1) := by decide +kernel
theorem dX10_owesAll_28 : decode cX10_owesAll 28 = .ok (.iaload, 1) := by decide +kernel
theorem dX10_owesAll_29 : decode cX10_owesAll 29 = .ok (.goto 4, 3) := by decide +kernel
theorem dX10_owesAll_32 : decode cX10_owesAll 32 = .ok (.iconst 0, 1) := by decide +kernel
theorem dX10_owesAll_33 : decode cX10_owesAll 33 = .ok (.iadd, 1) := by decide +kernel
theorem dX10_owesAll_34 : decode cX10_owesAll 34 = .ok (.istore_n 2, 1) := by decide +kernel
theorem dX10_owesAll_35 : decode cX10_owesAll 35 = .ok (.iinc 3 1, 3) := by decide +kernel
theorem dX10_owesAll_38 : decode cX10_owesAll 38 = .ok (.goto (-34), 3) := by decide +kernel
theorem dX10_owesAll_41 : decode cX10_owesAll 41 = .ok (.iload_n 2, 1) := by decide +kernel
theorem dX10_owesAll_42 : decode cX10_owesAll 42 = .ok (.ireturn, 1) := by decide +kernel
theorem dX10_owedAll_0 : decode cX10_owedAll 0 = .ok (.iconst 0, 1) := by decide +kernel
theorem dX10_owedAll_1 : decode cX10_owedAll 1 = .ok (.istore_n 2, 1) := by decide +kernel
theorem dX10_owedAll_2 : decode cX10_owedAll 2 = .ok (.iconst 0, 1) := by decide +kernel
theorem dX10_owedAll_3 : decode cX10_owedAll 3 = .ok (.istore_n 3, 1) := by decide +kernel
theorem dX10_owedAll_4 : decode cX10_owedAll 4 = .ok (.iload_n 3, 1) := by decide +kernel
theorem dX10_owedAll_5 : decode cX10_owedAll 5 = .ok (.aload_n 0, 1) := by decide +kernel
theorem dX10_owedAll_6 : decode cX10_owedAll 6 = .ok (.getfield 135, 3) := by decide +kernel
theorem dX10_owedAll_9 : decode cX10_owedAll 9 = .ok (.if_icmp .ge 32, 3) := by decide +kernel
theorem dX10_owedAll_12 : decode cX10_owedAll 12 = .ok (.iload_n 2, 1) := by decide +kernel
theorem dX10_owedAll_13 : decode cX10_owedAll 13 = .ok (.aload_n 0, 1) := by decide +kernel
theorem dX10_owedAll_14 : decode cX10_owedAll 14 = .ok (.getfield 26, 3) := by decide +kernel
theorem dX10_owedAll_17 : decode cX10_owedAll 17 = .ok (.iload_n 3, 1) := by decide +kernel
theorem dX10_owedAll_18 : decode cX10_owedAll 18 = .ok (.iaload, 1) := by decide +kernel
theorem dX10_owedAll_19 : decode cX10_owedAll 19 = .ok (.iload_n 1, 1) := by decide +kernel
theorem dX10_owedAll_20 : decode cX10_owedAll 20 = .ok (.if_icmp .ne 12, 3) := by decide +kernel
theorem dX10_owedAll_23 : decode cX10_owedAll 23 = .ok (.aload_n 0, 1) := by decide +kernel
theorem dX10_owedAll_24 : decode cX10_owedAll 24 = .ok (.getfield 32, 3) := by decide +kernel
theorem dX10_owedAll_27 : decode cX10_owedAll 27 = .ok (.iload_n 3, 1) := by decide +kernel
theorem dX10_owedAll_28 : decode cX10_owedAll 28 = .ok (.iaload, 1) := by decide +kernel
theorem dX10_owedAll_29 : decode cX10_owedAll 29 = .ok (.goto 4, 3) := by decide +kernel
theorem dX10_owedAll_32 : decode cX10_owedAll 32 = .ok (.iconst 0, 1) := by decide +kernel
theorem dX10_owedAll_33 : decode cX10_owedAll 33 = .ok (.iadd, 1) := by decide +kernel
theorem dX10_owedAll_34 : decode cX10_owedAll 34 = .ok (.istore_n 2, 1) := by decide +kernel
theorem dX10_owedAll_35 : decode cX10_owedAll 35 = .ok (.iinc 3 1, 3) := by decide +kernel
theorem dX10_owedAll_38 : decode cX10_owedAll 38 = .ok (.goto (-34), 3) := by decide +kernel
theorem dX10_owedAll_41 : decode cX10_owedAll 41 = .ok (.iload_n 2, 1) := by decide +kernel
theorem dX10_owedAll_42 : decode cX10_owedAll 42 = .ok (.ireturn, 1) := by decide +kernel
set_option maxRecDepth 20000 in
theorem ggX10_about_X10_owesAll : GoodIn wsX10_about wsX10_owesAll := goodIn_r _ [15, 6, 16, 17, 18, 19, 20, 21, 22, 23, 24, 25, 26, 27, 28, 29, 30, 31, 32, 33, 34, 35, 36, 37, 38, 39, 40, 41, 42, 43, 44, 45, 46, 47, 48, 49, 50, 51, 52, 53, 54, 55] (by decide +kernel) (by decide +kernel)
set_option maxRecDepth 20000 in
theorem gX10_about_X10_owesAll : GoodIn wsX10_about (wsV RX10 144 RX10 yX10_owesAll wsX10_owesAll) := goodIn_app (goodIn_of _ (by decide +kernel)) ggX10_about_X10_owesAll
theorem dX10_about_0 : decode cX10_about 0 = .ok (.aload_n 0, 1) := by decide +kernel
theorem dX10_about_1 : decode cX10_about 1 = .ok (.iconst 0, 1) := by decide +kernel
theorem dX10_about_2 : decode cX10_about 2 = .ok (.putfield 92, 3) := by decide +kernel
theorem dX10_about_5 : decode cX10_about 5 = .ok (.iconst 0, 1) := by decide +kernel
theorem dX10_about_6 : decode cX10_about 6 = .ok (.istore_n 2, 1) := by decide +kernel
theorem dX10_about_7 : decode cX10_about 7 = .ok (.iconst 0, 1) := by decide +kernel
theorem dX10_about_8 : decode cX10_about 8 = .ok (.istore_n 3, 1) := by decide +kernel
theorem dX10_about_9 : decode cX10_about 9 = .ok (.iconst 0, 1) := by decide +kernel
theorem dX10_about_10 : decode cX10_about 10 = .ok (.istore 4, 2) := by decide +kernel
theorem dX10_about_12 : decode cX10_about 12 = .ok (.iconst 0, 1) := by decide +kernel
theorem dX10_about_13 : decode cX10_about 13 = .ok (.istore 5, 2) := by decide +kernel
theorem dX10_about_15 : decode cX10_about 15 = .ok (.iconst 0, 1) := by decide +kernel
theorem dX10_about_16 : decode cX10_about 16 = .ok (.istore 6, 2) := by decide +kernel
theorem dX10_about_18 : decode cX10_about 18 = .ok (.iload 6, 2) := by decide +kernel
theorem dX10_about_20 : decode cX10_about 20 = .ok (.aload_n 0, 1) := by decide +kernel
theorem dX10_about_21 : decode cX10_about 21 = .ok (.getfield 96, 3) := by decide +kernel
theorem dX10_about_24 : decode cX10_about 24 = .ok (.if_icmp .ge 74, 3) := by decide +kernel
theorem dX10_about_27 : decode cX10_about 27 = .ok (.iload_n 2, 1) := by decide +kernel
theorem dX10_about_28 : decode cX10_about 28 = .ok (.aload_n 0, 1) := by decide +kernel
theorem dX10_about_29 : decode cX10_about 29 = .ok (.getfield 19, 3) := by decide +kernel
theorem dX10_about_32 : decode cX10_about 32 = .ok (.iload 6, 2) := by decide +kernel
theorem dX10_about_34 : decode cX10_about 34 = .ok (.baload, 1) := by decide +kernel
theorem dX10_about_35 : decode cX10_about 35 = .ok (.ifCond .eq 7, 3) := by decide +kernel
theorem dX10_about_38 : decode cX10_about 38 = .ok (.iconst 0, 1) := by decide +kernel
theorem dX10_about_39 : decode cX10_about 39 = .ok (.goto 7, 3) := by decide +kernel
theorem dX10_about_42 : decode cX10_about 42 = .ok (.iconst 1, 1) := by decide +kernel
theorem dX10_about_43 : decode cX10_about 43 = .ok (.iload 6, 2) := by decide +kernel
theorem dX10_about_45 : decode cX10_about 45 = .ok (.ishl, 1) := by decide +kernel
theorem dX10_about_46 : decode cX10_about 46 = .ok (.ior, 1) := by decide +kernel
theorem dX10_about_47 : decode cX10_about 47 = .ok (.istore_n 2, 1) := by decide +kernel
theorem dX10_about_48 : decode cX10_about 48 = .ok (.iload_n 3, 1) := by decide +kernel
theorem dX10_about_49 : decode cX10_about 49 = .ok (.aload_n 0, 1) := by decide +kernel
theorem dX10_about_50 : decode cX10_about 50 = .ok (.getfield 23, 3) := by decide +kernel

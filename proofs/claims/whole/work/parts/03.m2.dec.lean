theorem dX10_week_15 : decode cX10_week 15 = .ok (.iadd, 1) := by decide +kernel
theorem dX10_week_16 : decode cX10_week 16 = .ok (.putfield 138, 3) := by decide +kernel
theorem dX10_week_19 : decode cX10_week 19 = .ok (.iconst 0, 1) := by decide +kernel
theorem dX10_week_20 : decode cX10_week 20 = .ok (.istore_n 1, 1) := by decide +kernel
theorem dX10_week_21 : decode cX10_week 21 = .ok (.iconst 0, 1) := by decide +kernel
theorem dX10_week_22 : decode cX10_week 22 = .ok (.istore_n 2, 1) := by decide +kernel
theorem dX10_week_23 : decode cX10_week 23 = .ok (.iload_n 2, 1) := by decide +kernel
theorem dX10_week_24 : decode cX10_week 24 = .ok (.aload_n 0, 1) := by decide +kernel
theorem dX10_week_25 : decode cX10_week 25 = .ok (.getfield 135, 3) := by decide +kernel
theorem dX10_week_28 : decode cX10_week 28 = .ok (.if_icmp .ge 157, 3) := by decide +kernel
theorem dX10_week_31 : decode cX10_week 31 = .ok (.aload_n 0, 1) := by decide +kernel
theorem dX10_week_32 : decode cX10_week 32 = .ok (.getfield 35, 3) := by decide +kernel
theorem dX10_week_35 : decode cX10_week 35 = .ok (.iload_n 2, 1) := by decide +kernel
theorem dX10_week_36 : decode cX10_week 36 = .ok (.iaload, 1) := by decide +kernel
theorem dX10_week_37 : decode cX10_week 37 = .ok (.aload_n 0, 1) := by decide +kernel
theorem dX10_week_38 : decode cX10_week 38 = .ok (.getfield 138, 3) := by decide +kernel
theorem dX10_week_41 : decode cX10_week 41 = .ok (.if_icmp .eq 9, 3) := by decide +kernel
theorem dX10_week_44 : decode cX10_week 44 = .ok (.iinc 2 1, 3) := by decide +kernel
theorem dX10_week_47 : decode cX10_week 47 = .ok (.goto (-24), 3) := by decide +kernel
theorem dX10_week_50 : decode cX10_week 50 = .ok (.aload_n 0, 1) := by decide +kernel
theorem dX10_week_51 : decode cX10_week 51 = .ok (.getfield 29, 3) := by decide +kernel
theorem dX10_week_54 : decode cX10_week 54 = .ok (.iload_n 2, 1) := by decide +kernel
theorem dX10_week_55 : decode cX10_week 55 = .ok (.iaload, 1) := by decide +kernel
theorem dX10_week_56 : decode cX10_week 56 = .ok (.istore_n 3, 1) := by decide +kernel
theorem dX10_week_57 : decode cX10_week 57 = .ok (.aload_n 0, 1) := by decide +kernel
theorem dX10_week_58 : decode cX10_week 58 = .ok (.getfield 13, 3) := by decide +kernel
theorem dX10_week_61 : decode cX10_week 61 = .ok (.iload_n 3, 1) := by decide +kernel
theorem dX10_week_62 : decode cX10_week 62 = .ok (.iaload, 1) := by decide +kernel
theorem dX10_week_63 : decode cX10_week 63 = .ok (.aload_n 0, 1) := by decide +kernel
theorem dX10_week_64 : decode cX10_week 64 = .ok (.getfield 32, 3) := by decide +kernel
theorem dX10_week_67 : decode cX10_week 67 = .ok (.iload_n 2, 1) := by decide +kernel
theorem dX10_week_68 : decode cX10_week 68 = .ok (.iaload, 1) := by decide +kernel
theorem dX10_week_69 : decode cX10_week 69 = .ok (.if_icmp .ge 12, 3) := by decide +kernel
theorem dX10_week_72 : decode cX10_week 72 = .ok (.aload_n 0, 1) := by decide +kernel
theorem dX10_week_73 : decode cX10_week 73 = .ok (.getfield 13, 3) := by decide +kernel
theorem dX10_week_76 : decode cX10_week 76 = .ok (.iload_n 3, 1) := by decide +kernel
theorem dX10_week_77 : decode cX10_week 77 = .ok (.iaload, 1) := by decide +kernel
theorem dX10_week_78 : decode cX10_week 78 = .ok (.goto 9, 3) := by decide +kernel
theorem dX10_week_81 : decode cX10_week 81 = .ok (.aload_n 0, 1) := by decide +kernel
theorem dX10_week_82 : decode cX10_week 82 = .ok (.getfield 32, 3) := by decide +kernel
theorem dX10_week_85 : decode cX10_week 85 = .ok (.iload_n 2, 1) := by decide +kernel
theorem dX10_week_86 : decode cX10_week 86 = .ok (.iaload, 1) := by decide +kernel
theorem dX10_week_87 : decode cX10_week 87 = .ok (.istore 4, 2) := by decide +kernel
theorem dX10_week_89 : decode cX10_week 89 = .ok (.iload_n 1, 1) := by decide +kernel
theorem dX10_week_90 : decode cX10_week 90 = .ok (.iload 4, 2) := by decide +kernel
theorem dX10_week_92 : decode cX10_week 92 = .ok (.aload_n 0, 1) := by decide +kernel
theorem dX10_week_93 : decode cX10_week 93 = .ok (.getfield 32, 3) := by decide +kernel
theorem dX10_week_96 : decode cX10_week 96 = .ok (.iload_n 2, 1) := by decide +kernel
theorem dX10_week_97 : decode cX10_week 97 = .ok (.iaload, 1) := by decide +kernel
theorem dX10_week_98 : decode cX10_week 98 = .ok (.if_icmp .ge 18, 3) := by decide +kernel
theorem dX10_week_101 : decode cX10_week 101 = .ok (.aload_n 0, 1) := by decide +kernel
theorem dX10_week_102 : decode cX10_week 102 = .ok (.getfield 23, 3) := by decide +kernel
theorem dX10_week_105 : decode cX10_week 105 = .ok (.iload_n 3, 1) := by decide +kernel
theorem dX10_week_106 : decode cX10_week 106 = .ok (.baload, 1) := by decide +kernel
theorem dX10_week_107 : decode cX10_week 107 = .ok (.ifCond .ne 9, 3) := by decide +kernel
theorem dX10_week_110 : decode cX10_week 110 = .ok (.iconst 1, 1) := by decide +kernel
theorem dX10_week_111 : decode cX10_week 111 = .ok (.iload_n 3, 1) := by decide +kernel
theorem dX10_week_112 : decode cX10_week 112 = .ok (.ishl, 1) := by decide +kernel
theorem dX10_week_113 : decode cX10_week 113 = .ok (.goto 4, 3) := by decide +kernel
theorem dX10_week_116 : decode cX10_week 116 = .ok (.iconst 0, 1) := by decide +kernel
theorem dX10_week_117 : decode cX10_week 117 = .ok (.ior, 1) := by decide +kernel
theorem dX10_week_118 : decode cX10_week 118 = .ok (.istore_n 1, 1) := by decide +kernel
theorem dX10_week_119 : decode cX10_week 119 = .ok (.aload_n 0, 1) := by decide +kernel
theorem dX10_week_120 : decode cX10_week 120 = .ok (.getfield 23, 3) := by decide +kernel
theorem dX10_week_123 : decode cX10_week 123 = .ok (.iload_n 3, 1) := by decide +kernel
theorem dX10_week_124 : decode cX10_week 124 = .ok (.aload_n 0, 1) := by decide +kernel
theorem dX10_week_125 : decode cX10_week 125 = .ok (.getfield 23, 3) := by decide +kernel
theorem dX10_week_128 : decode cX10_week 128 = .ok (.iload_n 3, 1) := by decide +kernel
theorem dX10_week_129 : decode cX10_week 129 = .ok (.baload, 1) := by decide +kernel
theorem dX10_week_130 : decode cX10_week 130 = .ok (.ifCond .ne 14, 3) := by decide +kernel
theorem dX10_week_133 : decode cX10_week 133 = .ok (.iload 4, 2) := by decide +kernel
theorem dX10_week_135 : decode cX10_week 135 = .ok (.aload_n 0, 1) := by decide +kernel
theorem dX10_week_136 : decode cX10_week 136 = .ok (.getfield 32, 3) := by decide +kernel
theorem dX10_week_139 : decode cX10_week 139 = .ok (.iload_n 2, 1) := by decide +kernel
theorem dX10_week_140 : decode cX10_week 140 = .ok (.iaload, 1) := by decide +kernel
theorem dX10_week_141 : decode cX10_week 141 = .ok (.if_icmp .ge 7, 3) := by decide +kernel
theorem dX10_week_144 : decode cX10_week 144 = .ok (.iconst 1, 1) := by decide +kernel
theorem dX10_week_145 : decode cX10_week 145 = .ok (.goto 4, 3) := by decide +kernel
theorem dX10_week_148 : decode cX10_week 148 = .ok (.iconst 0, 1) := by decide +kernel
theorem dX10_week_149 : decode cX10_week 149 = .ok (.bastore, 1) := by decide +kernel
theorem dX10_week_150 : decode cX10_week 150 = .ok (.aload_n 0, 1) := by decide +kernel
theorem dX10_week_151 : decode cX10_week 151 = .ok (.getfield 13, 3) := by decide +kernel
theorem dX10_week_154 : decode cX10_week 154 = .ok (.iload_n 3, 1) := by decide +kernel
theorem dX10_week_155 : decode cX10_week 155 = .ok (.dup2, 1) := by decide +kernel
theorem dX10_week_156 : decode cX10_week 156 = .ok (.iaload, 1) := by decide +kernel
theorem dX10_week_157 : decode cX10_week 157 = .ok (.iload 4, 2) := by decide +kernel
theorem dX10_week_159 : decode cX10_week 159 = .ok (.isub, 1) := by decide +kernel
theorem dX10_week_160 : decode cX10_week 160 = .ok (.iastore, 1) := by decide +kernel
theorem dX10_week_161 : decode cX10_week 161 = .ok (.aload_n 0, 1) := by decide +kernel
theorem dX10_week_162 : decode cX10_week 162 = .ok (.getfield 13, 3) := by decide +kernel
theorem dX10_week_165 : decode cX10_week 165 = .ok (.aload_n 0, 1) := by decide +kernel
theorem dX10_week_166 : decode cX10_week 166 = .ok (.getfield 26, 3) := by decide +kernel
theorem dX10_week_169 : decode cX10_week 169 = .ok (.iload_n 2, 1) := by decide +kernel
theorem dX10_week_170 : decode cX10_week 170 = .ok (.iaload, 1) := by decide +kernel
theorem dX10_week_171 : decode cX10_week 171 = .ok (.dup2, 1) := by decide +kernel
theorem dX10_week_172 : decode cX10_week 172 = .ok (.iaload, 1) := by decide +kernel
theorem dX10_week_173 : decode cX10_week 173 = .ok (.iload 4, 2) := by decide +kernel
theorem dX10_week_175 : decode cX10_week 175 = .ok (.iadd, 1) := by decide +kernel
theorem dX10_week_176 : decode cX10_week 176 = .ok (.iastore, 1) := by decide +kernel
theorem dX10_week_177 : decode cX10_week 177 = .ok (.aload_n 0, 1) := by decide +kernel
theorem dX10_week_178 : decode cX10_week 178 = .ok (.iload_n 2, 1) := by decide +kernel
theorem dX10_week_179 : decode cX10_week 179 = .ok (.invokevirtual 176, 3) := by decide +kernel
theorem dX10_week_182 : decode cX10_week 182 = .ok (.goto (-159), 3) := by decide +kernel
theorem dX10_week_185 : decode cX10_week 185 = .ok (.iconst 0, 1) := by decide +kernel
theorem dX10_week_186 : decode cX10_week 186 = .ok (.istore_n 3, 1) := by decide +kernel
theorem dX10_week_187 : decode cX10_week 187 = .ok (.iload_n 3, 1) := by decide +kernel
theorem dX10_week_188 : decode cX10_week 188 = .ok (.aload_n 0, 1) := by decide +kernel
theorem dX10_week_189 : decode cX10_week 189 = .ok (.getfield 96, 3) := by decide +kernel
theorem dX10_week_192 : decode cX10_week 192 = .ok (.if_icmp .ge 46, 3) := by decide +kernel
theorem dX10_week_195 : decode cX10_week 195 = .ok (.aload_n 0, 1) := by decide +kernel
theorem dX10_week_196 : decode cX10_week 196 = .ok (.getfield 13, 3) := by decide +kernel
theorem dX10_week_199 : decode cX10_week 199 = .ok (.iload_n 3, 1) := by decide +kernel
theorem dX10_week_200 : decode cX10_week 200 = .ok (.aload_n 0, 1) := by decide +kernel
theorem dX10_week_201 : decode cX10_week 201 = .ok (.getfield 138, 3) := by decide +kernel
theorem dX10_week_204 : decode cX10_week 204 = .ok (.iconst 4, 1) := by decide +kernel
theorem dX10_week_205 : decode cX10_week 205 = .ok (.irem, 1) := by decide +kernel
theorem dX10_week_206 : decode cX10_week 206 = .ok (.ifCond .ne 19, 3) := by decide +kernel
theorem dX10_week_209 : decode cX10_week 209 = .ok (.aload_n 0, 1) := by decide +kernel
theorem dX10_week_210 : decode cX10_week 210 = .ok (.getfield 13, 3) := by decide +kernel
theorem dX10_week_213 : decode cX10_week 213 = .ok (.iload_n 3, 1) := by decide +kernel
theorem dX10_week_214 : decode cX10_week 214 = .ok (.iaload, 1) := by decide +kernel
theorem dX10_week_215 : decode cX10_week 215 = .ok (.bipush 20, 2) := by decide +kernel
theorem dX10_week_217 : decode cX10_week 217 = .ok (.if_icmp .le 8, 3) := by decide +kernel
theorem dX10_week_220 : decode cX10_week 220 = .ok (.bipush 20, 2) := by decide +kernel
theorem dX10_week_222 : decode cX10_week 222 = .ok (.goto 9, 3) := by decide +kernel
theorem dX10_week_225 : decode cX10_week 225 = .ok (.aload_n 0, 1) := by decide +kernel
theorem dX10_week_226 : decode cX10_week 226 = .ok (.getfield 13, 3) := by decide +kernel
theorem dX10_week_229 : decode cX10_week 229 = .ok (.iload_n 3, 1) := by decide +kernel
theorem dX10_week_230 : decode cX10_week 230 = .ok (.iaload, 1) := by decide +kernel
theorem dX10_week_231 : decode cX10_week 231 = .ok (.iastore, 1) := by decide +kernel
theorem dX10_week_232 : decode cX10_week 232 = .ok (.iinc 3 1, 3) := by decide +kernel
theorem dX10_week_235 : decode cX10_week 235 = .ok (.goto (-48), 3) := by decide +kernel
theorem dX10_week_238 : decode cX10_week 238 = .ok (.iload_n 1, 1) := by decide +kernel
theorem dX10_week_239 : decode cX10_week 239 = .ok (.ireturn, 1) := by decide +kernel
set_option maxRecDepth 20000 in
theorem ggX10_heirs_X10_noOne : GoodIn wsX10_heirs wsX10_noOne := goodIn_r _ [12, 2, 13, 14, 11, 15, 38, 39, 40, 41, 42, 43, 44, 45, 46, 47, 48, 49, 50, 51, 52, 53, 54, 55, 56, 57, 58, 59, 60, 61, 62, 63, 64, 65, 66, 67, 68, 69, 70, 71, 72, 73, 74, 75] (by decide +kernel) (by decide +kernel)
set_option maxRecDepth 20000 in
theorem gX10_heirs_X10_noOne : GoodIn wsX10_heirs (wsV RX10 151 RX10 yX10_noOne wsX10_noOne) := goodIn_app (goodIn_of _ (by decide +kernel)) ggX10_heirs_X10_noOne
set_option maxRecDepth 20000 in
theorem ggX10_heirs_X10_in : GoodIn wsX10_heirs wsX10_in := goodIn_r _ [15] (by decide +kernel) (by decide +kernel)
set_option maxRecDepth 20000 in
theorem gX10_heirs_X10_in : GoodIn wsX10_heirs (va_wsS RX10 99 yX10_in wsX10_in) := goodIn_app (goodIn_of _ (by decide +kernel)) ggX10_heirs_X10_in
set_option maxRecDepth 20000 in
theorem ggX10_heirs_X10_has : GoodIn wsX10_heirs wsX10_has := goodIn_r _ [18] (by decide +kernel) (by decide +kernel)
set_option maxRecDepth 20000 in
theorem gX10_heirs_X10_has : GoodIn wsX10_heirs (va_wsS RX10 160 yX10_has wsX10_has) := goodIn_app (goodIn_of _ (by decide +kernel)) ggX10_heirs_X10_has
set_option maxRecDepth 20000 in
theorem ggX10_heirs_X10_note : GoodIn wsX10_heirs wsX10_note := goodIn_r _ [22, 23, 24, 25, 26, 27, 11, 28, 4, 29, 3, 30, 6, 7, 31, 32, 5, 33, 38, 39, 40, 41, 42, 43, 44, 45, 46, 47, 48, 49, 50, 51, 52, 53, 54, 55, 56, 57, 58, 59, 60, 61, 62, 63, 64, 65, 66, 67, 68, 69, 70, 71, 72, 73, 74, 75] (by decide +kernel) (by decide +kernel)
set_option maxRecDepth 20000 in
theorem gX10_heirs_X10_note : GoodIn wsX10_heirs (wsV RX10 173 RX10 yX10_note wsX10_note) := goodIn_app (goodIn_of _ (by decide +kernel)) ggX10_heirs_X10_note
set_option maxRecDepth 20000 in
theorem ggX10_heirs_X10_drop : GoodIn wsX10_heirs wsX10_drop := goodIn_r _ [37, 5, 6, 7, 31, 32, 38, 39, 40, 41, 42, 43, 44, 45, 46, 47, 48, 49, 50, 51, 52, 53, 54, 55, 56, 57, 58, 59, 60, 61, 62, 63, 64, 65, 66, 67, 68, 69, 70, 71, 72, 73, 74, 75] (by decide +kernel) (by decide +kernel)
set_option maxRecDepth 20000 in
theorem gX10_heirs_X10_drop : GoodIn wsX10_heirs (wsV RX10 176 RX10 yX10_drop wsX10_drop) := goodIn_app (goodIn_of _ (by decide +kernel)) ggX10_heirs_X10_drop
theorem dX10_heirs_0 : decode cX10_heirs 0 = .ok (.aload_n 0, 1) := by decide +kernel
theorem dX10_heirs_1 : decode cX10_heirs 1 = .ok (.iconst 0, 1) := by decide +kernel
theorem dX10_heirs_2 : decode cX10_heirs 2 = .ok (.putfield 92, 3) := by decide +kernel
theorem dX10_heirs_5 : decode cX10_heirs 5 = .ok (.aload_n 0, 1) := by decide +kernel
theorem dX10_heirs_6 : decode cX10_heirs 6 = .ok (.iload_n 1, 1) := by decide +kernel
theorem dX10_heirs_7 : decode cX10_heirs 7 = .ok (.invokevirtual 151, 3) := by decide +kernel
theorem dX10_heirs_10 : decode cX10_heirs 10 = .ok (.ifCond .eq 5, 3) := by decide +kernel
theorem dX10_heirs_13 : decode cX10_heirs 13 = .ok (.iconst (-1), 1) := by decide +kernel
theorem dX10_heirs_14 : decode cX10_heirs 14 = .ok (.ireturn, 1) := by decide +kernel
theorem dX10_heirs_15 : decode cX10_heirs 15 = .ok (.iload_n 2, 1) := by decide +kernel
theorem dX10_heirs_16 : decode cX10_heirs 16 = .ok (.i2l, 1) := by decide +kernel
theorem dX10_heirs_17 : decode cX10_heirs 17 = .ok (.lconst 1, 1) := by decide +kernel
theorem dX10_heirs_18 : decode cX10_heirs 18 = .ok (.iconst 1, 1) := by decide +kernel
theorem dX10_heirs_19 : decode cX10_heirs 19 = .ok (.aload_n 0, 1) := by decide +kernel
theorem dX10_heirs_20 : decode cX10_heirs 20 = .ok (.getfield 96, 3) := by decide +kernel
theorem dX10_heirs_23 : decode cX10_heirs 23 = .ok (.ishl, 1) := by decide +kernel
theorem dX10_heirs_24 : decode cX10_heirs 24 = .ok (.iconst 1, 1) := by decide +kernel
theorem dX10_heirs_25 : decode cX10_heirs 25 = .ok (.isub, 1) := by decide +kernel
theorem dX10_heirs_26 : decode cX10_heirs 26 = .ok (.i2l, 1) := by decide +kernel
theorem dX10_heirs_27 : decode cX10_heirs 27 = .ok (.invokestatic 99, 3) := by decide +kernel
theorem dX10_heirs_30 : decode cX10_heirs 30 = .ok (.ifCond .eq 11, 3) := by decide +kernel
theorem dX10_heirs_33 : decode cX10_heirs 33 = .ok (.iload_n 2, 1) := by decide +kernel
theorem dX10_heirs_34 : decode cX10_heirs 34 = .ok (.iload_n 1, 1) := by decide +kernel
theorem dX10_heirs_35 : decode cX10_heirs 35 = .ok (.invokestatic 160, 3) := by decide +kernel
theorem dX10_heirs_38 : decode cX10_heirs 38 = .ok (.ifCond .eq 6, 3) := by decide +kernel
theorem dX10_heirs_41 : decode cX10_heirs 41 = .ok (.bipush (-2), 2) := by decide +kernel
theorem dX10_heirs_43 : decode cX10_heirs 43 = .ok (.ireturn, 1) := by decide +kernel
theorem dX10_heirs_44 : decode cX10_heirs 44 = .ok (.iconst 0, 1) := by decide +kernel
theorem dX10_heirs_45 : decode cX10_heirs 45 = .ok (.istore_n 3, 1) := by decide +kernel
theorem dX10_heirs_46 : decode cX10_heirs 46 = .ok (.bipush (-9), 2) := by decide +kernel
theorem dX10_heirs_48 : decode cX10_heirs 48 = .ok (.istore 4, 2) := by decide +kernel
theorem dX10_heirs_50 : decode cX10_heirs 50 = .ok (.aload_n 0, 1) := by decide +kernel
theorem dX10_heirs_51 : decode cX10_heirs 51 = .ok (.getfield 19, 3) := by decide +kernel
theorem dX10_heirs_54 : decode cX10_heirs 54 = .ok (.iload_n 1, 1) := by decide +kernel
theorem dX10_heirs_55 : decode cX10_heirs 55 = .ok (.baload, 1) := by decide +kernel
theorem dX10_heirs_56 : decode cX10_heirs 56 = .ok (.istore 5, 2) := by decide +kernel
theorem dX10_heirs_58 : decode cX10_heirs 58 = .ok (.aload_n 0, 1) := by decide +kernel
theorem dX10_heirs_59 : decode cX10_heirs 59 = .ok (.getfield 96, 3) := by decide +kernel
theorem dX10_heirs_62 : decode cX10_heirs 62 = .ok (.iconst 1, 1) := by decide +kernel
theorem dX10_heirs_63 : decode cX10_heirs 63 = .ok (.isub, 1) := by decide +kernel
theorem dX10_heirs_64 : decode cX10_heirs 64 = .ok (.istore 6, 2) := by decide +kernel
theorem dX10_heirs_66 : decode cX10_heirs 66 = .ok (.iload 6, 2) := by decide +kernel
theorem dX10_heirs_68 : decode cX10_heirs 68 = .ok (.ifCond .lt 47, 3) := by decide +kernel
theorem dX10_heirs_71 : decode cX10_heirs 71 = .ok (.iload_n 2, 1) := by decide +kernel
theorem dX10_heirs_72 : decode cX10_heirs 72 = .ok (.iload 6, 2) := by decide +kernel
theorem dX10_heirs_74 : decode cX10_heirs 74 = .ok (.invokestatic 160, 3) := by decide +kernel
theorem dX10_heirs_77 : decode cX10_heirs 77 = .ok (.ifCond .eq 32, 3) := by decide +kernel
theorem dX10_heirs_80 : decode cX10_heirs 80 = .ok (.iinc 3 1, 3) := by decide +kernel
theorem dX10_heirs_83 : decode cX10_heirs 83 = .ok (.iload 6, 2) := by decide +kernel
theorem dX10_heirs_85 : decode cX10_heirs 85 = .ok (.istore 4, 2) := by decide +kernel
theorem dX10_heirs_87 : decode cX10_heirs 87 = .ok (.iload 5, 2) := by decide +kernel
theorem dX10_heirs_89 : decode cX10_heirs 89 = .ok (.ifCond .ne 13, 3) := by decide +kernel
theorem dX10_heirs_92 : decode cX10_heirs 92 = .ok (.aload_n 0, 1) := by decide +kernel
theorem dX10_heirs_93 : decode cX10_heirs 93 = .ok (.getfield 19, 3) := by decide +kernel
theorem dX10_heirs_96 : decode cX10_heirs 96 = .ok (.iload 6, 2) := by decide +kernel
theorem dX10_heirs_98 : decode cX10_heirs 98 = .ok (.baload, 1) := by decide +kernel
theorem dX10_heirs_99 : decode cX10_heirs 99 = .ok (.ifCond .eq 7, 3) := by decide +kernel
theorem dX10_heirs_102 : decode cX10_heirs 102 = .ok (.iconst 1, 1) := by decide +kernel
theorem dX10_heirs_103 : decode cX10_heirs 103 = .ok (.goto 4, 3) := by decide +kernel
theorem dX10_heirs_106 : decode cX10_heirs 106 = .ok (.iconst 0, 1) := by decide +kernel
theorem dX10_heirs_107 : decode cX10_heirs 107 = .ok (.istore 5, 2) := by decide +kernel
theorem dX10_heirs_109 : decode cX10_heirs 109 = .ok (.iinc 6 (-1), 3) := by decide +kernel
theorem dX10_heirs_112 : decode cX10_heirs 112 = .ok (.goto (-46), 3) := by decide +kernel
theorem dX10_heirs_115 : decode cX10_heirs 115 = .ok (.iload 5, 2) := by decide +kernel
theorem dX10_heirs_117 : decode cX10_heirs 117 = .ok (.ifCond .eq 6, 3) := by decide +kernel
theorem dX10_heirs_120 : decode cX10_heirs 120 = .ok (.bipush (-3), 2) := by decide +kernel
theorem dX10_heirs_122 : decode cX10_heirs 122 = .ok (.ireturn, 1) := by decide +kernel
theorem dX10_heirs_123 : decode cX10_heirs 123 = .ok (.aload_n 0, 1) := by decide +kernel
theorem dX10_heirs_124 : decode cX10_heirs 124 = .ok (.invokevirtual 173, 3) := by decide +kernel
theorem dX10_heirs_127 : decode cX10_heirs 127 = .ok (.aload_n 0, 1) := by decide +kernel
theorem dX10_heirs_128 : decode cX10_heirs 128 = .ok (.getfield 13, 3) := by decide +kernel
theorem dX10_heirs_131 : decode cX10_heirs 131 = .ok (.iload_n 1, 1) := by decide +kernel
theorem dX10_heirs_132 : decode cX10_heirs 132 = .ok (.iaload, 1) := by decide +kernel
theorem dX10_heirs_133 : decode cX10_heirs 133 = .ok (.iload_n 3, 1) := by decide +kernel
theorem dX10_heirs_134 : decode cX10_heirs 134 = .ok (.idiv, 1) := by decide +kernel
theorem dX10_heirs_135 : decode cX10_heirs 135 = .ok (.istore 6, 2) := by decide +kernel
theorem dX10_heirs_137 : decode cX10_heirs 137 = .ok (.aload_n 0, 1) := by decide +kernel
theorem dX10_heirs_138 : decode cX10_heirs 138 = .ok (.getfield 13, 3) := by decide +kernel
theorem dX10_heirs_141 : decode cX10_heirs 141 = .ok (.iload 4, 2) := by decide +kernel
theorem dX10_heirs_143 : decode cX10_heirs 143 = .ok (.dup2, 1) := by decide +kernel
theorem dX10_heirs_144 : decode cX10_heirs 144 = .ok (.iaload, 1) := by decide +kernel
theorem dX10_heirs_145 : decode cX10_heirs 145 = .ok (.aload_n 0, 1) := by decide +kernel
theorem dX10_heirs_146 : decode cX10_heirs 146 = .ok (.getfield 13, 3) := by decide +kernel
theorem dX10_heirs_149 : decode cX10_heirs 149 = .ok (.iload_n 1, 1) := by decide +kernel
theorem dX10_heirs_150 : decode cX10_heirs 150 = .ok (.iaload, 1) := by decide +kernel
theorem dX10_heirs_151 : decode cX10_heirs 151 = .ok (.iload_n 3, 1) := by decide +kernel
theorem dX10_heirs_152 : decode cX10_heirs 152 = .ok (.irem, 1) := by decide +kernel
theorem dX10_heirs_153 : decode cX10_heirs 153 = .ok (.iadd, 1) := by decide +kernel
theorem dX10_heirs_154 : decode cX10_heirs 154 = .ok (.iastore, 1) := by decide +kernel
theorem dX10_heirs_155 : decode cX10_heirs 155 = .ok (.iconst 0, 1) := by decide +kernel
theorem dX10_heirs_156 : decode cX10_heirs 156 = .ok (.istore 7, 2) := by decide +kernel
theorem dX10_heirs_158 : decode cX10_heirs 158 = .ok (.iload 7, 2) := by decide +kernel
theorem dX10_heirs_160 : decode cX10_heirs 160 = .ok (.aload_n 0, 1) := by decide +kernel
theorem dX10_heirs_161 : decode cX10_heirs 161 = .ok (.getfield 96, 3) := by decide +kernel
theorem dX10_heirs_164 : decode cX10_heirs 164 = .ok (.if_icmp .ge 34, 3) := by decide +kernel
theorem dX10_heirs_167 : decode cX10_heirs 167 = .ok (.aload_n 0, 1) := by decide +kernel
theorem dX10_heirs_168 : decode cX10_heirs 168 = .ok (.getfield 13, 3) := by decide +kernel
theorem dX10_heirs_171 : decode cX10_heirs 171 = .ok (.iload 7, 2) := by decide +kernel
theorem dX10_heirs_173 : decode cX10_heirs 173 = .ok (.dup2, 1) := by decide +kernel
theorem dX10_heirs_174 : decode cX10_heirs 174 = .ok (.iaload, 1) := by decide +kernel
theorem dX10_heirs_175 : decode cX10_heirs 175 = .ok (.iload_n 2, 1) := by decide +kernel
theorem dX10_heirs_176 : decode cX10_heirs 176 = .ok (.iload 7, 2) := by decide +kernel
theorem dX10_heirs_178 : decode cX10_heirs 178 = .ok (.invokestatic 160, 3) := by decide +kernel
theorem dX10_heirs_181 : decode cX10_heirs 181 = .ok (.ifCond .eq 8, 3) := by decide +kernel
theorem dX10_heirs_184 : decode cX10_heirs 184 = .ok (.iload 6, 2) := by decide +kernel
theorem dX10_heirs_186 : decode cX10_heirs 186 = .ok (.goto 4, 3) := by decide +kernel
theorem dX10_heirs_189 : decode cX10_heirs 189 = .ok (.iconst 0, 1) := by decide +kernel
theorem dX10_heirs_190 : decode cX10_heirs 190 = .ok (.iadd, 1) := by decide +kernel
theorem dX10_heirs_191 : decode cX10_heirs 191 = .ok (.iastore, 1) := by decide +kernel
theorem dX10_heirs_192 : decode cX10_heirs 192 = .ok (.iinc 7 1, 3) := by decide +kernel
theorem dX10_heirs_195 : decode cX10_heirs 195 = .ok (.goto (-37), 3) := by decide +kernel
theorem dX10_heirs_198 : decode cX10_heirs 198 = .ok (.aload_n 0, 1) := by decide +kernel
theorem dX10_heirs_199 : decode cX10_heirs 199 = .ok (.getfield 13, 3) := by decide +kernel
theorem dX10_heirs_202 : decode cX10_heirs 202 = .ok (.iload_n 1, 1) := by decide +kernel
theorem dX10_heirs_203 : decode cX10_heirs 203 = .ok (.iconst 0, 1) := by decide +kernel
theorem dX10_heirs_204 : decode cX10_heirs 204 = .ok (.iastore, 1) := by decide +kernel
theorem dX10_heirs_205 : decode cX10_heirs 205 = .ok (.aload_n 0, 1) := by decide +kernel
theorem dX10_heirs_206 : decode cX10_heirs 206 = .ok (.getfield 19, 3) := by decide +kernel
theorem dX10_heirs_209 : decode cX10_heirs 209 = .ok (.iload_n 1, 1) := by decide +kernel
theorem dX10_heirs_210 : decode cX10_heirs 210 = .ok (.iconst 1, 1) := by decide +kernel
theorem dX10_heirs_211 : decode cX10_heirs 211 = .ok (.bastore, 1) := by decide +kernel
theorem dX10_heirs_212 : decode cX10_heirs 212 = .ok (.iconst 0, 1) := by decide +kernel
theorem dX10_heirs_213 : decode cX10_heirs 213 = .ok (.istore 7, 2) := by decide +kernel
theorem dX10_heirs_215 : decode cX10_heirs 215 = .ok (.iconst 0, 1) := by decide +kernel
theorem dX10_heirs_216 : decode cX10_heirs 216 = .ok (.istore 8, 2) := by decide +kernel
theorem dX10_heirs_218 : decode cX10_heirs 218 = .ok (.iload 8, 2) := by decide +kernel
theorem dX10_heirs_220 : decode cX10_heirs 220 = .ok (.aload_n 0, 1) := by decide +kernel
theorem dX10_heirs_221 : decode cX10_heirs 221 = .ok (.getfield 135, 3) := by decide +kernel
theorem dX10_heirs_224 : decode cX10_heirs 224 = .ok (.if_icmp .ge 98, 3) := by decide +kernel
theorem dX10_heirs_227 : decode cX10_heirs 227 = .ok (.aload_n 0, 1) := by decide +kernel
theorem dX10_heirs_228 : decode cX10_heirs 228 = .ok (.getfield 26, 3) := by decide +kernel
theorem dX10_heirs_231 : decode cX10_heirs 231 = .ok (.iload 8, 2) := by decide +kernel
theorem dX10_heirs_233 : decode cX10_heirs 233 = .ok (.aload_n 0, 1) := by decide +kernel
theorem dX10_heirs_234 : decode cX10_heirs 234 = .ok (.getfield 26, 3) := by decide +kernel
theorem dX10_heirs_237 : decode cX10_heirs 237 = .ok (.iload 8, 2) := by decide +kernel
theorem dX10_heirs_239 : decode cX10_heirs 239 = .ok (.iaload, 1) := by decide +kernel
theorem dX10_heirs_240 : decode cX10_heirs 240 = .ok (.iload_n 1, 1) := by decide +kernel
theorem dX10_heirs_241 : decode cX10_heirs 241 = .ok (.if_icmp .ne 8, 3) := by decide +kernel
theorem dX10_heirs_244 : decode cX10_heirs 244 = .ok (.iload 4, 2) := by decide +kernel
theorem dX10_heirs_246 : decode cX10_heirs 246 = .ok (.goto 10, 3) := by decide +kernel
theorem dX10_heirs_249 : decode cX10_heirs 249 = .ok (.aload_n 0, 1) := by decide +kernel
theorem dX10_heirs_250 : decode cX10_heirs 250 = .ok (.getfield 26, 3) := by decide +kernel
theorem dX10_heirs_253 : decode cX10_heirs 253 = .ok (.iload 8, 2) := by decide +kernel
theorem dX10_heirs_255 : decode cX10_heirs 255 = .ok (.iaload, 1) := by decide +kernel
theorem dX10_heirs_256 : decode cX10_heirs 256 = .ok (.iastore, 1) := by decide +kernel
theorem dX10_heirs_257 : decode cX10_heirs 257 = .ok (.aload_n 0, 1) := by decide +kernel
theorem dX10_heirs_258 : decode cX10_heirs 258 = .ok (.getfield 29, 3) := by decide +kernel
theorem dX10_heirs_261 : decode cX10_heirs 261 = .ok (.iload 8, 2) := by decide +kernel
theorem dX10_heirs_263 : decode cX10_heirs 263 = .ok (.aload_n 0, 1) := by decide +kernel
theorem dX10_heirs_264 : decode cX10_heirs 264 = .ok (.getfield 29, 3) := by decide +kernel
theorem dX10_heirs_267 : decode cX10_heirs 267 = .ok (.iload 8, 2) := by decide +kernel
theorem dX10_heirs_269 : decode cX10_heirs 269 = .ok (.iaload, 1) := by decide +kernel
theorem dX10_heirs_270 : decode cX10_heirs 270 = .ok (.iload_n 1, 1) := by decide +kernel
theorem dX10_heirs_271 : decode cX10_heirs 271 = .ok (.if_icmp .ne 8, 3) := by decide +kernel
theorem dX10_heirs_274 : decode cX10_heirs 274 = .ok (.iload 4, 2) := by decide +kernel
theorem dX10_heirs_276 : decode cX10_heirs 276 = .ok (.goto 10, 3) := by decide +kernel
theorem dX10_heirs_279 : decode cX10_heirs 279 = .ok (.aload_n 0, 1) := by decide +kernel
theorem dX10_heirs_280 : decode cX10_heirs 280 = .ok (.getfield 29, 3) := by decide +kernel
theorem dX10_heirs_283 : decode cX10_heirs 283 = .ok (.iload 8, 2) := by decide +kernel
theorem dX10_heirs_285 : decode cX10_heirs 285 = .ok (.iaload, 1) := by decide +kernel
theorem dX10_heirs_286 : decode cX10_heirs 286 = .ok (.iastore, 1) := by decide +kernel
theorem dX10_heirs_287 : decode cX10_heirs 287 = .ok (.aload_n 0, 1) := by decide +kernel
theorem dX10_heirs_288 : decode cX10_heirs 288 = .ok (.getfield 26, 3) := by decide +kernel
theorem dX10_heirs_291 : decode cX10_heirs 291 = .ok (.iload 8, 2) := by decide +kernel
theorem dX10_heirs_293 : decode cX10_heirs 293 = .ok (.iaload, 1) := by decide +kernel
theorem dX10_heirs_294 : decode cX10_heirs 294 = .ok (.aload_n 0, 1) := by decide +kernel
theorem dX10_heirs_295 : decode cX10_heirs 295 = .ok (.getfield 29, 3) := by decide +kernel
theorem dX10_heirs_298 : decode cX10_heirs 298 = .ok (.iload 8, 2) := by decide +kernel
theorem dX10_heirs_300 : decode cX10_heirs 300 = .ok (.iaload, 1) := by decide +kernel
theorem dX10_heirs_301 : decode cX10_heirs 301 = .ok (.if_icmp .ne 15, 3) := by decide +kernel
theorem dX10_heirs_304 : decode cX10_heirs 304 = .ok (.aload_n 0, 1) := by decide +kernel
theorem dX10_heirs_305 : decode cX10_heirs 305 = .ok (.iload 8, 2) := by decide +kernel
theorem dX10_heirs_307 : decode cX10_heirs 307 = .ok (.invokevirtual 176, 3) := by decide +kernel
theorem dX10_heirs_310 : decode cX10_heirs 310 = .ok (.iinc 7 1, 3) := by decide +kernel
theorem dX10_heirs_313 : decode cX10_heirs 313 = .ok (.goto (-95), 3) := by decide +kernel
theorem dX10_heirs_316 : decode cX10_heirs 316 = .ok (.iinc 8 1, 3) := by decide +kernel
theorem dX10_heirs_319 : decode cX10_heirs 319 = .ok (.goto (-101), 3) := by decide +kernel
theorem dX10_heirs_322 : decode cX10_heirs 322 = .ok (.iload 7, 2) := by decide +kernel
theorem dX10_heirs_324 : decode cX10_heirs 324 = .ok (.ireturn, 1) := by decide +kernel
set_option maxRecDepth 20000 in
theorem ggX10_jubilee_X10_note : GoodIn wsX10_jubilee wsX10_note := goodIn_r _ [9, 10, 11, 12, 13, 14, 8, 15, 16, 17, 18, 4, 19, 20, 21, 22, 2, 23, 24, 25, 26, 27, 28, 29, 30, 31, 32, 33, 34, 35, 36, 37, 38, 39, 40, 41, 42, 43, 44, 45, 46, 47, 48, 49, 50, 51, 52, 53, 54, 55, 56, 57, 58, 59, 60, 61] (by decide +kernel) (by decide +kernel)
set_option maxRecDepth 20000 in
theorem gX10_jubilee_X10_note : GoodIn wsX10_jubilee (wsV RX10 173 RX10 yX10_note wsX10_note) := goodIn_app (goodIn_of _ (by decide +kernel)) ggX10_jubilee_X10_note
theorem dX10_jubilee_0 : decode cX10_jubilee 0 = .ok (.aload_n 0, 1) := by decide +kernel
theorem dX10_jubilee_1 : decode cX10_jubilee 1 = .ok (.iconst 0, 1) := by decide +kernel
theorem dX10_jubilee_2 : decode cX10_jubilee 2 = .ok (.putfield 92, 3) := by decide +kernel
theorem dX10_jubilee_5 : decode cX10_jubilee 5 = .ok (.aload_n 0, 1) := by decide +kernel
theorem dX10_jubilee_6 : decode cX10_jubilee 6 = .ok (.invokevirtual 173, 3) := by decide +kernel
theorem dX10_jubilee_9 : decode cX10_jubilee 9 = .ok (.aload_n 0, 1) := by decide +kernel
theorem dX10_jubilee_10 : decode cX10_jubilee 10 = .ok (.getfield 135, 3) := by decide +kernel
theorem dX10_jubilee_13 : decode cX10_jubilee 13 = .ok (.istore_n 1, 1) := by decide +kernel
theorem dX10_jubilee_14 : decode cX10_jubilee 14 = .ok (.aload_n 0, 1) := by decide +kernel
theorem dX10_jubilee_15 : decode cX10_jubilee 15 = .ok (.iconst 0, 1) := by decide +kernel
theorem dX10_jubilee_16 : decode cX10_jubilee 16 = .ok (.putfield 135, 3) := by decide +kernel
theorem dX10_jubilee_19 : decode cX10_jubilee 19 = .ok (.iconst 0, 1) := by decide +kernel
theorem dX10_jubilee_20 : decode cX10_jubilee 20 = .ok (.istore_n 2, 1) := by decide +kernel
theorem dX10_jubilee_21 : decode cX10_jubilee 21 = .ok (.iload_n 2, 1) := by decide +kernel
theorem dX10_jubilee_22 : decode cX10_jubilee 22 = .ok (.aload_n 0, 1) := by decide +kernel
theorem dX10_jubilee_23 : decode cX10_jubilee 23 = .ok (.getfield 96, 3) := by decide +kernel
theorem dX10_jubilee_26 : decode cX10_jubilee 26 = .ok (.if_icmp .ge 16, 3) := by decide +kernel
theorem dX10_jubilee_29 : decode cX10_jubilee 29 = .ok (.aload_n 0, 1) := by decide +kernel
theorem dX10_jubilee_30 : decode cX10_jubilee 30 = .ok (.getfield 23, 3) := by decide +kernel
theorem dX10_jubilee_33 : decode cX10_jubilee 33 = .ok (.iload_n 2, 1) := by decide +kernel
theorem dX10_jubilee_34 : decode cX10_jubilee 34 = .ok (.iconst 0, 1) := by decide +kernel
theorem dX10_jubilee_35 : decode cX10_jubilee 35 = .ok (.bastore, 1) := by decide +kernel
theorem dX10_jubilee_36 : decode cX10_jubilee 36 = .ok (.iinc 2 1, 3) := by decide +kernel
theorem dX10_jubilee_39 : decode cX10_jubilee 39 = .ok (.goto (-18), 3) := by decide +kernel
theorem dX10_jubilee_42 : decode cX10_jubilee 42 = .ok (.iload_n 1, 1) := by decide +kernel
theorem dX10_jubilee_43 : decode cX10_jubilee 43 = .ok (.ireturn, 1) := by decide +kernel
set_option maxRecDepth 20000 in
theorem ggX10_undo_X10_takePage : GoodIn wsX10_undo wsX10_takePage := goodIn_r _ [8, 9, 10, 11, 12, 13, 14, 15, 16, 17, 18, 19, 20, 7, 21, 22, 23, 24, 25, 26, 27, 28, 29, 30, 31, 32, 33, 34, 35, 36, 37, 38, 39, 40, 41, 42, 43, 44, 45, 46, 47, 48, 49, 50, 51, 52, 53, 54, 55, 56, 57, 58, 59] (by decide +kernel) (by decide +kernel)
set_option maxRecDepth 20000 in
theorem gX10_undo_X10_takePage : GoodIn wsX10_undo (wsV RX10 180 RX10 yX10_takePage wsX10_takePage) := goodIn_app (goodIn_of _ (by decide +kernel)) ggX10_undo_X10_takePage
theorem dX10_undo_0 : decode cX10_undo 0 = .ok (.aload_n 0, 1) := by decide +kernel
theorem dX10_undo_1 : decode cX10_undo 1 = .ok (.iconst 0, 1) := by decide +kernel
theorem dX10_undo_2 : decode cX10_undo 2 = .ok (.putfield 92, 3) := by decide +kernel
theorem dX10_undo_5 : decode cX10_undo 5 = .ok (.aload_n 0, 1) := by decide +kernel
theorem dX10_undo_6 : decode cX10_undo 6 = .ok (.getfield 141, 3) := by decide +kernel
theorem dX10_undo_9 : decode cX10_undo 9 = .ok (.ifCond .ne 6, 3) := by decide +kernel
theorem dX10_undo_12 : decode cX10_undo 12 = .ok (.bipush (-3), 2) := by decide +kernel
theorem dX10_undo_14 : decode cX10_undo 14 = .ok (.ireturn, 1) := by decide +kernel
theorem dX10_undo_15 : decode cX10_undo 15 = .ok (.aload_n 0, 1) := by decide +kernel
theorem dX10_undo_16 : decode cX10_undo 16 = .ok (.dup, 1) := by decide +kernel
theorem dX10_undo_17 : decode cX10_undo 17 = .ok (.getfield 141, 3) := by decide +kernel
theorem dX10_undo_20 : decode cX10_undo 20 = .ok (.iconst 1, 1) := by decide +kernel
theorem dX10_undo_21 : decode cX10_undo 21 = .ok (.isub, 1) := by decide +kernel
theorem dX10_undo_22 : decode cX10_undo 22 = .ok (.putfield 141, 3) := by decide +kernel
theorem dX10_undo_25 : decode cX10_undo 25 = .ok (.aload_n 0, 1) := by decide +kernel
theorem dX10_undo_26 : decode cX10_undo 26 = .ok (.aload_n 0, 1) := by decide +kernel
theorem dX10_undo_27 : decode cX10_undo 27 = .ok (.getfield 56, 3) := by decide +kernel
theorem dX10_undo_30 : decode cX10_undo 30 = .ok (.bipush 74, 2) := by decide +kernel
theorem dX10_undo_32 : decode cX10_undo 32 = .ok (.aload_n 0, 1) := by decide +kernel
theorem dX10_undo_33 : decode cX10_undo 33 = .ok (.getfield 141, 3) := by decide +kernel
theorem dX10_undo_36 : decode cX10_undo 36 = .ok (.imul, 1) := by decide +kernel
theorem dX10_undo_37 : decode cX10_undo 37 = .ok (.invokevirtual 180, 3) := by decide +kernel
theorem dX10_undo_40 : decode cX10_undo 40 = .ok (.aload_n 0, 1) := by decide +kernel
theorem dX10_undo_41 : decode cX10_undo 41 = .ok (.getfield 141, 3) := by decide +kernel
theorem dX10_undo_44 : decode cX10_undo 44 = .ok (.ireturn, 1) := by decide +kernel
set_option maxRecDepth 20000 in
theorem ggX10_fewest_X10_owedAll : GoodIn wsX10_fewest wsX10_owedAll := goodIn_r _ [8, 9, 10, 11, 20, 21, 22, 23, 24, 25, 26, 27, 28, 29, 30, 31, 32, 33, 34, 35, 36, 37, 38, 39, 40, 41, 42, 43, 44, 45, 46, 47, 48, 49, 50, 51, 52, 53, 54, 55, 56, 57] (by decide +kernel) (by decide +kernel)
set_option maxRecDepth 20000 in
theorem gX10_fewest_X10_owedAll : GoodIn wsX10_fewest (wsV RX10 155 RX10 yX10_owedAll wsX10_owedAll) := goodIn_app (goodIn_of _ (by decide +kernel)) ggX10_fewest_X10_owedAll
set_option maxRecDepth 20000 in
theorem ggX10_fewest_X10_owesAll : GoodIn wsX10_fewest wsX10_owesAll := goodIn_r _ [15, 9, 16, 11, 20, 21, 22, 23, 24, 25, 26, 27, 28, 29, 30, 31, 32, 33, 34, 35, 36, 37, 38, 39, 40, 41, 42, 43, 44, 45, 46, 47, 48, 49, 50, 51, 52, 53, 54, 55, 56, 57] (by decide +kernel) (by decide +kernel)
set_option maxRecDepth 20000 in
theorem gX10_fewest_X10_owesAll : GoodIn wsX10_fewest (wsV RX10 144 RX10 yX10_owesAll wsX10_owesAll) := goodIn_app (goodIn_of _ (by decide +kernel)) ggX10_fewest_X10_owesAll
set_option maxRecDepth 20000 in
theorem ggX10_fewest_X10_has : GoodIn wsX10_fewest wsX10_has := goodIn_r _ [19] (by decide +kernel) (by decide +kernel)
set_option maxRecDepth 20000 in
theorem gX10_fewest_X10_has : GoodIn wsX10_fewest (va_wsS RX10 160 yX10_has wsX10_has) := goodIn_app (goodIn_of _ (by decide +kernel)) ggX10_fewest_X10_has
theorem dX10_fewest_0 : decode cX10_fewest 0 = .ok (.aload_n 0, 1) := by decide +kernel
theorem dX10_fewest_1 : decode cX10_fewest 1 = .ok (.iconst 0, 1) := by decide +kernel
theorem dX10_fewest_2 : decode cX10_fewest 2 = .ok (.putfield 92, 3) := by decide +kernel
theorem dX10_fewest_5 : decode cX10_fewest 5 = .ok (.iconst 0, 1) := by decide +kernel
theorem dX10_fewest_6 : decode cX10_fewest 6 = .ok (.istore_n 1, 1) := by decide +kernel
theorem dX10_fewest_7 : decode cX10_fewest 7 = .ok (.iconst 0, 1) := by decide +kernel
theorem dX10_fewest_8 : decode cX10_fewest 8 = .ok (.istore_n 2, 1) := by decide +kernel
theorem dX10_fewest_9 : decode cX10_fewest 9 = .ok (.iload_n 2, 1) := by decide +kernel
theorem dX10_fewest_10 : decode cX10_fewest 10 = .ok (.aload_n 0, 1) := by decide +kernel
theorem dX10_fewest_11 : decode cX10_fewest 11 = .ok (.getfield 96, 3) := by decide +kernel
theorem dX10_fewest_14 : decode cX10_fewest 14 = .ok (.if_icmp .ge 32, 3) := by decide +kernel
theorem dX10_fewest_17 : decode cX10_fewest 17 = .ok (.iload_n 1, 1) := by decide +kernel
theorem dX10_fewest_18 : decode cX10_fewest 18 = .ok (.aload_n 0, 1) := by decide +kernel
theorem dX10_fewest_19 : decode cX10_fewest 19 = .ok (.iload_n 2, 1) := by decide +kernel
theorem dX10_fewest_20 : decode cX10_fewest 20 = .ok (.invokevirtual 155, 3) := by decide +kernel
theorem dX10_fewest_23 : decode cX10_fewest 23 = .ok (.aload_n 0, 1) := by decide +kernel
theorem dX10_fewest_24 : decode cX10_fewest 24 = .ok (.iload_n 2, 1) := by decide +kernel
theorem dX10_fewest_25 : decode cX10_fewest 25 = .ok (.invokevirtual 144, 3) := by decide +kernel
theorem dX10_fewest_28 : decode cX10_fewest 28 = .ok (.if_icmp .ne 7, 3) := by decide +kernel
theorem dX10_fewest_31 : decode cX10_fewest 31 = .ok (.iconst 0, 1) := by decide +kernel
theorem dX10_fewest_32 : decode cX10_fewest 32 = .ok (.goto 6, 3) := by decide +kernel
theorem dX10_fewest_35 : decode cX10_fewest 35 = .ok (.iconst 1, 1) := by decide +kernel
theorem dX10_fewest_36 : decode cX10_fewest 36 = .ok (.iload_n 2, 1) := by decide +kernel
theorem dX10_fewest_37 : decode cX10_fewest 37 = .ok (.ishl, 1) := by decide +kernel
theorem dX10_fewest_38 : decode cX10_fewest 38 = .ok (.ior, 1) := by decide +kernel
theorem dX10_fewest_39 : decode cX10_fewest 39 = .ok (.istore_n 1, 1) := by decide +kernel
theorem dX10_fewest_40 : decode cX10_fewest 40 = .ok (.iinc 2 1, 3) := by decide +kernel
theorem dX10_fewest_43 : decode cX10_fewest 43 = .ok (.goto (-34), 3) := by decide +kernel
theorem dX10_fewest_46 : decode cX10_fewest 46 = .ok (.iconst 0, 1) := by decide +kernel
theorem dX10_fewest_47 : decode cX10_fewest 47 = .ok (.istore_n 2, 1) := by decide +kernel
theorem dX10_fewest_48 : decode cX10_fewest 48 = .ok (.iconst 0, 1) := by decide +kernel
theorem dX10_fewest_49 : decode cX10_fewest 49 = .ok (.istore_n 3, 1) := by decide +kernel
theorem dX10_fewest_50 : decode cX10_fewest 50 = .ok (.iload_n 3, 1) := by decide +kernel
theorem dX10_fewest_51 : decode cX10_fewest 51 = .ok (.iconst 1, 1) := by decide +kernel
theorem dX10_fewest_52 : decode cX10_fewest 52 = .ok (.aload_n 0, 1) := by decide +kernel
theorem dX10_fewest_53 : decode cX10_fewest 53 = .ok (.getfield 96, 3) := by decide +kernel
theorem dX10_fewest_56 : decode cX10_fewest 56 = .ok (.ishl, 1) := by decide +kernel
theorem dX10_fewest_57 : decode cX10_fewest 57 = .ok (.if_icmp .ge 114, 3) := by decide +kernel
theorem dX10_fewest_60 : decode cX10_fewest 60 = .ok (.iconst 0, 1) := by decide +kernel
theorem dX10_fewest_61 : decode cX10_fewest 61 = .ok (.istore 4, 2) := by decide +kernel
theorem dX10_fewest_63 : decode cX10_fewest 63 = .ok (.iconst 0, 1) := by decide +kernel
theorem dX10_fewest_64 : decode cX10_fewest 64 = .ok (.istore 5, 2) := by decide +kernel
theorem dX10_fewest_66 : decode cX10_fewest 66 = .ok (.iconst 0, 1) := by decide +kernel
theorem dX10_fewest_67 : decode cX10_fewest 67 = .ok (.istore 6, 2) := by decide +kernel
theorem dX10_fewest_69 : decode cX10_fewest 69 = .ok (.iload 6, 2) := by decide +kernel
theorem dX10_fewest_71 : decode cX10_fewest 71 = .ok (.aload_n 0, 1) := by decide +kernel
theorem dX10_fewest_72 : decode cX10_fewest 72 = .ok (.getfield 96, 3) := by decide +kernel
theorem dX10_fewest_75 : decode cX10_fewest 75 = .ok (.if_icmp .ge 67, 3) := by decide +kernel
theorem dX10_fewest_78 : decode cX10_fewest 78 = .ok (.iload_n 3, 1) := by decide +kernel
theorem dX10_fewest_79 : decode cX10_fewest 79 = .ok (.iload 6, 2) := by decide +kernel
theorem dX10_fewest_81 : decode cX10_fewest 81 = .ok (.invokestatic 160, 3) := by decide +kernel
theorem dX10_fewest_84 : decode cX10_fewest 84 = .ok (.ifCond .eq 52, 3) := by decide +kernel
theorem dX10_fewest_87 : decode cX10_fewest 87 = .ok (.iload 4, 2) := by decide +kernel
theorem dX10_fewest_89 : decode cX10_fewest 89 = .ok (.aload_n 0, 1) := by decide +kernel
theorem dX10_fewest_90 : decode cX10_fewest 90 = .ok (.iload 6, 2) := by decide +kernel
theorem dX10_fewest_92 : decode cX10_fewest 92 = .ok (.invokevirtual 155, 3) := by decide +kernel
theorem dX10_fewest_95 : decode cX10_fewest 95 = .ok (.aload_n 0, 1) := by decide +kernel
theorem dX10_fewest_96 : decode cX10_fewest 96 = .ok (.iload 6, 2) := by decide +kernel
theorem dX10_fewest_98 : decode cX10_fewest 98 = .ok (.invokevirtual 144, 3) := by decide +kernel
theorem dX10_fewest_101 : decode cX10_fewest 101 = .ok (.isub, 1) := by decide +kernel
theorem dX10_fewest_102 : decode cX10_fewest 102 = .ok (.iadd, 1) := by decide +kernel
theorem dX10_fewest_103 : decode cX10_fewest 103 = .ok (.istore 4, 2) := by decide +kernel
theorem dX10_fewest_105 : decode cX10_fewest 105 = .ok (.aload_n 0, 1) := by decide +kernel
theorem dX10_fewest_106 : decode cX10_fewest 106 = .ok (.getfield 74, 3) := by decide +kernel
theorem dX10_fewest_109 : decode cX10_fewest 109 = .ok (.iload_n 3, 1) := by decide +kernel
theorem dX10_fewest_110 : decode cX10_fewest 110 = .ok (.iconst 1, 1) := by decide +kernel
theorem dX10_fewest_111 : decode cX10_fewest 111 = .ok (.iload 6, 2) := by decide +kernel
theorem dX10_fewest_113 : decode cX10_fewest 113 = .ok (.ishl, 1) := by decide +kernel
theorem dX10_fewest_114 : decode cX10_fewest 114 = .ok (.iconst (-1), 1) := by decide +kernel
theorem dX10_fewest_115 : decode cX10_fewest 115 = .ok (.ixor, 1) := by decide +kernel
theorem dX10_fewest_116 : decode cX10_fewest 116 = .ok (.iand, 1) := by decide +kernel
theorem dX10_fewest_117 : decode cX10_fewest 117 = .ok (.iaload, 1) := by decide +kernel
theorem dX10_fewest_118 : decode cX10_fewest 118 = .ok (.istore 7, 2) := by decide +kernel
theorem dX10_fewest_120 : decode cX10_fewest 120 = .ok (.iload 7, 2) := by decide +kernel
theorem dX10_fewest_122 : decode cX10_fewest 122 = .ok (.iload 5, 2) := by decide +kernel
theorem dX10_fewest_124 : decode cX10_fewest 124 = .ok (.if_icmp .le 8, 3) := by decide +kernel
theorem dX10_fewest_127 : decode cX10_fewest 127 = .ok (.iload 7, 2) := by decide +kernel
theorem dX10_fewest_129 : decode cX10_fewest 129 = .ok (.goto 5, 3) := by decide +kernel
theorem dX10_fewest_132 : decode cX10_fewest 132 = .ok (.iload 5, 2) := by decide +kernel
theorem dX10_fewest_134 : decode cX10_fewest 134 = .ok (.istore 5, 2) := by decide +kernel
theorem dX10_fewest_136 : decode cX10_fewest 136 = .ok (.iinc 6 1, 3) := by decide +kernel
theorem dX10_fewest_139 : decode cX10_fewest 139 = .ok (.goto (-70), 3) := by decide +kernel
theorem dX10_fewest_142 : decode cX10_fewest 142 = .ok (.aload_n 0, 1) := by decide +kernel
theorem dX10_fewest_143 : decode cX10_fewest 143 = .ok (.getfield 74, 3) := by decide +kernel
theorem dX10_fewest_146 : decode cX10_fewest 146 = .ok (.iload_n 3, 1) := by decide +kernel
theorem dX10_fewest_147 : decode cX10_fewest 147 = .ok (.iload 5, 2) := by decide +kernel
theorem dX10_fewest_149 : decode cX10_fewest 149 = .ok (.iload_n 3, 1) := by decide +kernel
theorem dX10_fewest_150 : decode cX10_fewest 150 = .ok (.ifCond .eq 12, 3) := by decide +kernel
theorem dX10_fewest_153 : decode cX10_fewest 153 = .ok (.iload 4, 2) := by decide +kernel
theorem dX10_fewest_155 : decode cX10_fewest 155 = .ok (.ifCond .ne 7, 3) := by decide +kernel
theorem dX10_fewest_158 : decode cX10_fewest 158 = .ok (.iconst 1, 1) := by decide +kernel
theorem dX10_fewest_159 : decode cX10_fewest 159 = .ok (.goto 4, 3) := by decide +kernel
theorem dX10_fewest_162 : decode cX10_fewest 162 = .ok (.iconst 0, 1) := by decide +kernel
theorem dX10_fewest_163 : decode cX10_fewest 163 = .ok (.iadd, 1) := by decide +kernel
theorem dX10_fewest_164 : decode cX10_fewest 164 = .ok (.iastore, 1) := by decide +kernel
theorem dX10_fewest_165 : decode cX10_fewest 165 = .ok (.iinc 3 1, 3) := by decide +kernel
theorem dX10_fewest_168 : decode cX10_fewest 168 = .ok (.goto (-118), 3) := by decide +kernel
theorem dX10_fewest_171 : decode cX10_fewest 171 = .ok (.iconst 0, 1) := by decide +kernel
theorem dX10_fewest_172 : decode cX10_fewest 172 = .ok (.istore_n 3, 1) := by decide +kernel
theorem dX10_fewest_173 : decode cX10_fewest 173 = .ok (.iload_n 3, 1) := by decide +kernel
theorem dX10_fewest_174 : decode cX10_fewest 174 = .ok (.aload_n 0, 1) := by decide +kernel
theorem dX10_fewest_175 : decode cX10_fewest 175 = .ok (.getfield 96, 3) := by decide +kernel
theorem dX10_fewest_178 : decode cX10_fewest 178 = .ok (.if_icmp .ge 25, 3) := by decide +kernel
theorem dX10_fewest_181 : decode cX10_fewest 181 = .ok (.iload_n 2, 1) := by decide +kernel
theorem dX10_fewest_182 : decode cX10_fewest 182 = .ok (.iload_n 1, 1) := by decide +kernel
theorem dX10_fewest_183 : decode cX10_fewest 183 = .ok (.iload_n 3, 1) := by decide +kernel
theorem dX10_fewest_184 : decode cX10_fewest 184 = .ok (.invokestatic 160, 3) := by decide +kernel
theorem dX10_fewest_187 : decode cX10_fewest 187 = .ok (.ifCond .eq 7, 3) := by decide +kernel
theorem dX10_fewest_190 : decode cX10_fewest 190 = .ok (.iconst 1, 1) := by decide +kernel
theorem dX10_fewest_191 : decode cX10_fewest 191 = .ok (.goto 4, 3) := by decide +kernel
theorem dX10_fewest_194 : decode cX10_fewest 194 = .ok (.iconst 0, 1) := by decide +kernel
theorem dX10_fewest_195 : decode cX10_fewest 195 = .ok (.iadd, 1) := by decide +kernel
theorem dX10_fewest_196 : decode cX10_fewest 196 = .ok (.istore_n 2, 1) := by decide +kernel
theorem dX10_fewest_197 : decode cX10_fewest 197 = .ok (.iinc 3 1, 3) := by decide +kernel
theorem dX10_fewest_200 : decode cX10_fewest 200 = .ok (.goto (-27), 3) := by decide +kernel
theorem dX10_fewest_203 : decode cX10_fewest 203 = .ok (.iload_n 2, 1) := by decide +kernel
theorem dX10_fewest_204 : decode cX10_fewest 204 = .ok (.aload_n 0, 1) := by decide +kernel
theorem dX10_fewest_205 : decode cX10_fewest 205 = .ok (.getfield 74, 3) := by decide +kernel
theorem dX10_fewest_208 : decode cX10_fewest 208 = .ok (.iload_n 1, 1) := by decide +kernel
theorem dX10_fewest_209 : decode cX10_fewest 209 = .ok (.iaload, 1) := by decide +kernel
theorem dX10_fewest_210 : decode cX10_fewest 210 = .ok (.isub, 1) := by decide +kernel
theorem dX10_fewest_211 : decode cX10_fewest 211 = .ok (.ireturn, 1) := by decide +kernel
set_option maxRecDepth 20000 in
theorem ggX10_owedBy_X10_has : GoodIn wsX10_owedBy wsX10_has := goodIn_r _ [8] (by decide +kernel) (by decide +kernel)
set_option maxRecDepth 20000 in
theorem gX10_owedBy_X10_has : GoodIn wsX10_owedBy (va_wsS RX10 160 yX10_has wsX10_has) := goodIn_app (goodIn_of _ (by decide +kernel)) ggX10_owedBy_X10_has
theorem dX10_owedBy_0 : decode cX10_owedBy 0 = .ok (.iconst 0, 1) := by decide +kernel
theorem dX10_owedBy_1 : decode cX10_owedBy 1 = .ok (.istore_n 3, 1) := by decide +kernel
theorem dX10_owedBy_2 : decode cX10_owedBy 2 = .ok (.iconst 0, 1) := by decide +kernel
theorem dX10_owedBy_3 : decode cX10_owedBy 3 = .ok (.istore 4, 2) := by decide +kernel
theorem dX10_owedBy_5 : decode cX10_owedBy 5 = .ok (.iload 4, 2) := by decide +kernel
theorem dX10_owedBy_7 : decode cX10_owedBy 7 = .ok (.aload_n 0, 1) := by decide +kernel
theorem dX10_owedBy_8 : decode cX10_owedBy 8 = .ok (.getfield 135, 3) := by decide +kernel
theorem dX10_owedBy_11 : decode cX10_owedBy 11 = .ok (.if_icmp .ge 48, 3) := by decide +kernel
theorem dX10_owedBy_14 : decode cX10_owedBy 14 = .ok (.iload_n 3, 1) := by decide +kernel
theorem dX10_owedBy_15 : decode cX10_owedBy 15 = .ok (.aload_n 0, 1) := by decide +kernel
theorem dX10_owedBy_16 : decode cX10_owedBy 16 = .ok (.getfield 26, 3) := by decide +kernel
theorem dX10_owedBy_19 : decode cX10_owedBy 19 = .ok (.iload 4, 2) := by decide +kernel
theorem dX10_owedBy_21 : decode cX10_owedBy 21 = .ok (.iaload, 1) := by decide +kernel
theorem dX10_owedBy_22 : decode cX10_owedBy 22 = .ok (.iload_n 1, 1) := by decide +kernel
theorem dX10_owedBy_23 : decode cX10_owedBy 23 = .ok (.if_icmp .ne 27, 3) := by decide +kernel
theorem dX10_owedBy_26 : decode cX10_owedBy 26 = .ok (.iload_n 2, 1) := by decide +kernel
theorem dX10_owedBy_27 : decode cX10_owedBy 27 = .ok (.aload_n 0, 1) := by decide +kernel
theorem dX10_owedBy_28 : decode cX10_owedBy 28 = .ok (.getfield 29, 3) := by decide +kernel
theorem dX10_owedBy_31 : decode cX10_owedBy 31 = .ok (.iload 4, 2) := by decide +kernel
theorem dX10_owedBy_33 : decode cX10_owedBy 33 = .ok (.iaload, 1) := by decide +kernel
theorem dX10_owedBy_34 : decode cX10_owedBy 34 = .ok (.invokestatic 160, 3) := by decide +kernel
theorem dX10_owedBy_37 : decode cX10_owedBy 37 = .ok (.ifCond .eq 13, 3) := by decide +kernel
theorem dX10_owedBy_40 : decode cX10_owedBy 40 = .ok (.aload_n 0, 1) := by decide +kernel
theorem dX10_owedBy_41 : decode cX10_owedBy 41 = .ok (.getfield 32, 3) := by decide +kernel
theorem dX10_owedBy_44 : decode cX10_owedBy 44 = .ok (.iload 4, 2) := by decide +kernel
theorem dX10_owedBy_46 : decode cX10_owedBy 46 = .ok (.iaload, 1) := by decide +kernel
theorem dX10_owedBy_47 : decode cX10_owedBy 47 = .ok (.goto 4, 3) := by decide +kernel
theorem dX10_owedBy_50 : decode cX10_owedBy 50 = .ok (.iconst 0, 1) := by decide +kernel
theorem dX10_owedBy_51 : decode cX10_owedBy 51 = .ok (.iadd, 1) := by decide +kernel
theorem dX10_owedBy_52 : decode cX10_owedBy 52 = .ok (.istore_n 3, 1) := by decide +kernel
theorem dX10_owedBy_53 : decode cX10_owedBy 53 = .ok (.iinc 4 1, 3) := by decide +kernel
theorem dX10_owedBy_56 : decode cX10_owedBy 56 = .ok (.goto (-51), 3) := by decide +kernel
theorem dX10_owedBy_59 : decode cX10_owedBy 59 = .ok (.iload_n 3, 1) := by decide +kernel
theorem dX10_owedBy_60 : decode cX10_owedBy 60 = .ok (.ireturn, 1) := by decide +kernel
set_option maxRecDepth 20000 in
theorem ggX10_falls_X10_in : GoodIn wsX10_falls wsX10_in := goodIn_r _ [7] (by decide +kernel) (by decide +kernel)
set_option maxRecDepth 20000 in
theorem gX10_falls_X10_in : GoodIn wsX10_falls (va_wsS RX10 99 yX10_in wsX10_in) := goodIn_app (goodIn_of _ (by decide +kernel)) ggX10_falls_X10_in
set_option maxRecDepth 20000 in
theorem ggX10_falls_X10_owedBy : GoodIn wsX10_falls wsX10_owedBy := goodIn_r _ [11, 12, 13, 14, 15, 16, 17, 6, 18, 23, 24, 25, 26, 27, 28, 29, 30, 31, 32, 33, 34, 35, 36, 37, 38, 39, 40, 41, 42, 43, 44, 45, 46, 47, 48, 49, 50, 51, 52, 53, 54, 55, 56, 57, 58, 59, 60] (by decide +kernel) (by decide +kernel)
set_option maxRecDepth 20000 in
theorem gX10_falls_X10_owedBy : GoodIn wsX10_falls (wsV RX10 183 RX10 yX10_owedBy wsX10_owedBy) := goodIn_app (goodIn_of _ (by decide +kernel)) ggX10_falls_X10_owedBy
set_option maxRecDepth 20000 in
theorem ggX10_falls_X10_owesAll : GoodIn wsX10_falls wsX10_owesAll := goodIn_r _ [22, 12, 14, 15, 23, 24, 25, 26, 27, 28, 29, 30, 31, 32, 33, 34, 35, 36, 37, 38, 39, 40, 41, 42, 43, 44, 45, 46, 47, 48, 49, 50, 51, 52, 53, 54, 55, 56, 57, 58, 59, 60] (by decide +kernel) (by decide +kernel)
set_option maxRecDepth 20000 in
theorem gX10_falls_X10_owesAll : GoodIn wsX10_falls (wsV RX10 144 RX10 yX10_owesAll wsX10_owesAll) := goodIn_app (goodIn_of _ (by decide +kernel)) ggX10_falls_X10_owesAll
theorem dX10_falls_0 : decode cX10_falls 0 = .ok (.aload_n 0, 1) := by decide +kernel
theorem dX10_falls_1 : decode cX10_falls 1 = .ok (.iconst 0, 1) := by decide +kernel
theorem dX10_falls_2 : decode cX10_falls 2 = .ok (.putfield 92, 3) := by decide +kernel
theorem dX10_falls_5 : decode cX10_falls 5 = .ok (.iload_n 1, 1) := by decide +kernel
theorem dX10_falls_6 : decode cX10_falls 6 = .ok (.i2l, 1) := by decide +kernel
theorem dX10_falls_7 : decode cX10_falls 7 = .ok (.lconst 0, 1) := by decide +kernel
theorem dX10_falls_8 : decode cX10_falls 8 = .ok (.iconst 1, 1) := by decide +kernel
theorem dX10_falls_9 : decode cX10_falls 9 = .ok (.aload_n 0, 1) := by decide +kernel
theorem dX10_falls_10 : decode cX10_falls 10 = .ok (.getfield 96, 3) := by decide +kernel
theorem dX10_falls_13 : decode cX10_falls 13 = .ok (.ishl, 1) := by decide +kernel
theorem dX10_falls_14 : decode cX10_falls 14 = .ok (.iconst 1, 1) := by decide +kernel
theorem dX10_falls_15 : decode cX10_falls 15 = .ok (.isub, 1) := by decide +kernel
theorem dX10_falls_16 : decode cX10_falls 16 = .ok (.i2l, 1) := by decide +kernel
theorem dX10_falls_17 : decode cX10_falls 17 = .ok (.invokestatic 99, 3) := by decide +kernel
theorem dX10_falls_20 : decode cX10_falls 20 = .ok (.ifCond .ne 6, 3) := by decide +kernel
theorem dX10_falls_23 : decode cX10_falls 23 = .ok (.bipush (-2), 2) := by decide +kernel
theorem dX10_falls_25 : decode cX10_falls 25 = .ok (.ireturn, 1) := by decide +kernel
theorem dX10_falls_26 : decode cX10_falls 26 = .ok (.iconst 1, 1) := by decide +kernel
theorem dX10_falls_27 : decode cX10_falls 27 = .ok (.aload_n 0, 1) := by decide +kernel
theorem dX10_falls_28 : decode cX10_falls 28 = .ok (.getfield 96, 3) := by decide +kernel
theorem dX10_falls_31 : decode cX10_falls 31 = .ok (.ishl, 1) := by decide +kernel
theorem dX10_falls_32 : decode cX10_falls 32 = .ok (.iconst 1, 1) := by decide +kernel
theorem dX10_falls_33 : decode cX10_falls 33 = .ok (.isub, 1) := by decide +kernel
theorem dX10_falls_34 : decode cX10_falls 34 = .ok (.iload_n 1, 1) := by decide +kernel
theorem dX10_falls_35 : decode cX10_falls 35 = .ok (.iconst (-1), 1) := by decide +kernel
theorem dX10_falls_36 : decode cX10_falls 36 = .ok (.ixor, 1) := by decide +kernel
theorem dX10_falls_37 : decode cX10_falls 37 = .ok (.iand, 1) := by decide +kernel
theorem dX10_falls_38 : decode cX10_falls 38 = .ok (.istore_n 2, 1) := by decide +kernel
theorem dX10_falls_39 : decode cX10_falls 39 = .ok (.iconst 1, 1) := by decide +kernel
theorem dX10_falls_40 : decode cX10_falls 40 = .ok (.istore_n 3, 1) := by decide +kernel
theorem dX10_falls_41 : decode cX10_falls 41 = .ok (.iload_n 3, 1) := by decide +kernel
theorem dX10_falls_42 : decode cX10_falls 42 = .ok (.ifCond .eq 88, 3) := by decide +kernel
theorem dX10_falls_45 : decode cX10_falls 45 = .ok (.iload_n 2, 1) := by decide +kernel
theorem dX10_falls_46 : decode cX10_falls 46 = .ok (.istore 4, 2) := by decide +kernel
theorem dX10_falls_48 : decode cX10_falls 48 = .ok (.iconst 0, 1) := by decide +kernel
theorem dX10_falls_49 : decode cX10_falls 49 = .ok (.istore 5, 2) := by decide +kernel
theorem dX10_falls_51 : decode cX10_falls 51 = .ok (.iload 5, 2) := by decide +kernel
theorem dX10_falls_53 : decode cX10_falls 53 = .ok (.aload_n 0, 1) := by decide +kernel
theorem dX10_falls_54 : decode cX10_falls 54 = .ok (.getfield 96, 3) := by decide +kernel
theorem dX10_falls_57 : decode cX10_falls 57 = .ok (.if_icmp .ge 58, 3) := by decide +kernel
theorem dX10_falls_60 : decode cX10_falls 60 = .ok (.aload_n 0, 1) := by decide +kernel
theorem dX10_falls_61 : decode cX10_falls 61 = .ok (.getfield 13, 3) := by decide +kernel
theorem dX10_falls_64 : decode cX10_falls 64 = .ok (.iload 5, 2) := by decide +kernel
theorem dX10_falls_66 : decode cX10_falls 66 = .ok (.iaload, 1) := by decide +kernel
theorem dX10_falls_67 : decode cX10_falls 67 = .ok (.aload_n 0, 1) := by decide +kernel
theorem dX10_falls_68 : decode cX10_falls 68 = .ok (.iload 5, 2) := by decide +kernel
theorem dX10_falls_70 : decode cX10_falls 70 = .ok (.iload_n 2, 1) := by decide +kernel
theorem dX10_falls_71 : decode cX10_falls 71 = .ok (.invokevirtual 183, 3) := by decide +kernel
theorem dX10_falls_74 : decode cX10_falls 74 = .ok (.iadd, 1) := by decide +kernel
theorem dX10_falls_75 : decode cX10_falls 75 = .ok (.aload_n 0, 1) := by decide +kernel
theorem dX10_falls_76 : decode cX10_falls 76 = .ok (.iload 5, 2) := by decide +kernel
theorem dX10_falls_78 : decode cX10_falls 78 = .ok (.invokevirtual 144, 3) := by decide +kernel
theorem dX10_falls_81 : decode cX10_falls 81 = .ok (.if_icmp .lt 7, 3) := by decide +kernel
theorem dX10_falls_84 : decode cX10_falls 84 = .ok (.iconst 1, 1) := by decide +kernel
theorem dX10_falls_85 : decode cX10_falls 85 = .ok (.goto 4, 3) := by decide +kernel
theorem dX10_falls_88 : decode cX10_falls 88 = .ok (.iconst 0, 1) := by decide +kernel
theorem dX10_falls_89 : decode cX10_falls 89 = .ok (.istore 6, 2) := by decide +kernel
theorem dX10_falls_91 : decode cX10_falls 91 = .ok (.iload_n 2, 1) := by decide +kernel
theorem dX10_falls_92 : decode cX10_falls 92 = .ok (.iload 6, 2) := by decide +kernel
theorem dX10_falls_94 : decode cX10_falls 94 = .ok (.ifCond .eq 7, 3) := by decide +kernel
theorem dX10_falls_97 : decode cX10_falls 97 = .ok (.iload_n 2, 1) := by decide +kernel
theorem dX10_falls_98 : decode cX10_falls 98 = .ok (.goto 9, 3) := by decide +kernel
theorem dX10_falls_101 : decode cX10_falls 101 = .ok (.iconst 1, 1) := by decide +kernel
theorem dX10_falls_102 : decode cX10_falls 102 = .ok (.iload 5, 2) := by decide +kernel
theorem dX10_falls_104 : decode cX10_falls 104 = .ok (.ishl, 1) := by decide +kernel
theorem dX10_falls_105 : decode cX10_falls 105 = .ok (.iconst (-1), 1) := by decide +kernel
theorem dX10_falls_106 : decode cX10_falls 106 = .ok (.ixor, 1) := by decide +kernel
theorem dX10_falls_107 : decode cX10_falls 107 = .ok (.iand, 1) := by decide +kernel
theorem dX10_falls_108 : decode cX10_falls 108 = .ok (.istore_n 2, 1) := by decide +kernel
theorem dX10_falls_109 : decode cX10_falls 109 = .ok (.iinc 5 1, 3) := by decide +kernel
theorem dX10_falls_112 : decode cX10_falls 112 = .ok (.goto (-61), 3) := by decide +kernel
theorem dX10_falls_115 : decode cX10_falls 115 = .ok (.iload_n 2, 1) := by decide +kernel
theorem dX10_falls_116 : decode cX10_falls 116 = .ok (.iload 4, 2) := by decide +kernel
theorem dX10_falls_118 : decode cX10_falls 118 = .ok (.if_icmp .eq 7, 3) := by decide +kernel
theorem dX10_falls_121 : decode cX10_falls 121 = .ok (.iconst 1, 1) := by decide +kernel
theorem dX10_falls_122 : decode cX10_falls 122 = .ok (.goto 4, 3) := by decide +kernel
theorem dX10_falls_125 : decode cX10_falls 125 = .ok (.iconst 0, 1) := by decide +kernel
theorem dX10_falls_126 : decode cX10_falls 126 = .ok (.istore_n 3, 1) := by decide +kernel
theorem dX10_falls_127 : decode cX10_falls 127 = .ok (.goto (-86), 3) := by decide +kernel
theorem dX10_falls_130 : decode cX10_falls 130 = .ok (.iconst 1, 1) := by decide +kernel
theorem dX10_falls_131 : decode cX10_falls 131 = .ok (.aload_n 0, 1) := by decide +kernel
theorem dX10_falls_132 : decode cX10_falls 132 = .ok (.getfield 96, 3) := by decide +kernel
theorem dX10_falls_135 : decode cX10_falls 135 = .ok (.ishl, 1) := by decide +kernel
theorem dX10_falls_136 : decode cX10_falls 136 = .ok (.iconst 1, 1) := by decide +kernel
theorem dX10_falls_137 : decode cX10_falls 137 = .ok (.isub, 1) := by decide +kernel
theorem dX10_falls_138 : decode cX10_falls 138 = .ok (.iload_n 2, 1) := by decide +kernel
theorem dX10_falls_139 : decode cX10_falls 139 = .ok (.iconst (-1), 1) := by decide +kernel
theorem dX10_falls_140 : decode cX10_falls 140 = .ok (.ixor, 1) := by decide +kernel
theorem dX10_falls_141 : decode cX10_falls 141 = .ok (.iand, 1) := by decide +kernel
theorem dX10_falls_142 : decode cX10_falls 142 = .ok (.ireturn, 1) := by decide +kernel
set_option maxRecDepth 20000 in
theorem ggX10_findRing_X10_mayGo : GoodIn wsX10_findRing wsX10_mayGo := goodIn_r _ [10, 11, 3, 2, 12, 13, 14, 15, 16, 17, 18, 19, 20, 21, 22, 23, 24, 25, 26, 27, 28, 29, 30, 31, 32, 33, 34, 35, 36, 37, 38, 39, 40, 41, 42, 43, 44, 45, 46, 47, 48, 49] (by decide +kernel) (by decide +kernel)
set_option maxRecDepth 20000 in
theorem gX10_findRing_X10_mayGo : GoodIn wsX10_findRing (wsV RX10 186 RX10 yX10_mayGo wsX10_mayGo) := goodIn_app (goodIn_of _ (by decide +kernel)) ggX10_findRing_X10_mayGo
theorem dX10_findRing_0 : decode cX10_findRing 0 = .ok (.iconst 2, 1) := by decide +kernel
theorem dX10_findRing_1 : decode cX10_findRing 1 = .ok (.istore_n 2, 1) := by decide +kernel
theorem dX10_findRing_2 : decode cX10_findRing 2 = .ok (.iload_n 2, 1) := by decide +kernel
theorem dX10_findRing_3 : decode cX10_findRing 3 = .ok (.aload_n 0, 1) := by decide +kernel
theorem dX10_findRing_4 : decode cX10_findRing 4 = .ok (.getfield 96, 3) := by decide +kernel
theorem dX10_findRing_7 : decode cX10_findRing 7 = .ok (.if_icmp .gt 175, 3) := by decide +kernel
theorem dX10_findRing_10 : decode cX10_findRing 10 = .ok (.iconst 0, 1) := by decide +kernel
theorem dX10_findRing_11 : decode cX10_findRing 11 = .ok (.istore_n 3, 1) := by decide +kernel
theorem dX10_findRing_12 : decode cX10_findRing 12 = .ok (.aload_n 0, 1) := by decide +kernel
theorem dX10_findRing_13 : decode cX10_findRing 13 = .ok (.getfield 77, 3) := by decide +kernel
theorem dX10_findRing_16 : decode cX10_findRing 16 = .ok (.iconst 0, 1) := by decide +kernel
theorem dX10_findRing_17 : decode cX10_findRing 17 = .ok (.bipush (-9), 2) := by decide +kernel
theorem dX10_findRing_19 : decode cX10_findRing 19 = .ok (.iastore, 1) := by decide +kernel
theorem dX10_findRing_20 : decode cX10_findRing 20 = .ok (.iload_n 3, 1) := by decide +kernel
theorem dX10_findRing_21 : decode cX10_findRing 21 = .ok (.ifCond .lt 155, 3) := by decide +kernel
theorem dX10_findRing_24 : decode cX10_findRing 24 = .ok (.iload_n 3, 1) := by decide +kernel
theorem dX10_findRing_25 : decode cX10_findRing 25 = .ok (.ifCond .ne 7, 3) := by decide +kernel
theorem dX10_findRing_28 : decode cX10_findRing 28 = .ok (.iload_n 1, 1) := by decide +kernel
theorem dX10_findRing_29 : decode cX10_findRing 29 = .ok (.goto 16, 3) := by decide +kernel
theorem dX10_findRing_32 : decode cX10_findRing 32 = .ok (.aload_n 0, 1) := by decide +kernel
theorem dX10_findRing_33 : decode cX10_findRing 33 = .ok (.getfield 26, 3) := by decide +kernel
theorem dX10_findRing_36 : decode cX10_findRing 36 = .ok (.aload_n 0, 1) := by decide +kernel
theorem dX10_findRing_37 : decode cX10_findRing 37 = .ok (.getfield 77, 3) := by decide +kernel
theorem dX10_findRing_40 : decode cX10_findRing 40 = .ok (.iload_n 3, 1) := by decide +kernel
theorem dX10_findRing_41 : decode cX10_findRing 41 = .ok (.iconst 1, 1) := by decide +kernel
theorem dX10_findRing_42 : decode cX10_findRing 42 = .ok (.isub, 1) := by decide +kernel
theorem dX10_findRing_43 : decode cX10_findRing 43 = .ok (.iaload, 1) := by decide +kernel
theorem dX10_findRing_44 : decode cX10_findRing 44 = .ok (.iaload, 1) := by decide +kernel
theorem dX10_findRing_45 : decode cX10_findRing 45 = .ok (.istore 4, 2) := by decide +kernel
theorem dX10_findRing_47 : decode cX10_findRing 47 = .ok (.aload_n 0, 1) := by decide +kernel
theorem dX10_findRing_48 : decode cX10_findRing 48 = .ok (.getfield 77, 3) := by decide +kernel
theorem dX10_findRing_51 : decode cX10_findRing 51 = .ok (.iload_n 3, 1) := by decide +kernel
theorem dX10_findRing_52 : decode cX10_findRing 52 = .ok (.iaload, 1) := by decide +kernel
theorem dX10_findRing_53 : decode cX10_findRing 53 = .ok (.bipush (-9), 2) := by decide +kernel
theorem dX10_findRing_55 : decode cX10_findRing 55 = .ok (.if_icmp .ne 7, 3) := by decide +kernel
theorem dX10_findRing_58 : decode cX10_findRing 58 = .ok (.iconst 0, 1) := by decide +kernel
theorem dX10_findRing_59 : decode cX10_findRing 59 = .ok (.goto 11, 3) := by decide +kernel
theorem dX10_findRing_62 : decode cX10_findRing 62 = .ok (.aload_n 0, 1) := by decide +kernel
theorem dX10_findRing_63 : decode cX10_findRing 63 = .ok (.getfield 77, 3) := by decide +kernel
theorem dX10_findRing_66 : decode cX10_findRing 66 = .ok (.iload_n 3, 1) := by decide +kernel
theorem dX10_findRing_67 : decode cX10_findRing 67 = .ok (.iaload, 1) := by decide +kernel
theorem dX10_findRing_68 : decode cX10_findRing 68 = .ok (.iconst 1, 1) := by decide +kernel
theorem dX10_findRing_69 : decode cX10_findRing 69 = .ok (.iadd, 1) := by decide +kernel
theorem dX10_findRing_70 : decode cX10_findRing 70 = .ok (.istore 5, 2) := by decide +kernel
theorem dX10_findRing_72 : decode cX10_findRing 72 = .ok (.iload 5, 2) := by decide +kernel
theorem dX10_findRing_74 : decode cX10_findRing 74 = .ok (.aload_n 0, 1) := by decide +kernel
theorem dX10_findRing_75 : decode cX10_findRing 75 = .ok (.getfield 135, 3) := by decide +kernel
theorem dX10_findRing_78 : decode cX10_findRing 78 = .ok (.if_icmp .ge 23, 3) := by decide +kernel
theorem dX10_findRing_81 : decode cX10_findRing 81 = .ok (.aload_n 0, 1) := by decide +kernel
theorem dX10_findRing_82 : decode cX10_findRing 82 = .ok (.iload_n 1, 1) := by decide +kernel
theorem dX10_findRing_83 : decode cX10_findRing 83 = .ok (.iload 4, 2) := by decide +kernel
theorem dX10_findRing_85 : decode cX10_findRing 85 = .ok (.iload 5, 2) := by decide +kernel
theorem dX10_findRing_87 : decode cX10_findRing 87 = .ok (.iload_n 3, 1) := by decide +kernel
theorem dX10_findRing_88 : decode cX10_findRing 88 = .ok (.iload_n 2, 1) := by decide +kernel
theorem dX10_findRing_89 : decode cX10_findRing 89 = .ok (.invokevirtual 186, 3) := by decide +kernel
theorem dX10_findRing_92 : decode cX10_findRing 92 = .ok (.ifCond .ne 9, 3) := by decide +kernel
theorem dX10_findRing_95 : decode cX10_findRing 95 = .ok (.iinc 5 1, 3) := by decide +kernel
theorem dX10_findRing_98 : decode cX10_findRing 98 = .ok (.goto (-26), 3) := by decide +kernel
theorem dX10_findRing_101 : decode cX10_findRing 101 = .ok (.iload 5, 2) := by decide +kernel
theorem dX10_findRing_103 : decode cX10_findRing 103 = .ok (.aload_n 0, 1) := by decide +kernel

theorem dX3_has_12 : decode cX3_has 12 = .ok (.iload_n 1, 1) := by decide +kernel
theorem dX3_has_13 : decode cX3_has 13 = .ok (.bipush 6, 2) := by decide +kernel
theorem dX3_has_15 : decode cX3_has 15 = .ok (.if_icmp .ge 7, 3) := by decide +kernel
theorem dX3_has_18 : decode cX3_has 18 = .ok (.iconst 1, 1) := by decide +kernel
theorem dX3_has_19 : decode cX3_has 19 = .ok (.goto 4, 3) := by decide +kernel
theorem dX3_has_22 : decode cX3_has 22 = .ok (.iconst 0, 1) := by decide +kernel
theorem dX3_has_23 : decode cX3_has 23 = .ok (.ireturn, 1) := by decide +kernel
theorem dX3_allPeople_0 : decode cX3_allPeople 0 = .ok (.iconst 1, 1) := by decide +kernel
theorem dX3_allPeople_1 : decode cX3_allPeople 1 = .ok (.aload_n 0, 1) := by decide +kernel
theorem dX3_allPeople_2 : decode cX3_allPeople 2 = .ok (.getfield 9, 3) := by decide +kernel
theorem dX3_allPeople_5 : decode cX3_allPeople 5 = .ok (.ishl, 1) := by decide +kernel
theorem dX3_allPeople_6 : decode cX3_allPeople 6 = .ok (.iconst 1, 1) := by decide +kernel
theorem dX3_allPeople_7 : decode cX3_allPeople 7 = .ok (.isub, 1) := by decide +kernel
theorem dX3_allPeople_8 : decode cX3_allPeople 8 = .ok (.ireturn, 1) := by decide +kernel
set_option maxRecDepth 20000 in
theorem ggX3_areAllPeople_X3_allPeople : GoodIn wsX3_areAllPeople wsX3_allPeople := goodIn_r _ [5, 6, 7, 8, 9, 10, 11, 12, 13, 14, 15, 16, 17] (by decide +kernel) (by decide +kernel)
set_option maxRecDepth 20000 in
theorem gX3_areAllPeople_X3_allPeople : GoodIn wsX3_areAllPeople (wsV RX3 56 RX3 yX3_allPeople wsX3_allPeople) := goodIn_app (goodIn_of _ (by decide +kernel)) ggX3_areAllPeople_X3_allPeople
theorem dX3_areAllPeople_0 : decode cX3_areAllPeople 0 = .ok (.iload_n 1, 1) := by decide +kernel
theorem dX3_areAllPeople_1 : decode cX3_areAllPeople 1 = .ok (.aload_n 0, 1) := by decide +kernel
theorem dX3_areAllPeople_2 : decode cX3_areAllPeople 2 = .ok (.invokevirtual 56, 3) := by decide +kernel
theorem dX3_areAllPeople_5 : decode cX3_areAllPeople 5 = .ok (.iconst (-1), 1) := by decide +kernel
theorem dX3_areAllPeople_6 : decode cX3_areAllPeople 6 = .ok (.ixor, 1) := by decide +kernel
theorem dX3_areAllPeople_7 : decode cX3_areAllPeople 7 = .ok (.iand, 1) := by decide +kernel
theorem dX3_areAllPeople_8 : decode cX3_areAllPeople 8 = .ok (.ifCond .ne 7, 3) := by decide +kernel
theorem dX3_areAllPeople_11 : decode cX3_areAllPeople 11 = .ok (.iconst 1, 1) := by decide +kernel
theorem dX3_areAllPeople_12 : decode cX3_areAllPeople 12 = .ok (.goto 4, 3) := by decide +kernel
theorem dX3_areAllPeople_15 : decode cX3_areAllPeople 15 = .ok (.iconst 0, 1) := by decide +kernel
theorem dX3_areAllPeople_16 : decode cX3_areAllPeople 16 = .ok (.ireturn, 1) := by decide +kernel
set_option maxRecDepth 20000 in
theorem ggX3_isAlive_X9_isIn : GoodIn wsX3_isAlive wsX9_isIn := goodIn_r _ [4] (by decide +kernel) (by decide +kernel)
set_option maxRecDepth 20000 in
theorem gX3_isAlive_X9_isIn_n60 : GoodIn wsX3_isAlive (wsX9_isIn) := ggX3_isAlive_X9_isIn
theorem dX3_isAlive_0 : decode cX3_isAlive 0 = .ok (.aload_n 0, 1) := by decide +kernel
theorem dX3_isAlive_1 : decode cX3_isAlive 1 = .ok (.getfield 21, 3) := by decide +kernel
theorem dX3_isAlive_4 : decode cX3_isAlive 4 = .ok (.iload_n 1, 1) := by decide +kernel
theorem dX3_isAlive_5 : decode cX3_isAlive 5 = .ok (.invokestatic 60, 3) := by decide +kernel
theorem dX3_isAlive_8 : decode cX3_isAlive 8 = .ok (.ireturn, 1) := by decide +kernel
set_option maxRecDepth 20000 in
theorem ggX3_isBroken_X9_isIn : GoodIn wsX3_isBroken wsX9_isIn := goodIn_r _ [4] (by decide +kernel) (by decide +kernel)
set_option maxRecDepth 20000 in
theorem gX3_isBroken_X9_isIn_n60 : GoodIn wsX3_isBroken (wsX9_isIn) := ggX3_isBroken_X9_isIn
theorem dX3_isBroken_0 : decode cX3_isBroken 0 = .ok (.aload_n 0, 1) := by decide +kernel
theorem dX3_isBroken_1 : decode cX3_isBroken 1 = .ok (.getfield 24, 3) := by decide +kernel
theorem dX3_isBroken_4 : decode cX3_isBroken 4 = .ok (.iload_n 1, 1) := by decide +kernel
theorem dX3_isBroken_5 : decode cX3_isBroken 5 = .ok (.invokestatic 60, 3) := by decide +kernel
theorem dX3_isBroken_8 : decode cX3_isBroken 8 = .ok (.ireturn, 1) := by decide +kernel
theorem dX3_allMornings_0 : decode cX3_allMornings 0 = .ok (.iconst 0, 1) := by decide +kernel
theorem dX3_allMornings_1 : decode cX3_allMornings 1 = .ok (.istore_n 1, 1) := by decide +kernel
theorem dX3_allMornings_2 : decode cX3_allMornings 2 = .ok (.iconst 0, 1) := by decide +kernel
theorem dX3_allMornings_3 : decode cX3_allMornings 3 = .ok (.istore_n 2, 1) := by decide +kernel
theorem dX3_allMornings_4 : decode cX3_allMornings 4 = .ok (.iload_n 2, 1) := by decide +kernel
theorem dX3_allMornings_5 : decode cX3_allMornings 5 = .ok (.aload_n 0, 1) := by decide +kernel
theorem dX3_allMornings_6 : decode cX3_allMornings 6 = .ok (.getfield 9, 3) := by decide +kernel
theorem dX3_allMornings_9 : decode cX3_allMornings 9 = .ok (.if_icmp .ge 18, 3) := by decide +kernel
theorem dX3_allMornings_12 : decode cX3_allMornings 12 = .ok (.iload_n 1, 1) := by decide +kernel
theorem dX3_allMornings_13 : decode cX3_allMornings 13 = .ok (.aload_n 0, 1) := by decide +kernel
theorem dX3_allMornings_14 : decode cX3_allMornings 14 = .ok (.getfield 27, 3) := by decide +kernel
theorem dX3_allMornings_17 : decode cX3_allMornings 17 = .ok (.iload_n 2, 1) := by decide +kernel
theorem dX3_allMornings_18 : decode cX3_allMornings 18 = .ok (.iaload, 1) := by decide +kernel
theorem dX3_allMornings_19 : decode cX3_allMornings 19 = .ok (.iadd, 1) := by decide +kernel
theorem dX3_allMornings_20 : decode cX3_allMornings 20 = .ok (.istore_n 1, 1) := by decide +kernel
theorem dX3_allMornings_21 : decode cX3_allMornings 21 = .ok (.iinc 2 1, 3) := by decide +kernel
theorem dX3_allMornings_24 : decode cX3_allMornings 24 = .ok (.goto (-20), 3) := by decide +kernel
theorem dX3_allMornings_27 : decode cX3_allMornings 27 = .ok (.iload_n 1, 1) := by decide +kernel
theorem dX3_allMornings_28 : decode cX3_allMornings 28 = .ok (.ireturn, 1) := by decide +kernel
theorem dX3_allOwed_0 : decode cX3_allOwed 0 = .ok (.iconst 0, 1) := by decide +kernel
theorem dX3_allOwed_1 : decode cX3_allOwed 1 = .ok (.istore_n 1, 1) := by decide +kernel
theorem dX3_allOwed_2 : decode cX3_allOwed 2 = .ok (.iconst 0, 1) := by decide +kernel
theorem dX3_allOwed_3 : decode cX3_allOwed 3 = .ok (.istore_n 2, 1) := by decide +kernel
theorem dX3_allOwed_4 : decode cX3_allOwed 4 = .ok (.iload_n 2, 1) := by decide +kernel
theorem dX3_allOwed_5 : decode cX3_allOwed 5 = .ok (.aload_n 0, 1) := by decide +kernel
theorem dX3_allOwed_6 : decode cX3_allOwed 6 = .ok (.getfield 15, 3) := by decide +kernel
theorem dX3_allOwed_9 : decode cX3_allOwed 9 = .ok (.if_icmp .ge 18, 3) := by decide +kernel
theorem dX3_allOwed_12 : decode cX3_allOwed 12 = .ok (.iload_n 1, 1) := by decide +kernel
theorem dX3_allOwed_13 : decode cX3_allOwed 13 = .ok (.aload_n 0, 1) := by decide +kernel
theorem dX3_allOwed_14 : decode cX3_allOwed 14 = .ok (.getfield 40, 3) := by decide +kernel
theorem dX3_allOwed_17 : decode cX3_allOwed 17 = .ok (.iload_n 2, 1) := by decide +kernel
theorem dX3_allOwed_18 : decode cX3_allOwed 18 = .ok (.iaload, 1) := by decide +kernel
theorem dX3_allOwed_19 : decode cX3_allOwed 19 = .ok (.iadd, 1) := by decide +kernel
theorem dX3_allOwed_20 : decode cX3_allOwed 20 = .ok (.istore_n 1, 1) := by decide +kernel
theorem dX3_allOwed_21 : decode cX3_allOwed 21 = .ok (.iinc 2 1, 3) := by decide +kernel
theorem dX3_allOwed_24 : decode cX3_allOwed 24 = .ok (.goto (-20), 3) := by decide +kernel
theorem dX3_allOwed_27 : decode cX3_allOwed 27 = .ok (.iload_n 1, 1) := by decide +kernel
theorem dX3_allOwed_28 : decode cX3_allOwed 28 = .ok (.ireturn, 1) := by decide +kernel
theorem dX3_owedBy_0 : decode cX3_owedBy 0 = .ok (.iconst 0, 1) := by decide +kernel
theorem dX3_owedBy_1 : decode cX3_owedBy 1 = .ok (.istore_n 2, 1) := by decide +kernel
theorem dX3_owedBy_2 : decode cX3_owedBy 2 = .ok (.iconst 0, 1) := by decide +kernel
theorem dX3_owedBy_3 : decode cX3_owedBy 3 = .ok (.istore_n 3, 1) := by decide +kernel
theorem dX3_owedBy_4 : decode cX3_owedBy 4 = .ok (.iload_n 3, 1) := by decide +kernel
theorem dX3_owedBy_5 : decode cX3_owedBy 5 = .ok (.aload_n 0, 1) := by decide +kernel
theorem dX3_owedBy_6 : decode cX3_owedBy 6 = .ok (.getfield 15, 3) := by decide +kernel
theorem dX3_owedBy_9 : decode cX3_owedBy 9 = .ok (.if_icmp .ge 28, 3) := by decide +kernel
theorem dX3_owedBy_12 : decode cX3_owedBy 12 = .ok (.aload_n 0, 1) := by decide +kernel
theorem dX3_owedBy_13 : decode cX3_owedBy 13 = .ok (.getfield 37, 3) := by decide +kernel
theorem dX3_owedBy_16 : decode cX3_owedBy 16 = .ok (.iload_n 3, 1) := by decide +kernel
theorem dX3_owedBy_17 : decode cX3_owedBy 17 = .ok (.iaload, 1) := by decide +kernel
theorem dX3_owedBy_18 : decode cX3_owedBy 18 = .ok (.iload_n 1, 1) := by decide +kernel
theorem dX3_owedBy_19 : decode cX3_owedBy 19 = .ok (.if_icmp .ne 12, 3) := by decide +kernel
theorem dX3_owedBy_22 : decode cX3_owedBy 22 = .ok (.iload_n 2, 1) := by decide +kernel
theorem dX3_owedBy_23 : decode cX3_owedBy 23 = .ok (.aload_n 0, 1) := by decide +kernel
theorem dX3_owedBy_24 : decode cX3_owedBy 24 = .ok (.getfield 40, 3) := by decide +kernel
theorem dX3_owedBy_27 : decode cX3_owedBy 27 = .ok (.iload_n 3, 1) := by decide +kernel
theorem dX3_owedBy_28 : decode cX3_owedBy 28 = .ok (.iaload, 1) := by decide +kernel
theorem dX3_owedBy_29 : decode cX3_owedBy 29 = .ok (.iadd, 1) := by decide +kernel
theorem dX3_owedBy_30 : decode cX3_owedBy 30 = .ok (.istore_n 2, 1) := by decide +kernel
theorem dX3_owedBy_31 : decode cX3_owedBy 31 = .ok (.iinc 3 1, 3) := by decide +kernel
theorem dX3_owedBy_34 : decode cX3_owedBy 34 = .ok (.goto (-30), 3) := by decide +kernel
theorem dX3_owedBy_37 : decode cX3_owedBy 37 = .ok (.iload_n 2, 1) := by decide +kernel
theorem dX3_owedBy_38 : decode cX3_owedBy 38 = .ok (.ireturn, 1) := by decide +kernel
theorem dX3_owedTo_0 : decode cX3_owedTo 0 = .ok (.iconst 0, 1) := by decide +kernel
theorem dX3_owedTo_1 : decode cX3_owedTo 1 = .ok (.istore_n 2, 1) := by decide +kernel
theorem dX3_owedTo_2 : decode cX3_owedTo 2 = .ok (.iconst 0, 1) := by decide +kernel
theorem dX3_owedTo_3 : decode cX3_owedTo 3 = .ok (.istore_n 3, 1) := by decide +kernel
theorem dX3_owedTo_4 : decode cX3_owedTo 4 = .ok (.iload_n 3, 1) := by decide +kernel
theorem dX3_owedTo_5 : decode cX3_owedTo 5 = .ok (.aload_n 0, 1) := by decide +kernel
theorem dX3_owedTo_6 : decode cX3_owedTo 6 = .ok (.getfield 15, 3) := by decide +kernel
theorem dX3_owedTo_9 : decode cX3_owedTo 9 = .ok (.if_icmp .ge 28, 3) := by decide +kernel
theorem dX3_owedTo_12 : decode cX3_owedTo 12 = .ok (.aload_n 0, 1) := by decide +kernel
theorem dX3_owedTo_13 : decode cX3_owedTo 13 = .ok (.getfield 34, 3) := by decide +kernel
theorem dX3_owedTo_16 : decode cX3_owedTo 16 = .ok (.iload_n 3, 1) := by decide +kernel
theorem dX3_owedTo_17 : decode cX3_owedTo 17 = .ok (.iaload, 1) := by decide +kernel
theorem dX3_owedTo_18 : decode cX3_owedTo 18 = .ok (.iload_n 1, 1) := by decide +kernel
theorem dX3_owedTo_19 : decode cX3_owedTo 19 = .ok (.if_icmp .ne 12, 3) := by decide +kernel
theorem dX3_owedTo_22 : decode cX3_owedTo 22 = .ok (.iload_n 2, 1) := by decide +kernel
theorem dX3_owedTo_23 : decode cX3_owedTo 23 = .ok (.aload_n 0, 1) := by decide +kernel
theorem dX3_owedTo_24 : decode cX3_owedTo 24 = .ok (.getfield 40, 3) := by decide +kernel
theorem dX3_owedTo_27 : decode cX3_owedTo 27 = .ok (.iload_n 3, 1) := by decide +kernel
theorem dX3_owedTo_28 : decode cX3_owedTo 28 = .ok (.iaload, 1) := by decide +kernel
theorem dX3_owedTo_29 : decode cX3_owedTo 29 = .ok (.iadd, 1) := by decide +kernel
theorem dX3_owedTo_30 : decode cX3_owedTo 30 = .ok (.istore_n 2, 1) := by decide +kernel
theorem dX3_owedTo_31 : decode cX3_owedTo 31 = .ok (.iinc 3 1, 3) := by decide +kernel
theorem dX3_owedTo_34 : decode cX3_owedTo 34 = .ok (.goto (-30), 3) := by decide +kernel
theorem dX3_owedTo_37 : decode cX3_owedTo 37 = .ok (.iload_n 2, 1) := by decide +kernel
theorem dX3_owedTo_38 : decode cX3_owedTo 38 = .ok (.ireturn, 1) := by decide +kernel
set_option maxRecDepth 20000 in
theorem ggX3_netOf_X3_owedTo : GoodIn wsX3_netOf wsX3_owedTo := goodIn_r _ [5, 6, 7, 8, 14, 15, 16, 17, 18, 19, 20, 21, 22, 23, 24] (by decide +kernel) (by decide +kernel)
set_option maxRecDepth 20000 in
theorem gX3_netOf_X3_owedTo : GoodIn wsX3_netOf (wsV RX3 64 RX3 yX3_owedTo wsX3_owedTo) := goodIn_app (goodIn_of _ (by decide +kernel)) ggX3_netOf_X3_owedTo
set_option maxRecDepth 20000 in
theorem ggX3_netOf_X3_owedBy : GoodIn wsX3_netOf wsX3_owedBy := goodIn_r _ [12, 6, 13, 8, 14, 15, 16, 17, 18, 19, 20, 21, 22, 23, 24] (by decide +kernel) (by decide +kernel)
set_option maxRecDepth 20000 in
theorem gX3_netOf_X3_owedBy : GoodIn wsX3_netOf (wsV RX3 68 RX3 yX3_owedBy wsX3_owedBy) := goodIn_app (goodIn_of _ (by decide +kernel)) ggX3_netOf_X3_owedBy
theorem dX3_netOf_0 : decode cX3_netOf 0 = .ok (.aload_n 0, 1) := by decide +kernel
theorem dX3_netOf_1 : decode cX3_netOf 1 = .ok (.iload_n 1, 1) := by decide +kernel
theorem dX3_netOf_2 : decode cX3_netOf 2 = .ok (.invokevirtual 64, 3) := by decide +kernel
theorem dX3_netOf_5 : decode cX3_netOf 5 = .ok (.aload_n 0, 1) := by decide +kernel
theorem dX3_netOf_6 : decode cX3_netOf 6 = .ok (.iload_n 1, 1) := by decide +kernel
theorem dX3_netOf_7 : decode cX3_netOf 7 = .ok (.invokevirtual 68, 3) := by decide +kernel
theorem dX3_netOf_10 : decode cX3_netOf 10 = .ok (.isub, 1) := by decide +kernel
theorem dX3_netOf_11 : decode cX3_netOf 11 = .ok (.ireturn, 1) := by decide +kernel
set_option maxRecDepth 20000 in
theorem ggX3_mayLend_X3_isAlive : GoodIn wsX3_mayLend wsX3_isAlive := goodIn_r _ [6, 7, 8, 9, 10, 30, 31, 32, 33, 34, 35, 36, 37, 38, 39, 40] (by decide +kernel) (by decide +kernel)
set_option maxRecDepth 20000 in
theorem gX3_mayLend_X3_isAlive : GoodIn wsX3_mayLend (wsV RX3 71 RX3 yX3_isAlive wsX3_isAlive) := goodIn_app (goodIn_of _ (by decide +kernel)) ggX3_mayLend_X3_isAlive
set_option maxRecDepth 20000 in
theorem ggX3_mayLend_X3_isBroken : GoodIn wsX3_mayLend wsX3_isBroken := goodIn_r _ [14, 15, 8, 9, 10, 30, 31, 32, 33, 34, 35, 36, 37, 38, 39, 40] (by decide +kernel) (by decide +kernel)
set_option maxRecDepth 20000 in
theorem gX3_mayLend_X3_isBroken : GoodIn wsX3_mayLend (wsV RX3 74 RX3 yX3_isBroken wsX3_isBroken) := goodIn_app (goodIn_of _ (by decide +kernel)) ggX3_mayLend_X3_isBroken
set_option maxRecDepth 20000 in
theorem ggX3_mayLend_X3_owedBy : GoodIn wsX3_mayLend wsX3_owedBy := goodIn_r _ [19, 20, 21, 22, 30, 31, 32, 33, 34, 35, 36, 37, 38, 39, 40] (by decide +kernel) (by decide +kernel)
set_option maxRecDepth 20000 in
theorem gX3_mayLend_X3_owedBy : GoodIn wsX3_mayLend (wsV RX3 68 RX3 yX3_owedBy wsX3_owedBy) := goodIn_app (goodIn_of _ (by decide +kernel)) ggX3_mayLend_X3_owedBy
set_option maxRecDepth 20000 in
theorem ggX3_mayLend_X3_loanWithAsked : GoodIn wsX3_mayLend wsX3_loanWithAsked := goodIn_r _ [26, 27, 28, 9, 29, 30, 31, 32, 33, 34, 35, 36, 37, 38, 39, 40] (by decide +kernel) (by decide +kernel)
set_option maxRecDepth 20000 in
theorem gX3_mayLend_X3_loanWithAsked : GoodIn wsX3_mayLend (wsV RX3 77 RX3 yX3_loanWithAsked wsX3_loanWithAsked) := goodIn_app (goodIn_of _ (by decide +kernel)) ggX3_mayLend_X3_loanWithAsked
theorem dX3_mayLend_0 : decode cX3_mayLend 0 = .ok (.aload_n 0, 1) := by decide +kernel
theorem dX3_mayLend_1 : decode cX3_mayLend 1 = .ok (.getfield 27, 3) := by decide +kernel
theorem dX3_mayLend_4 : decode cX3_mayLend 4 = .ok (.iload_n 1, 1) := by decide +kernel
theorem dX3_mayLend_5 : decode cX3_mayLend 5 = .ok (.iaload, 1) := by decide +kernel
theorem dX3_mayLend_6 : decode cX3_mayLend 6 = .ok (.iload_n 3, 1) := by decide +kernel
theorem dX3_mayLend_7 : decode cX3_mayLend 7 = .ok (.if_icmp .lt 48, 3) := by decide +kernel
theorem dX3_mayLend_10 : decode cX3_mayLend 10 = .ok (.aload_n 0, 1) := by decide +kernel
theorem dX3_mayLend_11 : decode cX3_mayLend 11 = .ok (.iload_n 1, 1) := by decide +kernel
theorem dX3_mayLend_12 : decode cX3_mayLend 12 = .ok (.invokevirtual 71, 3) := by decide +kernel
theorem dX3_mayLend_15 : decode cX3_mayLend 15 = .ok (.ifCond .eq 40, 3) := by decide +kernel
theorem dX3_mayLend_18 : decode cX3_mayLend 18 = .ok (.aload_n 0, 1) := by decide +kernel
theorem dX3_mayLend_19 : decode cX3_mayLend 19 = .ok (.iload_n 2, 1) := by decide +kernel
theorem dX3_mayLend_20 : decode cX3_mayLend 20 = .ok (.invokevirtual 71, 3) := by decide +kernel
theorem dX3_mayLend_23 : decode cX3_mayLend 23 = .ok (.ifCond .eq 32, 3) := by decide +kernel
theorem dX3_mayLend_26 : decode cX3_mayLend 26 = .ok (.aload_n 0, 1) := by decide +kernel
theorem dX3_mayLend_27 : decode cX3_mayLend 27 = .ok (.iload_n 2, 1) := by decide +kernel
theorem dX3_mayLend_28 : decode cX3_mayLend 28 = .ok (.invokevirtual 74, 3) := by decide +kernel
theorem dX3_mayLend_31 : decode cX3_mayLend 31 = .ok (.ifCond .ne 24, 3) := by decide +kernel
theorem dX3_mayLend_34 : decode cX3_mayLend 34 = .ok (.aload_n 0, 1) := by decide +kernel
theorem dX3_mayLend_35 : decode cX3_mayLend 35 = .ok (.iload_n 2, 1) := by decide +kernel
theorem dX3_mayLend_36 : decode cX3_mayLend 36 = .ok (.invokevirtual 68, 3) := by decide +kernel
theorem dX3_mayLend_39 : decode cX3_mayLend 39 = .ok (.aload_n 0, 1) := by decide +kernel
theorem dX3_mayLend_40 : decode cX3_mayLend 40 = .ok (.iload_n 1, 1) := by decide +kernel
theorem dX3_mayLend_41 : decode cX3_mayLend 41 = .ok (.iload_n 3, 1) := by decide +kernel
theorem dX3_mayLend_42 : decode cX3_mayLend 42 = .ok (.invokevirtual 77, 3) := by decide +kernel
theorem dX3_mayLend_45 : decode cX3_mayLend 45 = .ok (.iadd, 1) := by decide +kernel
theorem dX3_mayLend_46 : decode cX3_mayLend 46 = .ok (.bipush 80, 2) := by decide +kernel
theorem dX3_mayLend_48 : decode cX3_mayLend 48 = .ok (.if_icmp .gt 7, 3) := by decide +kernel
theorem dX3_mayLend_51 : decode cX3_mayLend 51 = .ok (.iconst 1, 1) := by decide +kernel
theorem dX3_mayLend_52 : decode cX3_mayLend 52 = .ok (.goto 4, 3) := by decide +kernel
theorem dX3_mayLend_55 : decode cX3_mayLend 55 = .ok (.iconst 0, 1) := by decide +kernel
theorem dX3_mayLend_56 : decode cX3_mayLend 56 = .ok (.ireturn, 1) := by decide +kernel
set_option maxRecDepth 20000 in
theorem ggX3_loanWithAsked_X9_askedFor : GoodIn wsX3_loanWithAsked wsX9_askedFor := goodIn_r _ [4] (by decide +kernel) (by decide +kernel)
set_option maxRecDepth 20000 in
theorem gX3_loanWithAsked_X9_askedFor_n81 : GoodIn wsX3_loanWithAsked (wsX9_askedFor) := ggX3_loanWithAsked_X9_askedFor
theorem dX3_loanWithAsked_0 : decode cX3_loanWithAsked 0 = .ok (.iload_n 2, 1) := by decide +kernel
theorem dX3_loanWithAsked_1 : decode cX3_loanWithAsked 1 = .ok (.iload_n 2, 1) := by decide +kernel
theorem dX3_loanWithAsked_2 : decode cX3_loanWithAsked 2 = .ok (.aload_n 0, 1) := by decide +kernel
theorem dX3_loanWithAsked_3 : decode cX3_loanWithAsked 3 = .ok (.getfield 31, 3) := by decide +kernel
theorem dX3_loanWithAsked_6 : decode cX3_loanWithAsked 6 = .ok (.iload_n 1, 1) := by decide +kernel
theorem dX3_loanWithAsked_7 : decode cX3_loanWithAsked 7 = .ok (.iaload, 1) := by decide +kernel
theorem dX3_loanWithAsked_8 : decode cX3_loanWithAsked 8 = .ok (.invokestatic 81, 3) := by decide +kernel
theorem dX3_loanWithAsked_11 : decode cX3_loanWithAsked 11 = .ok (.iadd, 1) := by decide +kernel
theorem dX3_loanWithAsked_12 : decode cX3_loanWithAsked 12 = .ok (.ireturn, 1) := by decide +kernel
set_option maxRecDepth 20000 in
theorem ggX3_giveAsLoan_X3_loanWithAsked : GoodIn wsX3_giveAsLoan wsX3_loanWithAsked := goodIn_r _ [7, 8, 9, 10, 11, 26, 27, 28, 29, 30, 31, 32, 33, 34, 35, 36] (by decide +kernel) (by decide +kernel)
set_option maxRecDepth 20000 in
theorem gX3_giveAsLoan_X3_loanWithAsked : GoodIn wsX3_giveAsLoan (wsV RX3 77 RX3 yX3_loanWithAsked wsX3_loanWithAsked) := goodIn_app (goodIn_of _ (by decide +kernel)) ggX3_giveAsLoan_X3_loanWithAsked
set_option maxRecDepth 20000 in
theorem ggX3_giveAsLoan_X3_addDebt : GoodIn wsX3_giveAsLoan wsX3_addDebt := goodIn_r _ [15, 16, 17, 18, 19, 20, 21, 22, 23, 6, 24, 25, 26, 27, 28, 29, 30, 31, 32, 33, 34, 35, 36] (by decide +kernel) (by decide +kernel)
set_option maxRecDepth 20000 in
theorem gX3_giveAsLoan_X3_addDebt : GoodIn wsX3_giveAsLoan (wsV RX3 84 RX3 yX3_addDebt wsX3_addDebt) := goodIn_app (goodIn_of _ (by decide +kernel)) ggX3_giveAsLoan_X3_addDebt
theorem dX3_giveAsLoan_0 : decode cX3_giveAsLoan 0 = .ok (.aload_n 0, 1) := by decide +kernel
theorem dX3_giveAsLoan_1 : decode cX3_giveAsLoan 1 = .ok (.iload_n 1, 1) := by decide +kernel
theorem dX3_giveAsLoan_2 : decode cX3_giveAsLoan 2 = .ok (.iload_n 3, 1) := by decide +kernel
theorem dX3_giveAsLoan_3 : decode cX3_giveAsLoan 3 = .ok (.invokevirtual 77, 3) := by decide +kernel
theorem dX3_giveAsLoan_6 : decode cX3_giveAsLoan 6 = .ok (.istore 5, 2) := by decide +kernel
theorem dX3_giveAsLoan_8 : decode cX3_giveAsLoan 8 = .ok (.aload_n 0, 1) := by decide +kernel
theorem dX3_giveAsLoan_9 : decode cX3_giveAsLoan 9 = .ok (.getfield 27, 3) := by decide +kernel
theorem dX3_giveAsLoan_12 : decode cX3_giveAsLoan 12 = .ok (.iload_n 1, 1) := by decide +kernel
theorem dX3_giveAsLoan_13 : decode cX3_giveAsLoan 13 = .ok (.dup2, 1) := by decide +kernel
theorem dX3_giveAsLoan_14 : decode cX3_giveAsLoan 14 = .ok (.iaload, 1) := by decide +kernel
theorem dX3_giveAsLoan_15 : decode cX3_giveAsLoan 15 = .ok (.iload_n 3, 1) := by decide +kernel
theorem dX3_giveAsLoan_16 : decode cX3_giveAsLoan 16 = .ok (.isub, 1) := by decide +kernel
theorem dX3_giveAsLoan_17 : decode cX3_giveAsLoan 17 = .ok (.iastore, 1) := by decide +kernel
theorem dX3_giveAsLoan_18 : decode cX3_giveAsLoan 18 = .ok (.aload_n 0, 1) := by decide +kernel
theorem dX3_giveAsLoan_19 : decode cX3_giveAsLoan 19 = .ok (.getfield 27, 3) := by decide +kernel
theorem dX3_giveAsLoan_22 : decode cX3_giveAsLoan 22 = .ok (.iload_n 2, 1) := by decide +kernel
theorem dX3_giveAsLoan_23 : decode cX3_giveAsLoan 23 = .ok (.dup2, 1) := by decide +kernel
theorem dX3_giveAsLoan_24 : decode cX3_giveAsLoan 24 = .ok (.iaload, 1) := by decide +kernel
theorem dX3_giveAsLoan_25 : decode cX3_giveAsLoan 25 = .ok (.iload_n 3, 1) := by decide +kernel
theorem dX3_giveAsLoan_26 : decode cX3_giveAsLoan 26 = .ok (.iadd, 1) := by decide +kernel
theorem dX3_giveAsLoan_27 : decode cX3_giveAsLoan 27 = .ok (.iastore, 1) := by decide +kernel
theorem dX3_giveAsLoan_28 : decode cX3_giveAsLoan 28 = .ok (.aload_n 0, 1) := by decide +kernel
theorem dX3_giveAsLoan_29 : decode cX3_giveAsLoan 29 = .ok (.iload_n 1, 1) := by decide +kernel
theorem dX3_giveAsLoan_30 : decode cX3_giveAsLoan 30 = .ok (.iload_n 2, 1) := by decide +kernel
theorem dX3_giveAsLoan_31 : decode cX3_giveAsLoan 31 = .ok (.iload 5, 2) := by decide +kernel
theorem dX3_giveAsLoan_33 : decode cX3_giveAsLoan 33 = .ok (.aload_n 0, 1) := by decide +kernel
theorem dX3_giveAsLoan_34 : decode cX3_giveAsLoan 34 = .ok (.getfield 18, 3) := by decide +kernel
theorem dX3_giveAsLoan_37 : decode cX3_giveAsLoan 37 = .ok (.iload 4, 2) := by decide +kernel
theorem dX3_giveAsLoan_39 : decode cX3_giveAsLoan 39 = .ok (.iadd, 1) := by decide +kernel
theorem dX3_giveAsLoan_40 : decode cX3_giveAsLoan 40 = .ok (.invokevirtual 84, 3) := by decide +kernel
theorem dX3_giveAsLoan_43 : decode cX3_giveAsLoan 43 = .ok (.iload 5, 2) := by decide +kernel
theorem dX3_giveAsLoan_45 : decode cX3_giveAsLoan 45 = .ok (.ireturn, 1) := by decide +kernel
set_option maxRecDepth 20000 in
theorem ggX3_passWeek_X3_pay : GoodIn wsX3_passWeek wsX3_pay := goodIn_r _ [9, 10, 11, 12, 13, 14, 15, 16, 1, 17, 27, 28, 29, 30, 31, 32, 33, 34, 35, 36, 37] (by decide +kernel) (by decide +kernel)
set_option maxRecDepth 20000 in
theorem gX3_passWeek_X3_pay : GoodIn wsX3_passWeek (wsV RX3 88 RX3 yX3_pay wsX3_pay) := goodIn_app (goodIn_of _ (by decide +kernel)) ggX3_passWeek_X3_pay
set_option maxRecDepth 20000 in
theorem ggX3_passWeek_X3_moveDebt : GoodIn wsX3_passWeek wsX3_moveDebt := goodIn_r _ [21, 17, 10, 11, 4, 27, 28, 29, 30, 31, 32, 33, 34, 35, 36, 37] (by decide +kernel) (by decide +kernel)
set_option maxRecDepth 20000 in
theorem gX3_passWeek_X3_moveDebt : GoodIn wsX3_passWeek (wsV RX3 92 RX3 yX3_moveDebt wsX3_moveDebt) := goodIn_app (goodIn_of _ (by decide +kernel)) ggX3_passWeek_X3_moveDebt
set_option maxRecDepth 20000 in
theorem ggX3_passWeek_X3_goBad : GoodIn wsX3_passWeek wsX3_goBad := goodIn_r _ [25, 26, 12, 13, 14, 15, 16, 27, 28, 29, 30, 31, 32, 33, 34, 35, 36, 37] (by decide +kernel) (by decide +kernel)
set_option maxRecDepth 20000 in
theorem gX3_passWeek_X3_goBad : GoodIn wsX3_passWeek (wsV RX3 96 RX3 yX3_goBad wsX3_goBad) := goodIn_app (goodIn_of _ (by decide +kernel)) ggX3_passWeek_X3_goBad
theorem dX3_passWeek_0 : decode cX3_passWeek 0 = .ok (.aload_n 0, 1) := by decide +kernel
theorem dX3_passWeek_1 : decode cX3_passWeek 1 = .ok (.getfield 24, 3) := by decide +kernel
theorem dX3_passWeek_4 : decode cX3_passWeek 4 = .ok (.istore_n 1, 1) := by decide +kernel
theorem dX3_passWeek_5 : decode cX3_passWeek 5 = .ok (.aload_n 0, 1) := by decide +kernel
theorem dX3_passWeek_6 : decode cX3_passWeek 6 = .ok (.dup, 1) := by decide +kernel
theorem dX3_passWeek_7 : decode cX3_passWeek 7 = .ok (.getfield 18, 3) := by decide +kernel
theorem dX3_passWeek_10 : decode cX3_passWeek 10 = .ok (.iconst 1, 1) := by decide +kernel
theorem dX3_passWeek_11 : decode cX3_passWeek 11 = .ok (.iadd, 1) := by decide +kernel
theorem dX3_passWeek_12 : decode cX3_passWeek 12 = .ok (.putfield 18, 3) := by decide +kernel
theorem dX3_passWeek_15 : decode cX3_passWeek 15 = .ok (.iconst 0, 1) := by decide +kernel
theorem dX3_passWeek_16 : decode cX3_passWeek 16 = .ok (.istore_n 2, 1) := by decide +kernel
theorem dX3_passWeek_17 : decode cX3_passWeek 17 = .ok (.iconst 0, 1) := by decide +kernel
theorem dX3_passWeek_18 : decode cX3_passWeek 18 = .ok (.istore_n 3, 1) := by decide +kernel
theorem dX3_passWeek_19 : decode cX3_passWeek 19 = .ok (.iload_n 3, 1) := by decide +kernel
theorem dX3_passWeek_20 : decode cX3_passWeek 20 = .ok (.aload_n 0, 1) := by decide +kernel
theorem dX3_passWeek_21 : decode cX3_passWeek 21 = .ok (.getfield 15, 3) := by decide +kernel
theorem dX3_passWeek_24 : decode cX3_passWeek 24 = .ok (.if_icmp .ge 39, 3) := by decide +kernel
theorem dX3_passWeek_27 : decode cX3_passWeek 27 = .ok (.aload_n 0, 1) := by decide +kernel
theorem dX3_passWeek_28 : decode cX3_passWeek 28 = .ok (.getfield 43, 3) := by decide +kernel
theorem dX3_passWeek_31 : decode cX3_passWeek 31 = .ok (.iload_n 3, 1) := by decide +kernel
theorem dX3_passWeek_32 : decode cX3_passWeek 32 = .ok (.iaload, 1) := by decide +kernel
theorem dX3_passWeek_33 : decode cX3_passWeek 33 = .ok (.aload_n 0, 1) := by decide +kernel
theorem dX3_passWeek_34 : decode cX3_passWeek 34 = .ok (.getfield 18, 3) := by decide +kernel
theorem dX3_passWeek_37 : decode cX3_passWeek 37 = .ok (.if_icmp .ne 11, 3) := by decide +kernel
theorem dX3_passWeek_40 : decode cX3_passWeek 40 = .ok (.aload_n 0, 1) := by decide +kernel
theorem dX3_passWeek_41 : decode cX3_passWeek 41 = .ok (.iload_n 3, 1) := by decide +kernel
theorem dX3_passWeek_42 : decode cX3_passWeek 42 = .ok (.invokevirtual 88, 3) := by decide +kernel
theorem dX3_passWeek_45 : decode cX3_passWeek 45 = .ok (.goto 12, 3) := by decide +kernel
theorem dX3_passWeek_48 : decode cX3_passWeek 48 = .ok (.aload_n 0, 1) := by decide +kernel
theorem dX3_passWeek_49 : decode cX3_passWeek 49 = .ok (.iload_n 3, 1) := by decide +kernel
theorem dX3_passWeek_50 : decode cX3_passWeek 50 = .ok (.iload_n 2, 1) := by decide +kernel
theorem dX3_passWeek_51 : decode cX3_passWeek 51 = .ok (.invokevirtual 92, 3) := by decide +kernel
theorem dX3_passWeek_54 : decode cX3_passWeek 54 = .ok (.iinc 2 1, 3) := by decide +kernel
theorem dX3_passWeek_57 : decode cX3_passWeek 57 = .ok (.iinc 3 1, 3) := by decide +kernel
theorem dX3_passWeek_60 : decode cX3_passWeek 60 = .ok (.goto (-41), 3) := by decide +kernel
theorem dX3_passWeek_63 : decode cX3_passWeek 63 = .ok (.aload_n 0, 1) := by decide +kernel
theorem dX3_passWeek_64 : decode cX3_passWeek 64 = .ok (.iload_n 2, 1) := by decide +kernel
theorem dX3_passWeek_65 : decode cX3_passWeek 65 = .ok (.putfield 15, 3) := by decide +kernel
theorem dX3_passWeek_68 : decode cX3_passWeek 68 = .ok (.aload_n 0, 1) := by decide +kernel
theorem dX3_passWeek_69 : decode cX3_passWeek 69 = .ok (.getfield 18, 3) := by decide +kernel
theorem dX3_passWeek_72 : decode cX3_passWeek 72 = .ok (.iconst 4, 1) := by decide +kernel
theorem dX3_passWeek_73 : decode cX3_passWeek 73 = .ok (.irem, 1) := by decide +kernel
theorem dX3_passWeek_74 : decode cX3_passWeek 74 = .ok (.ifCond .ne 7, 3) := by decide +kernel
theorem dX3_passWeek_77 : decode cX3_passWeek 77 = .ok (.aload_n 0, 1) := by decide +kernel
theorem dX3_passWeek_78 : decode cX3_passWeek 78 = .ok (.invokevirtual 96, 3) := by decide +kernel
theorem dX3_passWeek_81 : decode cX3_passWeek 81 = .ok (.aload_n 0, 1) := by decide +kernel
theorem dX3_passWeek_82 : decode cX3_passWeek 82 = .ok (.getfield 24, 3) := by decide +kernel
theorem dX3_passWeek_85 : decode cX3_passWeek 85 = .ok (.iload_n 1, 1) := by decide +kernel
theorem dX3_passWeek_86 : decode cX3_passWeek 86 = .ok (.iconst (-1), 1) := by decide +kernel
theorem dX3_passWeek_87 : decode cX3_passWeek 87 = .ok (.ixor, 1) := by decide +kernel
theorem dX3_passWeek_88 : decode cX3_passWeek 88 = .ok (.iand, 1) := by decide +kernel
theorem dX3_passWeek_89 : decode cX3_passWeek 89 = .ok (.ireturn, 1) := by decide +kernel
theorem dX3_pay_0 : decode cX3_pay 0 = .ok (.aload_n 0, 1) := by decide +kernel
theorem dX3_pay_1 : decode cX3_pay 1 = .ok (.getfield 37, 3) := by decide +kernel
theorem dX3_pay_4 : decode cX3_pay 4 = .ok (.iload_n 1, 1) := by decide +kernel
theorem dX3_pay_5 : decode cX3_pay 5 = .ok (.iaload, 1) := by decide +kernel
theorem dX3_pay_6 : decode cX3_pay 6 = .ok (.istore_n 2, 1) := by decide +kernel
theorem dX3_pay_7 : decode cX3_pay 7 = .ok (.aload_n 0, 1) := by decide +kernel
theorem dX3_pay_8 : decode cX3_pay 8 = .ok (.getfield 40, 3) := by decide +kernel
theorem dX3_pay_11 : decode cX3_pay 11 = .ok (.iload_n 1, 1) := by decide +kernel
theorem dX3_pay_12 : decode cX3_pay 12 = .ok (.iaload, 1) := by decide +kernel
theorem dX3_pay_13 : decode cX3_pay 13 = .ok (.aload_n 0, 1) := by decide +kernel
theorem dX3_pay_14 : decode cX3_pay 14 = .ok (.getfield 27, 3) := by decide +kernel
theorem dX3_pay_17 : decode cX3_pay 17 = .ok (.iload_n 2, 1) := by decide +kernel
theorem dX3_pay_18 : decode cX3_pay 18 = .ok (.iaload, 1) := by decide +kernel
theorem dX3_pay_19 : decode cX3_pay 19 = .ok (.invokestatic 99, 3) := by decide +kernel
theorem dX3_pay_22 : decode cX3_pay 22 = .ok (.istore_n 3, 1) := by decide +kernel
theorem dX3_pay_23 : decode cX3_pay 23 = .ok (.iload_n 3, 1) := by decide +kernel
theorem dX3_pay_24 : decode cX3_pay 24 = .ok (.aload_n 0, 1) := by decide +kernel
theorem dX3_pay_25 : decode cX3_pay 25 = .ok (.getfield 40, 3) := by decide +kernel
theorem dX3_pay_28 : decode cX3_pay 28 = .ok (.iload_n 1, 1) := by decide +kernel
theorem dX3_pay_29 : decode cX3_pay 29 = .ok (.iaload, 1) := by decide +kernel
theorem dX3_pay_30 : decode cX3_pay 30 = .ok (.if_icmp .ge 15, 3) := by decide +kernel
theorem dX3_pay_33 : decode cX3_pay 33 = .ok (.aload_n 0, 1) := by decide +kernel
theorem dX3_pay_34 : decode cX3_pay 34 = .ok (.dup, 1) := by decide +kernel
theorem dX3_pay_35 : decode cX3_pay 35 = .ok (.getfield 24, 3) := by decide +kernel
theorem dX3_pay_38 : decode cX3_pay 38 = .ok (.iconst 1, 1) := by decide +kernel
theorem dX3_pay_39 : decode cX3_pay 39 = .ok (.iload_n 2, 1) := by decide +kernel
theorem dX3_pay_40 : decode cX3_pay 40 = .ok (.ishl, 1) := by decide +kernel
theorem dX3_pay_41 : decode cX3_pay 41 = .ok (.ior, 1) := by decide +kernel
theorem dX3_pay_42 : decode cX3_pay 42 = .ok (.putfield 24, 3) := by decide +kernel
theorem dX3_pay_45 : decode cX3_pay 45 = .ok (.aload_n 0, 1) := by decide +kernel
theorem dX3_pay_46 : decode cX3_pay 46 = .ok (.getfield 27, 3) := by decide +kernel
theorem dX3_pay_49 : decode cX3_pay 49 = .ok (.iload_n 2, 1) := by decide +kernel
theorem dX3_pay_50 : decode cX3_pay 50 = .ok (.dup2, 1) := by decide +kernel
theorem dX3_pay_51 : decode cX3_pay 51 = .ok (.iaload, 1) := by decide +kernel
theorem dX3_pay_52 : decode cX3_pay 52 = .ok (.iload_n 3, 1) := by decide +kernel
theorem dX3_pay_53 : decode cX3_pay 53 = .ok (.isub, 1) := by decide +kernel
theorem dX3_pay_54 : decode cX3_pay 54 = .ok (.iastore, 1) := by decide +kernel
theorem dX3_pay_55 : decode cX3_pay 55 = .ok (.aload_n 0, 1) := by decide +kernel
theorem dX3_pay_56 : decode cX3_pay 56 = .ok (.getfield 27, 3) := by decide +kernel
theorem dX3_pay_59 : decode cX3_pay 59 = .ok (.aload_n 0, 1) := by decide +kernel
theorem dX3_pay_60 : decode cX3_pay 60 = .ok (.getfield 34, 3) := by decide +kernel
theorem dX3_pay_63 : decode cX3_pay 63 = .ok (.iload_n 1, 1) := by decide +kernel
theorem dX3_pay_64 : decode cX3_pay 64 = .ok (.iaload, 1) := by decide +kernel
theorem dX3_pay_65 : decode cX3_pay 65 = .ok (.dup2, 1) := by decide +kernel
theorem dX3_pay_66 : decode cX3_pay 66 = .ok (.iaload, 1) := by decide +kernel
theorem dX3_pay_67 : decode cX3_pay 67 = .ok (.iload_n 3, 1) := by decide +kernel
theorem dX3_pay_68 : decode cX3_pay 68 = .ok (.iadd, 1) := by decide +kernel
theorem dX3_pay_69 : decode cX3_pay 69 = .ok (.iastore, 1) := by decide +kernel
theorem dX3_pay_70 : decode cX3_pay 70 = .ok (.return_, 1) := by decide +kernel
theorem dX3_goBad_0 : decode cX3_goBad 0 = .ok (.iconst 0, 1) := by decide +kernel
theorem dX3_goBad_1 : decode cX3_goBad 1 = .ok (.istore_n 1, 1) := by decide +kernel
theorem dX3_goBad_2 : decode cX3_goBad 2 = .ok (.iload_n 1, 1) := by decide +kernel
theorem dX3_goBad_3 : decode cX3_goBad 3 = .ok (.aload_n 0, 1) := by decide +kernel
theorem dX3_goBad_4 : decode cX3_goBad 4 = .ok (.getfield 9, 3) := by decide +kernel
theorem dX3_goBad_7 : decode cX3_goBad 7 = .ok (.if_icmp .ge 26, 3) := by decide +kernel
theorem dX3_goBad_10 : decode cX3_goBad 10 = .ok (.aload_n 0, 1) := by decide +kernel
theorem dX3_goBad_11 : decode cX3_goBad 11 = .ok (.getfield 27, 3) := by decide +kernel
theorem dX3_goBad_14 : decode cX3_goBad 14 = .ok (.iload_n 1, 1) := by decide +kernel
theorem dX3_goBad_15 : decode cX3_goBad 15 = .ok (.aload_n 0, 1) := by decide +kernel
theorem dX3_goBad_16 : decode cX3_goBad 16 = .ok (.getfield 27, 3) := by decide +kernel
theorem dX3_goBad_19 : decode cX3_goBad 19 = .ok (.iload_n 1, 1) := by decide +kernel
theorem dX3_goBad_20 : decode cX3_goBad 20 = .ok (.iaload, 1) := by decide +kernel
theorem dX3_goBad_21 : decode cX3_goBad 21 = .ok (.bipush 20, 2) := by decide +kernel
theorem dX3_goBad_23 : decode cX3_goBad 23 = .ok (.invokestatic 99, 3) := by decide +kernel
theorem dX3_goBad_26 : decode cX3_goBad 26 = .ok (.iastore, 1) := by decide +kernel
theorem dX3_goBad_27 : decode cX3_goBad 27 = .ok (.iinc 1 1, 3) := by decide +kernel
theorem dX3_goBad_30 : decode cX3_goBad 30 = .ok (.goto (-28), 3) := by decide +kernel
theorem dX3_goBad_33 : decode cX3_goBad 33 = .ok (.return_, 1) := by decide +kernel
set_option maxRecDepth 20000 in
theorem ggX3_passOn_J6_bitCount_0f7a4 : GoodIn wsX3_passOn wsJ6_bitCount_0f7a4 := goodIn_r _ [7, 8, 9, 10] (by decide +kernel) (by decide +kernel)
set_option maxRecDepth 20000 in
theorem gX3_passOn_J6_bitCount_0f7a4 : GoodIn wsX3_passOn (va_wsS RX3 104 yJ6_bitCount_0f7a4 wsJ6_bitCount_0f7a4) := goodIn_app (goodIn_of _ (by decide +kernel)) ggX3_passOn_J6_bitCount_0f7a4
set_option maxRecDepth 20000 in
theorem ggX3_passOn_X3_leastOf : GoodIn wsX3_passOn wsX3_leastOf := goodIn_r _ [15, 2, 16, 17, 18, 32, 33, 34, 35, 36, 37, 38, 39, 40, 41, 42] (by decide +kernel) (by decide +kernel)
set_option maxRecDepth 20000 in
theorem gX3_passOn_X3_leastOf : GoodIn wsX3_passOn (wsV RX3 109 RX3 yX3_leastOf wsX3_leastOf) := goodIn_app (goodIn_of _ (by decide +kernel)) ggX3_passOn_X3_leastOf
set_option maxRecDepth 20000 in
theorem ggX3_passOn_X9_isIn : GoodIn wsX3_passOn wsX9_isIn := goodIn_r _ [18] (by decide +kernel) (by decide +kernel)
set_option maxRecDepth 20000 in
theorem gX3_passOn_X9_isIn_n60 : GoodIn wsX3_passOn (wsX9_isIn) := ggX3_passOn_X9_isIn
set_option maxRecDepth 20000 in
theorem ggX3_passOn_X3_passDebtsOn : GoodIn wsX3_passOn wsX3_passDebtsOn := goodIn_r _ [22, 23, 24, 25, 26, 27, 28, 14, 29, 30, 31, 32, 33, 34, 35, 36, 37, 38, 39, 40, 41, 42] (by decide +kernel) (by decide +kernel)
set_option maxRecDepth 20000 in
theorem gX3_passOn_X3_passDebtsOn : GoodIn wsX3_passOn (wsV RX3 112 RX3 yX3_passDebtsOn wsX3_passDebtsOn) := goodIn_app (goodIn_of _ (by decide +kernel)) ggX3_passOn_X3_passDebtsOn
theorem dX3_passOn_0 : decode cX3_passOn 0 = .ok (.iload_n 2, 1) := by decide +kernel
theorem dX3_passOn_1 : decode cX3_passOn 1 = .ok (.invokestatic 104, 3) := by decide +kernel
theorem dX3_passOn_4 : decode cX3_passOn 4 = .ok (.istore_n 3, 1) := by decide +kernel
theorem dX3_passOn_5 : decode cX3_passOn 5 = .ok (.iload_n 3, 1) := by decide +kernel
theorem dX3_passOn_6 : decode cX3_passOn 6 = .ok (.ifCond .ne 5, 3) := by decide +kernel
theorem dX3_passOn_9 : decode cX3_passOn 9 = .ok (.iconst 0, 1) := by decide +kernel
theorem dX3_passOn_10 : decode cX3_passOn 10 = .ok (.ireturn, 1) := by decide +kernel
theorem dX3_passOn_11 : decode cX3_passOn 11 = .ok (.aload_n 0, 1) := by decide +kernel
theorem dX3_passOn_12 : decode cX3_passOn 12 = .ok (.iload_n 2, 1) := by decide +kernel
theorem dX3_passOn_13 : decode cX3_passOn 13 = .ok (.invokevirtual 109, 3) := by decide +kernel
theorem dX3_passOn_16 : decode cX3_passOn 16 = .ok (.istore 4, 2) := by decide +kernel
theorem dX3_passOn_18 : decode cX3_passOn 18 = .ok (.aload_n 0, 1) := by decide +kernel
theorem dX3_passOn_19 : decode cX3_passOn 19 = .ok (.getfield 27, 3) := by decide +kernel
theorem dX3_passOn_22 : decode cX3_passOn 22 = .ok (.iload_n 1, 1) := by decide +kernel
theorem dX3_passOn_23 : decode cX3_passOn 23 = .ok (.iaload, 1) := by decide +kernel
theorem dX3_passOn_24 : decode cX3_passOn 24 = .ok (.iload_n 3, 1) := by decide +kernel
theorem dX3_passOn_25 : decode cX3_passOn 25 = .ok (.idiv, 1) := by decide +kernel
theorem dX3_passOn_26 : decode cX3_passOn 26 = .ok (.istore 5, 2) := by decide +kernel
theorem dX3_passOn_28 : decode cX3_passOn 28 = .ok (.aload_n 0, 1) := by decide +kernel
theorem dX3_passOn_29 : decode cX3_passOn 29 = .ok (.getfield 27, 3) := by decide +kernel
theorem dX3_passOn_32 : decode cX3_passOn 32 = .ok (.iload_n 1, 1) := by decide +kernel
theorem dX3_passOn_33 : decode cX3_passOn 33 = .ok (.iaload, 1) := by decide +kernel
theorem dX3_passOn_34 : decode cX3_passOn 34 = .ok (.iload_n 3, 1) := by decide +kernel
theorem dX3_passOn_35 : decode cX3_passOn 35 = .ok (.irem, 1) := by decide +kernel
theorem dX3_passOn_36 : decode cX3_passOn 36 = .ok (.istore 6, 2) := by decide +kernel
theorem dX3_passOn_38 : decode cX3_passOn 38 = .ok (.iconst 0, 1) := by decide +kernel
theorem dX3_passOn_39 : decode cX3_passOn 39 = .ok (.istore 7, 2) := by decide +kernel
theorem dX3_passOn_41 : decode cX3_passOn 41 = .ok (.iload 7, 2) := by decide +kernel
theorem dX3_passOn_43 : decode cX3_passOn 43 = .ok (.aload_n 0, 1) := by decide +kernel
theorem dX3_passOn_44 : decode cX3_passOn 44 = .ok (.getfield 9, 3) := by decide +kernel
theorem dX3_passOn_47 : decode cX3_passOn 47 = .ok (.if_icmp .ge 45, 3) := by decide +kernel
theorem dX3_passOn_50 : decode cX3_passOn 50 = .ok (.iload_n 2, 1) := by decide +kernel
theorem dX3_passOn_51 : decode cX3_passOn 51 = .ok (.iload 7, 2) := by decide +kernel
theorem dX3_passOn_53 : decode cX3_passOn 53 = .ok (.invokestatic 60, 3) := by decide +kernel
theorem dX3_passOn_56 : decode cX3_passOn 56 = .ok (.ifCond .eq 30, 3) := by decide +kernel
theorem dX3_passOn_59 : decode cX3_passOn 59 = .ok (.aload_n 0, 1) := by decide +kernel
theorem dX3_passOn_60 : decode cX3_passOn 60 = .ok (.getfield 27, 3) := by decide +kernel
theorem dX3_passOn_63 : decode cX3_passOn 63 = .ok (.iload 7, 2) := by decide +kernel
theorem dX3_passOn_65 : decode cX3_passOn 65 = .ok (.dup2, 1) := by decide +kernel
theorem dX3_passOn_66 : decode cX3_passOn 66 = .ok (.iaload, 1) := by decide +kernel
theorem dX3_passOn_67 : decode cX3_passOn 67 = .ok (.iload 7, 2) := by decide +kernel
theorem dX3_passOn_69 : decode cX3_passOn 69 = .ok (.iload 4, 2) := by decide +kernel
theorem dX3_passOn_71 : decode cX3_passOn 71 = .ok (.if_icmp .ne 11, 3) := by decide +kernel
theorem dX3_passOn_74 : decode cX3_passOn 74 = .ok (.iload 5, 2) := by decide +kernel
theorem dX3_passOn_76 : decode cX3_passOn 76 = .ok (.iload 6, 2) := by decide +kernel
theorem dX3_passOn_78 : decode cX3_passOn 78 = .ok (.iadd, 1) := by decide +kernel
theorem dX3_passOn_79 : decode cX3_passOn 79 = .ok (.goto 5, 3) := by decide +kernel
theorem dX3_passOn_82 : decode cX3_passOn 82 = .ok (.iload 5, 2) := by decide +kernel
theorem dX3_passOn_84 : decode cX3_passOn 84 = .ok (.iadd, 1) := by decide +kernel
theorem dX3_passOn_85 : decode cX3_passOn 85 = .ok (.iastore, 1) := by decide +kernel
theorem dX3_passOn_86 : decode cX3_passOn 86 = .ok (.iinc 7 1, 3) := by decide +kernel
theorem dX3_passOn_89 : decode cX3_passOn 89 = .ok (.goto (-48), 3) := by decide +kernel
theorem dX3_passOn_92 : decode cX3_passOn 92 = .ok (.aload_n 0, 1) := by decide +kernel
theorem dX3_passOn_93 : decode cX3_passOn 93 = .ok (.getfield 27, 3) := by decide +kernel
theorem dX3_passOn_96 : decode cX3_passOn 96 = .ok (.iload_n 1, 1) := by decide +kernel
theorem dX3_passOn_97 : decode cX3_passOn 97 = .ok (.iconst 0, 1) := by decide +kernel
theorem dX3_passOn_98 : decode cX3_passOn 98 = .ok (.iastore, 1) := by decide +kernel
theorem dX3_passOn_99 : decode cX3_passOn 99 = .ok (.aload_n 0, 1) := by decide +kernel
theorem dX3_passOn_100 : decode cX3_passOn 100 = .ok (.dup, 1) := by decide +kernel
theorem dX3_passOn_101 : decode cX3_passOn 101 = .ok (.getfield 21, 3) := by decide +kernel
theorem dX3_passOn_104 : decode cX3_passOn 104 = .ok (.iconst 1, 1) := by decide +kernel
theorem dX3_passOn_105 : decode cX3_passOn 105 = .ok (.iload_n 1, 1) := by decide +kernel
theorem dX3_passOn_106 : decode cX3_passOn 106 = .ok (.ishl, 1) := by decide +kernel
theorem dX3_passOn_107 : decode cX3_passOn 107 = .ok (.iconst (-1), 1) := by decide +kernel
theorem dX3_passOn_108 : decode cX3_passOn 108 = .ok (.ixor, 1) := by decide +kernel
theorem dX3_passOn_109 : decode cX3_passOn 109 = .ok (.iand, 1) := by decide +kernel
theorem dX3_passOn_110 : decode cX3_passOn 110 = .ok (.putfield 21, 3) := by decide +kernel
theorem dX3_passOn_113 : decode cX3_passOn 113 = .ok (.aload_n 0, 1) := by decide +kernel
theorem dX3_passOn_114 : decode cX3_passOn 114 = .ok (.iload_n 1, 1) := by decide +kernel
theorem dX3_passOn_115 : decode cX3_passOn 115 = .ok (.iload 4, 2) := by decide +kernel
theorem dX3_passOn_117 : decode cX3_passOn 117 = .ok (.invokevirtual 112, 3) := by decide +kernel
theorem dX3_passOn_120 : decode cX3_passOn 120 = .ok (.ireturn, 1) := by decide +kernel
set_option maxRecDepth 20000 in
theorem ggX3_leastOf_X9_isIn : GoodIn wsX3_leastOf wsX9_isIn := goodIn_r _ [4] (by decide +kernel) (by decide +kernel)
set_option maxRecDepth 20000 in
theorem gX3_leastOf_X9_isIn_n60 : GoodIn wsX3_leastOf (wsX9_isIn) := ggX3_leastOf_X9_isIn
theorem dX3_leastOf_0 : decode cX3_leastOf 0 = .ok (.iconst 0, 1) := by decide +kernel
theorem dX3_leastOf_1 : decode cX3_leastOf 1 = .ok (.istore_n 2, 1) := by decide +kernel
theorem dX3_leastOf_2 : decode cX3_leastOf 2 = .ok (.iload_n 2, 1) := by decide +kernel
theorem dX3_leastOf_3 : decode cX3_leastOf 3 = .ok (.aload_n 0, 1) := by decide +kernel
theorem dX3_leastOf_4 : decode cX3_leastOf 4 = .ok (.getfield 9, 3) := by decide +kernel
theorem dX3_leastOf_7 : decode cX3_leastOf 7 = .ok (.if_icmp .ge 19, 3) := by decide +kernel
theorem dX3_leastOf_10 : decode cX3_leastOf 10 = .ok (.iload_n 1, 1) := by decide +kernel
theorem dX3_leastOf_11 : decode cX3_leastOf 11 = .ok (.iload_n 2, 1) := by decide +kernel
theorem dX3_leastOf_12 : decode cX3_leastOf 12 = .ok (.invokestatic 60, 3) := by decide +kernel
theorem dX3_leastOf_15 : decode cX3_leastOf 15 = .ok (.ifCond .eq 5, 3) := by decide +kernel
theorem dX3_leastOf_18 : decode cX3_leastOf 18 = .ok (.iload_n 2, 1) := by decide +kernel
theorem dX3_leastOf_19 : decode cX3_leastOf 19 = .ok (.ireturn, 1) := by decide +kernel
theorem dX3_leastOf_20 : decode cX3_leastOf 20 = .ok (.iinc 2 1, 3) := by decide +kernel
theorem dX3_leastOf_23 : decode cX3_leastOf 23 = .ok (.goto (-21), 3) := by decide +kernel
theorem dX3_leastOf_26 : decode cX3_leastOf 26 = .ok (.iconst 0, 1) := by decide +kernel
theorem dX3_leastOf_27 : decode cX3_leastOf 27 = .ok (.ireturn, 1) := by decide +kernel
set_option maxRecDepth 20000 in
theorem ggX3_passDebtsOn_X3_moveDebt : GoodIn wsX3_passDebtsOn wsX3_moveDebt := goodIn_r _ [8, 2, 3, 9, 10, 11, 12, 13, 14, 15, 16, 17, 18, 19, 20, 21] (by decide +kernel) (by decide +kernel)
set_option maxRecDepth 20000 in
theorem gX3_passDebtsOn_X3_moveDebt : GoodIn wsX3_passDebtsOn (wsV RX3 92 RX3 yX3_moveDebt wsX3_moveDebt) := goodIn_app (goodIn_of _ (by decide +kernel)) ggX3_passDebtsOn_X3_moveDebt
theorem dX3_passDebtsOn_0 : decode cX3_passDebtsOn 0 = .ok (.aload_n 0, 1) := by decide +kernel
theorem dX3_passDebtsOn_1 : decode cX3_passDebtsOn 1 = .ok (.getfield 15, 3) := by decide +kernel
theorem dX3_passDebtsOn_4 : decode cX3_passDebtsOn 4 = .ok (.istore_n 3, 1) := by decide +kernel
theorem dX3_passDebtsOn_5 : decode cX3_passDebtsOn 5 = .ok (.iconst 0, 1) := by decide +kernel
theorem dX3_passDebtsOn_6 : decode cX3_passDebtsOn 6 = .ok (.istore 4, 2) := by decide +kernel
theorem dX3_passDebtsOn_8 : decode cX3_passDebtsOn 8 = .ok (.iconst 0, 1) := by decide +kernel
theorem dX3_passDebtsOn_9 : decode cX3_passDebtsOn 9 = .ok (.istore 5, 2) := by decide +kernel
theorem dX3_passDebtsOn_11 : decode cX3_passDebtsOn 11 = .ok (.iload 5, 2) := by decide +kernel
theorem dX3_passDebtsOn_13 : decode cX3_passDebtsOn 13 = .ok (.iload_n 3, 1) := by decide +kernel
theorem dX3_passDebtsOn_14 : decode cX3_passDebtsOn 14 = .ok (.if_icmp .ge 75, 3) := by decide +kernel
theorem dX3_passDebtsOn_17 : decode cX3_passDebtsOn 17 = .ok (.aload_n 0, 1) := by decide +kernel
theorem dX3_passDebtsOn_18 : decode cX3_passDebtsOn 18 = .ok (.getfield 34, 3) := by decide +kernel
theorem dX3_passDebtsOn_21 : decode cX3_passDebtsOn 21 = .ok (.iload 5, 2) := by decide +kernel
theorem dX3_passDebtsOn_23 : decode cX3_passDebtsOn 23 = .ok (.iaload, 1) := by decide +kernel
theorem dX3_passDebtsOn_24 : decode cX3_passDebtsOn 24 = .ok (.iload_n 1, 1) := by decide +kernel
theorem dX3_passDebtsOn_25 : decode cX3_passDebtsOn 25 = .ok (.if_icmp .ne 11, 3) := by decide +kernel
theorem dX3_passDebtsOn_28 : decode cX3_passDebtsOn 28 = .ok (.aload_n 0, 1) := by decide +kernel
theorem dX3_passDebtsOn_29 : decode cX3_passDebtsOn 29 = .ok (.getfield 34, 3) := by decide +kernel
theorem dX3_passDebtsOn_32 : decode cX3_passDebtsOn 32 = .ok (.iload 5, 2) := by decide +kernel
theorem dX3_passDebtsOn_34 : decode cX3_passDebtsOn 34 = .ok (.iload_n 2, 1) := by decide +kernel
theorem dX3_passDebtsOn_35 : decode cX3_passDebtsOn 35 = .ok (.iastore, 1) := by decide +kernel
theorem dX3_passDebtsOn_36 : decode cX3_passDebtsOn 36 = .ok (.aload_n 0, 1) := by decide +kernel
theorem dX3_passDebtsOn_37 : decode cX3_passDebtsOn 37 = .ok (.getfield 37, 3) := by decide +kernel
theorem dX3_passDebtsOn_40 : decode cX3_passDebtsOn 40 = .ok (.iload 5, 2) := by decide +kernel
theorem dX3_passDebtsOn_42 : decode cX3_passDebtsOn 42 = .ok (.iaload, 1) := by decide +kernel
theorem dX3_passDebtsOn_43 : decode cX3_passDebtsOn 43 = .ok (.iload_n 1, 1) := by decide +kernel
theorem dX3_passDebtsOn_44 : decode cX3_passDebtsOn 44 = .ok (.if_icmp .ne 11, 3) := by decide +kernel
theorem dX3_passDebtsOn_47 : decode cX3_passDebtsOn 47 = .ok (.aload_n 0, 1) := by decide +kernel
theorem dX3_passDebtsOn_48 : decode cX3_passDebtsOn 48 = .ok (.getfield 37, 3) := by decide +kernel
theorem dX3_passDebtsOn_51 : decode cX3_passDebtsOn 51 = .ok (.iload 5, 2) := by decide +kernel
theorem dX3_passDebtsOn_53 : decode cX3_passDebtsOn 53 = .ok (.iload_n 2, 1) := by decide +kernel
theorem dX3_passDebtsOn_54 : decode cX3_passDebtsOn 54 = .ok (.iastore, 1) := by decide +kernel
theorem dX3_passDebtsOn_55 : decode cX3_passDebtsOn 55 = .ok (.aload_n 0, 1) := by decide +kernel
theorem dX3_passDebtsOn_56 : decode cX3_passDebtsOn 56 = .ok (.getfield 34, 3) := by decide +kernel
theorem dX3_passDebtsOn_59 : decode cX3_passDebtsOn 59 = .ok (.iload 5, 2) := by decide +kernel
theorem dX3_passDebtsOn_61 : decode cX3_passDebtsOn 61 = .ok (.iaload, 1) := by decide +kernel
theorem dX3_passDebtsOn_62 : decode cX3_passDebtsOn 62 = .ok (.aload_n 0, 1) := by decide +kernel
theorem dX3_passDebtsOn_63 : decode cX3_passDebtsOn 63 = .ok (.getfield 37, 3) := by decide +kernel
theorem dX3_passDebtsOn_66 : decode cX3_passDebtsOn 66 = .ok (.iload 5, 2) := by decide +kernel
theorem dX3_passDebtsOn_68 : decode cX3_passDebtsOn 68 = .ok (.iaload, 1) := by decide +kernel
theorem dX3_passDebtsOn_69 : decode cX3_passDebtsOn 69 = .ok (.if_icmp .eq 14, 3) := by decide +kernel
theorem dX3_passDebtsOn_72 : decode cX3_passDebtsOn 72 = .ok (.aload_n 0, 1) := by decide +kernel
theorem dX3_passDebtsOn_73 : decode cX3_passDebtsOn 73 = .ok (.iload 5, 2) := by decide +kernel
theorem dX3_passDebtsOn_75 : decode cX3_passDebtsOn 75 = .ok (.iload 4, 2) := by decide +kernel
theorem dX3_passDebtsOn_77 : decode cX3_passDebtsOn 77 = .ok (.invokevirtual 92, 3) := by decide +kernel
theorem dX3_passDebtsOn_80 : decode cX3_passDebtsOn 80 = .ok (.iinc 4 1, 3) := by decide +kernel
theorem dX3_passDebtsOn_83 : decode cX3_passDebtsOn 83 = .ok (.iinc 5 1, 3) := by decide +kernel
theorem dX3_passDebtsOn_86 : decode cX3_passDebtsOn 86 = .ok (.goto (-75), 3) := by decide +kernel
theorem dX3_passDebtsOn_89 : decode cX3_passDebtsOn 89 = .ok (.aload_n 0, 1) := by decide +kernel
theorem dX3_passDebtsOn_90 : decode cX3_passDebtsOn 90 = .ok (.iload 4, 2) := by decide +kernel
theorem dX3_passDebtsOn_92 : decode cX3_passDebtsOn 92 = .ok (.putfield 15, 3) := by decide +kernel
theorem dX3_passDebtsOn_95 : decode cX3_passDebtsOn 95 = .ok (.iload_n 3, 1) := by decide +kernel
theorem dX3_passDebtsOn_96 : decode cX3_passDebtsOn 96 = .ok (.iload 4, 2) := by decide +kernel
theorem dX3_passDebtsOn_98 : decode cX3_passDebtsOn 98 = .ok (.isub, 1) := by decide +kernel
theorem dX3_passDebtsOn_99 : decode cX3_passDebtsOn 99 = .ok (.ireturn, 1) := by decide +kernel
theorem dX3_forgive_0 : decode cX3_forgive 0 = .ok (.aload_n 0, 1) := by decide +kernel
theorem dX3_forgive_1 : decode cX3_forgive 1 = .ok (.getfield 15, 3) := by decide +kernel
theorem dX3_forgive_4 : decode cX3_forgive 4 = .ok (.istore_n 1, 1) := by decide +kernel
theorem dX3_forgive_5 : decode cX3_forgive 5 = .ok (.aload_n 0, 1) := by decide +kernel
theorem dX3_forgive_6 : decode cX3_forgive 6 = .ok (.iconst 0, 1) := by decide +kernel
theorem dX3_forgive_7 : decode cX3_forgive 7 = .ok (.putfield 15, 3) := by decide +kernel
theorem dX3_forgive_10 : decode cX3_forgive 10 = .ok (.aload_n 0, 1) := by decide +kernel
theorem dX3_forgive_11 : decode cX3_forgive 11 = .ok (.iconst 0, 1) := by decide +kernel
theorem dX3_forgive_12 : decode cX3_forgive 12 = .ok (.putfield 24, 3) := by decide +kernel
theorem dX3_forgive_15 : decode cX3_forgive 15 = .ok (.iload_n 1, 1) := by decide +kernel
theorem dX3_forgive_16 : decode cX3_forgive 16 = .ok (.ireturn, 1) := by decide +kernel
theorem dX4_init_0 : decode cX4_init 0 = .ok (.aload_n 0, 1) := by decide +kernel
theorem dX4_init_1 : decode cX4_init 1 = .ok (.invokespecial 3, 3) := by decide +kernel
theorem dX4_init_4 : decode cX4_init 4 = .ok (.aload_n 0, 1) := by decide +kernel
theorem dX4_init_5 : decode cX4_init 5 = .ok (.bipush 7, 2) := by decide +kernel
theorem dX4_init_7 : decode cX4_init 7 = .ok (.bipush 100, 2) := by decide +kernel
theorem dX4_init_9 : decode cX4_init 9 = .ok (.multianewarray 11 2, 4) := by decide +kernel
theorem dX4_init_13 : decode cX4_init 13 = .ok (.putfield 13, 3) := by decide +kernel
theorem dX4_init_16 : decode cX4_init 16 = .ok (.aload_n 0, 1) := by decide +kernel
theorem dX4_init_17 : decode cX4_init 17 = .ok (.bipush 6, 2) := by decide +kernel
theorem dX4_init_19 : decode cX4_init 19 = .ok (.newarray .int, 2) := by decide +kernel
theorem dX4_init_21 : decode cX4_init 21 = .ok (.putfield 16, 3) := by decide +kernel
theorem dX4_init_24 : decode cX4_init 24 = .ok (.return_, 1) := by decide +kernel
set_option maxRecDepth 20000 in
theorem ggX4_weigh_X3_isAlive : GoodIn wsX4_weigh wsX3_isAlive := goodIn_r _ [11, 12, 13, 14, 15, 29, 30, 31, 32, 33, 34, 35, 36, 37, 38, 39] (by decide +kernel) (by decide +kernel)
set_option maxRecDepth 20000 in
theorem gX4_weigh_X3_isAlive : GoodIn wsX4_weigh (wsV RX4 27 RX3 yX3_isAlive wsX3_isAlive) := goodIn_app (goodIn_of _ (by decide +kernel)) ggX4_weigh_X3_isAlive
set_option maxRecDepth 20000 in
theorem ggX4_weigh_X4_leastWith : GoodIn wsX4_weigh wsX4_leastWith := goodIn_r _ [20, 3, 4, 1, 21, 22, 23, 24, 25, 14, 26, 27, 28] (by decide +kernel) (by decide +kernel)
set_option maxRecDepth 20000 in
theorem gX4_weigh_X4_leastWith : GoodIn wsX4_weigh (wsV RX4 37 RX4 yX4_leastWith wsX4_leastWith) := goodIn_app (goodIn_of _ (by decide +kernel)) ggX4_weigh_X4_leastWith
theorem dX4_weigh_0 : decode cX4_weigh 0 = .ok (.iconst 0, 1) := by decide +kernel
theorem dX4_weigh_1 : decode cX4_weigh 1 = .ok (.istore 4, 2) := by decide +kernel
theorem dX4_weigh_3 : decode cX4_weigh 3 = .ok (.iload 4, 2) := by decide +kernel
theorem dX4_weigh_5 : decode cX4_weigh 5 = .ok (.iload_n 3, 1) := by decide +kernel
theorem dX4_weigh_6 : decode cX4_weigh 6 = .ok (.if_icmp .gt 39, 3) := by decide +kernel
theorem dX4_weigh_9 : decode cX4_weigh 9 = .ok (.iload 4, 2) := by decide +kernel
theorem dX4_weigh_11 : decode cX4_weigh 11 = .ok (.bipush 100, 2) := by decide +kernel
theorem dX4_weigh_13 : decode cX4_weigh 13 = .ok (.if_icmp .ge 32, 3) := by decide +kernel
theorem dX4_weigh_16 : decode cX4_weigh 16 = .ok (.aload_n 0, 1) := by decide +kernel
theorem dX4_weigh_17 : decode cX4_weigh 17 = .ok (.getfield 13, 3) := by decide +kernel
theorem dX4_weigh_20 : decode cX4_weigh 20 = .ok (.aload_n 1, 1) := by decide +kernel
theorem dX4_weigh_21 : decode cX4_weigh 21 = .ok (.getfield 20, 3) := by decide +kernel
theorem dX4_weigh_24 : decode cX4_weigh 24 = .ok (.aaload, 1) := by decide +kernel
theorem dX4_weigh_25 : decode cX4_weigh 25 = .ok (.iload 4, 2) := by decide +kernel
theorem dX4_weigh_27 : decode cX4_weigh 27 = .ok (.iload 4, 2) := by decide +kernel
theorem dX4_weigh_29 : decode cX4_weigh 29 = .ok (.ifCond .ne 7, 3) := by decide +kernel
theorem dX4_weigh_32 : decode cX4_weigh 32 = .ok (.iconst 0, 1) := by decide +kernel
theorem dX4_weigh_33 : decode cX4_weigh 33 = .ok (.goto 5, 3) := by decide +kernel
theorem dX4_weigh_36 : decode cX4_weigh 36 = .ok (.ldc 26, 2) := by decide +kernel
theorem dX4_weigh_38 : decode cX4_weigh 38 = .ok (.iastore, 1) := by decide +kernel
theorem dX4_weigh_39 : decode cX4_weigh 39 = .ok (.iinc 4 1, 3) := by decide +kernel
theorem dX4_weigh_42 : decode cX4_weigh 42 = .ok (.goto (-39), 3) := by decide +kernel
theorem dX4_weigh_45 : decode cX4_weigh 45 = .ok (.aload_n 1, 1) := by decide +kernel
theorem dX4_weigh_46 : decode cX4_weigh 46 = .ok (.getfield 20, 3) := by decide +kernel
theorem dX4_weigh_49 : decode cX4_weigh 49 = .ok (.iconst 1, 1) := by decide +kernel
theorem dX4_weigh_50 : decode cX4_weigh 50 = .ok (.isub, 1) := by decide +kernel
theorem dX4_weigh_51 : decode cX4_weigh 51 = .ok (.istore 4, 2) := by decide +kernel
theorem dX4_weigh_53 : decode cX4_weigh 53 = .ok (.iload 4, 2) := by decide +kernel
theorem dX4_weigh_55 : decode cX4_weigh 55 = .ok (.ifCond .lt 101, 3) := by decide +kernel
theorem dX4_weigh_58 : decode cX4_weigh 58 = .ok (.iload 4, 2) := by decide +kernel
theorem dX4_weigh_60 : decode cX4_weigh 60 = .ok (.iload_n 2, 1) := by decide +kernel
theorem dX4_weigh_61 : decode cX4_weigh 61 = .ok (.if_icmp .eq 16, 3) := by decide +kernel
theorem dX4_weigh_64 : decode cX4_weigh 64 = .ok (.aload_n 1, 1) := by decide +kernel
theorem dX4_weigh_65 : decode cX4_weigh 65 = .ok (.iload 4, 2) := by decide +kernel
theorem dX4_weigh_67 : decode cX4_weigh 67 = .ok (.invokevirtual 27, 3) := by decide +kernel
theorem dX4_weigh_70 : decode cX4_weigh 70 = .ok (.ifCond .eq 7, 3) := by decide +kernel
theorem dX4_weigh_73 : decode cX4_weigh 73 = .ok (.iconst 1, 1) := by decide +kernel
theorem dX4_weigh_74 : decode cX4_weigh 74 = .ok (.goto 4, 3) := by decide +kernel
theorem dX4_weigh_77 : decode cX4_weigh 77 = .ok (.iconst 0, 1) := by decide +kernel
theorem dX4_weigh_78 : decode cX4_weigh 78 = .ok (.istore 5, 2) := by decide +kernel
theorem dX4_weigh_80 : decode cX4_weigh 80 = .ok (.aload_n 0, 1) := by decide +kernel
theorem dX4_weigh_81 : decode cX4_weigh 81 = .ok (.getfield 16, 3) := by decide +kernel
theorem dX4_weigh_84 : decode cX4_weigh 84 = .ok (.iload 4, 2) := by decide +kernel
theorem dX4_weigh_86 : decode cX4_weigh 86 = .ok (.iload 5, 2) := by decide +kernel
theorem dX4_weigh_88 : decode cX4_weigh 88 = .ok (.ifCond .eq 13, 3) := by decide +kernel
theorem dX4_weigh_91 : decode cX4_weigh 91 = .ok (.aload_n 1, 1) := by decide +kernel
theorem dX4_weigh_92 : decode cX4_weigh 92 = .ok (.getfield 31, 3) := by decide +kernel
theorem dX4_weigh_95 : decode cX4_weigh 95 = .ok (.iload 4, 2) := by decide +kernel
theorem dX4_weigh_97 : decode cX4_weigh 97 = .ok (.iaload, 1) := by decide +kernel
theorem dX4_weigh_98 : decode cX4_weigh 98 = .ok (.goto 4, 3) := by decide +kernel
theorem dX4_weigh_101 : decode cX4_weigh 101 = .ok (.iconst 0, 1) := by decide +kernel
theorem dX4_weigh_102 : decode cX4_weigh 102 = .ok (.iastore, 1) := by decide +kernel
theorem dX4_weigh_103 : decode cX4_weigh 103 = .ok (.iconst 0, 1) := by decide +kernel
theorem dX4_weigh_104 : decode cX4_weigh 104 = .ok (.istore 6, 2) := by decide +kernel
theorem dX4_weigh_106 : decode cX4_weigh 106 = .ok (.iload 6, 2) := by decide +kernel
theorem dX4_weigh_108 : decode cX4_weigh 108 = .ok (.iload_n 3, 1) := by decide +kernel
theorem dX4_weigh_109 : decode cX4_weigh 109 = .ok (.if_icmp .gt 41, 3) := by decide +kernel
theorem dX4_weigh_112 : decode cX4_weigh 112 = .ok (.iload 6, 2) := by decide +kernel
theorem dX4_weigh_114 : decode cX4_weigh 114 = .ok (.bipush 100, 2) := by decide +kernel
theorem dX4_weigh_116 : decode cX4_weigh 116 = .ok (.if_icmp .ge 34, 3) := by decide +kernel
theorem dX4_weigh_119 : decode cX4_weigh 119 = .ok (.aload_n 0, 1) := by decide +kernel
theorem dX4_weigh_120 : decode cX4_weigh 120 = .ok (.getfield 13, 3) := by decide +kernel
theorem dX4_weigh_123 : decode cX4_weigh 123 = .ok (.iload 4, 2) := by decide +kernel
theorem dX4_weigh_125 : decode cX4_weigh 125 = .ok (.aaload, 1) := by decide +kernel
theorem dX4_weigh_126 : decode cX4_weigh 126 = .ok (.iload 6, 2) := by decide +kernel
theorem dX4_weigh_128 : decode cX4_weigh 128 = .ok (.aload_n 0, 1) := by decide +kernel
theorem dX4_weigh_129 : decode cX4_weigh 129 = .ok (.iload 4, 2) := by decide +kernel
theorem dX4_weigh_131 : decode cX4_weigh 131 = .ok (.aload_n 1, 1) := by decide +kernel
theorem dX4_weigh_132 : decode cX4_weigh 132 = .ok (.getfield 34, 3) := by decide +kernel
theorem dX4_weigh_135 : decode cX4_weigh 135 = .ok (.iload 4, 2) := by decide +kernel
theorem dX4_weigh_137 : decode cX4_weigh 137 = .ok (.iaload, 1) := by decide +kernel
theorem dX4_weigh_138 : decode cX4_weigh 138 = .ok (.iload 6, 2) := by decide +kernel
theorem dX4_weigh_140 : decode cX4_weigh 140 = .ok (.invokevirtual 37, 3) := by decide +kernel
theorem dX4_weigh_143 : decode cX4_weigh 143 = .ok (.iastore, 1) := by decide +kernel
theorem dX4_weigh_144 : decode cX4_weigh 144 = .ok (.iinc 6 1, 3) := by decide +kernel
theorem dX4_weigh_147 : decode cX4_weigh 147 = .ok (.goto (-41), 3) := by decide +kernel
theorem dX4_weigh_150 : decode cX4_weigh 150 = .ok (.iinc 4 (-1), 3) := by decide +kernel
theorem dX4_weigh_153 : decode cX4_weigh 153 = .ok (.goto (-100), 3) := by decide +kernel
theorem dX4_weigh_156 : decode cX4_weigh 156 = .ok (.return_, 1) := by decide +kernel
set_option maxRecDepth 20000 in
theorem ggX4_leastWith_X9_askedFor : GoodIn wsX4_leastWith wsX9_askedFor := goodIn_r _ [10] (by decide +kernel) (by decide +kernel)
set_option maxRecDepth 20000 in
theorem gX4_leastWith_X9_askedFor_n41 : GoodIn wsX4_leastWith (wsX9_askedFor) := ggX4_leastWith_X9_askedFor
theorem dX4_leastWith_0 : decode cX4_leastWith 0 = .ok (.ldc 26, 2) := by decide +kernel
theorem dX4_leastWith_2 : decode cX4_leastWith 2 = .ok (.istore 4, 2) := by decide +kernel
theorem dX4_leastWith_4 : decode cX4_leastWith 4 = .ok (.iconst 0, 1) := by decide +kernel
theorem dX4_leastWith_5 : decode cX4_leastWith 5 = .ok (.istore 5, 2) := by decide +kernel
theorem dX4_leastWith_7 : decode cX4_leastWith 7 = .ok (.iload 5, 2) := by decide +kernel
theorem dX4_leastWith_9 : decode cX4_leastWith 9 = .ok (.iload_n 3, 1) := by decide +kernel
theorem dX4_leastWith_10 : decode cX4_leastWith 10 = .ok (.if_icmp .gt 47, 3) := by decide +kernel
theorem dX4_leastWith_13 : decode cX4_leastWith 13 = .ok (.iload 5, 2) := by decide +kernel
theorem dX4_leastWith_15 : decode cX4_leastWith 15 = .ok (.aload_n 0, 1) := by decide +kernel
theorem dX4_leastWith_16 : decode cX4_leastWith 16 = .ok (.getfield 16, 3) := by decide +kernel
theorem dX4_leastWith_19 : decode cX4_leastWith 19 = .ok (.iload_n 1, 1) := by decide +kernel
theorem dX4_leastWith_20 : decode cX4_leastWith 20 = .ok (.iaload, 1) := by decide +kernel
theorem dX4_leastWith_21 : decode cX4_leastWith 21 = .ok (.if_icmp .gt 36, 3) := by decide +kernel
theorem dX4_leastWith_24 : decode cX4_leastWith 24 = .ok (.iload 4, 2) := by decide +kernel
theorem dX4_leastWith_26 : decode cX4_leastWith 26 = .ok (.iload 5, 2) := by decide +kernel
theorem dX4_leastWith_28 : decode cX4_leastWith 28 = .ok (.iload_n 2, 1) := by decide +kernel
theorem dX4_leastWith_29 : decode cX4_leastWith 29 = .ok (.invokestatic 41, 3) := by decide +kernel
theorem dX4_leastWith_32 : decode cX4_leastWith 32 = .ok (.aload_n 0, 1) := by decide +kernel
theorem dX4_leastWith_33 : decode cX4_leastWith 33 = .ok (.getfield 13, 3) := by decide +kernel
theorem dX4_leastWith_36 : decode cX4_leastWith 36 = .ok (.iload_n 1, 1) := by decide +kernel
theorem dX4_leastWith_37 : decode cX4_leastWith 37 = .ok (.iconst 1, 1) := by decide +kernel
theorem dX4_leastWith_38 : decode cX4_leastWith 38 = .ok (.iadd, 1) := by decide +kernel
theorem dX4_leastWith_39 : decode cX4_leastWith 39 = .ok (.aaload, 1) := by decide +kernel
theorem dX4_leastWith_40 : decode cX4_leastWith 40 = .ok (.iload_n 3, 1) := by decide +kernel
theorem dX4_leastWith_41 : decode cX4_leastWith 41 = .ok (.iload 5, 2) := by decide +kernel
theorem dX4_leastWith_43 : decode cX4_leastWith 43 = .ok (.isub, 1) := by decide +kernel
theorem dX4_leastWith_44 : decode cX4_leastWith 44 = .ok (.iaload, 1) := by decide +kernel
theorem dX4_leastWith_45 : decode cX4_leastWith 45 = .ok (.iadd, 1) := by decide +kernel
theorem dX4_leastWith_46 : decode cX4_leastWith 46 = .ok (.invokestatic 45, 3) := by decide +kernel
theorem dX4_leastWith_49 : decode cX4_leastWith 49 = .ok (.istore 4, 2) := by decide +kernel
theorem dX4_leastWith_51 : decode cX4_leastWith 51 = .ok (.iinc 5 1, 3) := by decide +kernel
theorem dX4_leastWith_54 : decode cX4_leastWith 54 = .ok (.goto (-47), 3) := by decide +kernel
theorem dX4_leastWith_57 : decode cX4_leastWith 57 = .ok (.iload 4, 2) := by decide +kernel
theorem dX4_leastWith_59 : decode cX4_leastWith 59 = .ok (.ireturn, 1) := by decide +kernel
theorem dX4_cheapest_0 : decode cX4_cheapest 0 = .ok (.aload_n 0, 1) := by decide +kernel
theorem dX4_cheapest_1 : decode cX4_cheapest 1 = .ok (.getfield 13, 3) := by decide +kernel
theorem dX4_cheapest_4 : decode cX4_cheapest 4 = .ok (.iconst 0, 1) := by decide +kernel
theorem dX4_cheapest_5 : decode cX4_cheapest 5 = .ok (.aaload, 1) := by decide +kernel
theorem dX4_cheapest_6 : decode cX4_cheapest 6 = .ok (.iload_n 1, 1) := by decide +kernel
theorem dX4_cheapest_7 : decode cX4_cheapest 7 = .ok (.iaload, 1) := by decide +kernel
theorem dX4_cheapest_8 : decode cX4_cheapest 8 = .ok (.ldc 26, 2) := by decide +kernel
theorem dX4_cheapest_10 : decode cX4_cheapest 10 = .ok (.if_icmp .ge 14, 3) := by decide +kernel
theorem dX4_cheapest_13 : decode cX4_cheapest 13 = .ok (.aload_n 0, 1) := by decide +kernel
theorem dX4_cheapest_14 : decode cX4_cheapest 14 = .ok (.getfield 13, 3) := by decide +kernel
theorem dX4_cheapest_17 : decode cX4_cheapest 17 = .ok (.iconst 0, 1) := by decide +kernel
theorem dX4_cheapest_18 : decode cX4_cheapest 18 = .ok (.aaload, 1) := by decide +kernel
theorem dX4_cheapest_19 : decode cX4_cheapest 19 = .ok (.iload_n 1, 1) := by decide +kernel
theorem dX4_cheapest_20 : decode cX4_cheapest 20 = .ok (.iaload, 1) := by decide +kernel
theorem dX4_cheapest_21 : decode cX4_cheapest 21 = .ok (.goto 5, 3) := by decide +kernel
theorem dX4_cheapest_24 : decode cX4_cheapest 24 = .ok (.bipush (-9), 2) := by decide +kernel
theorem dX4_cheapest_26 : decode cX4_cheapest 26 = .ok (.ireturn, 1) := by decide +kernel
set_option maxRecDepth 20000 in
theorem ggX4_lentBy_X4_cheapest : GoodIn wsX4_lentBy wsX4_cheapest := goodIn_r _ [7, 8, 9, 29, 30] (by decide +kernel) (by decide +kernel)
set_option maxRecDepth 20000 in
theorem gX4_lentBy_X4_cheapest : GoodIn wsX4_lentBy (wsV RX4 50 RX4 yX4_cheapest wsX4_cheapest) := goodIn_app (goodIn_of _ (by decide +kernel)) ggX4_lentBy_X4_cheapest
set_option maxRecDepth 20000 in
theorem ggX4_lentBy_X4_fewestOf : GoodIn wsX4_lentBy wsX4_fewestOf := goodIn_r _ [13, 14, 8, 15, 16, 17, 29, 30] (by decide +kernel) (by decide +kernel)
set_option maxRecDepth 20000 in
theorem gX4_lentBy_X4_fewestOf : GoodIn wsX4_lentBy (wsV RX4 54 RX4 yX4_fewestOf wsX4_fewestOf) := goodIn_app (goodIn_of _ (by decide +kernel)) ggX4_lentBy_X4_fewestOf
theorem dX4_lentBy_0 : decode cX4_lentBy 0 = .ok (.aload_n 0, 1) := by decide +kernel
theorem dX4_lentBy_1 : decode cX4_lentBy 1 = .ok (.iload_n 3, 1) := by decide +kernel
theorem dX4_lentBy_2 : decode cX4_lentBy 2 = .ok (.invokevirtual 50, 3) := by decide +kernel
theorem dX4_lentBy_5 : decode cX4_lentBy 5 = .ok (.bipush (-9), 2) := by decide +kernel
theorem dX4_lentBy_7 : decode cX4_lentBy 7 = .ok (.if_icmp .ne 6, 3) := by decide +kernel
theorem dX4_lentBy_10 : decode cX4_lentBy 10 = .ok (.bipush (-9), 2) := by decide +kernel
theorem dX4_lentBy_12 : decode cX4_lentBy 12 = .ok (.ireturn, 1) := by decide +kernel
theorem dX4_lentBy_13 : decode cX4_lentBy 13 = .ok (.iload_n 3, 1) := by decide +kernel
theorem dX4_lentBy_14 : decode cX4_lentBy 14 = .ok (.istore 4, 2) := by decide +kernel
theorem dX4_lentBy_16 : decode cX4_lentBy 16 = .ok (.iconst 0, 1) := by decide +kernel
theorem dX4_lentBy_17 : decode cX4_lentBy 17 = .ok (.istore 5, 2) := by decide +kernel
theorem dX4_lentBy_19 : decode cX4_lentBy 19 = .ok (.iconst 0, 1) := by decide +kernel
theorem dX4_lentBy_20 : decode cX4_lentBy 20 = .ok (.istore 6, 2) := by decide +kernel
theorem dX4_lentBy_22 : decode cX4_lentBy 22 = .ok (.iload 6, 2) := by decide +kernel
theorem dX4_lentBy_24 : decode cX4_lentBy 24 = .ok (.iload_n 2, 1) := by decide +kernel
theorem dX4_lentBy_25 : decode cX4_lentBy 25 = .ok (.if_icmp .gt 42, 3) := by decide +kernel
theorem dX4_lentBy_28 : decode cX4_lentBy 28 = .ok (.iload 6, 2) := by decide +kernel
theorem dX4_lentBy_30 : decode cX4_lentBy 30 = .ok (.aload_n 1, 1) := by decide +kernel
theorem dX4_lentBy_31 : decode cX4_lentBy 31 = .ok (.getfield 20, 3) := by decide +kernel
theorem dX4_lentBy_34 : decode cX4_lentBy 34 = .ok (.if_icmp .ge 33, 3) := by decide +kernel
theorem dX4_lentBy_37 : decode cX4_lentBy 37 = .ok (.aload_n 0, 1) := by decide +kernel
theorem dX4_lentBy_38 : decode cX4_lentBy 38 = .ok (.iload 6, 2) := by decide +kernel
theorem dX4_lentBy_40 : decode cX4_lentBy 40 = .ok (.aload_n 1, 1) := by decide +kernel
theorem dX4_lentBy_41 : decode cX4_lentBy 41 = .ok (.getfield 34, 3) := by decide +kernel
theorem dX4_lentBy_44 : decode cX4_lentBy 44 = .ok (.iload 6, 2) := by decide +kernel
theorem dX4_lentBy_46 : decode cX4_lentBy 46 = .ok (.iaload, 1) := by decide +kernel
theorem dX4_lentBy_47 : decode cX4_lentBy 47 = .ok (.iload 4, 2) := by decide +kernel
theorem dX4_lentBy_49 : decode cX4_lentBy 49 = .ok (.invokevirtual 54, 3) := by decide +kernel

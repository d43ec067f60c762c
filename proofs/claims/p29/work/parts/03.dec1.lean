theorem dX3_ring_9 : decode cX3_ring 9 = .ok (.new 47, 3) := by decide +kernel
theorem dX3_ring_12 : decode cX3_ring 12 = .ok (.dup, 1) := by decide +kernel
theorem dX3_ring_13 : decode cX3_ring 13 = .ok (.ldc 178, 2) := by decide +kernel
theorem dX3_ring_15 : decode cX3_ring 15 = .ok (.invokespecial 51, 3) := by decide +kernel
theorem dX3_ring_18 : decode cX3_ring 18 = .ok (.athrow, 1) := by decide +kernel
theorem dX3_ring_19 : decode cX3_ring 19 = .ok (.aload_n 0, 1) := by decide +kernel
theorem dX3_ring_20 : decode cX3_ring 20 = .ok (.getfield 19, 3) := by decide +kernel
theorem dX3_ring_23 : decode cX3_ring 23 = .ok (.invokevirtual 180, 3) := by decide +kernel
theorem dX3_ring_26 : decode cX3_ring 26 = .ok (.istore_n 2, 1) := by decide +kernel
theorem dX3_ring_27 : decode cX3_ring 27 = .ok (.iload_n 1, 1) := by decide +kernel
theorem dX3_ring_28 : decode cX3_ring 28 = .ok (.ifCond .eq 8, 3) := by decide +kernel
theorem dX3_ring_31 : decode cX3_ring 31 = .ok (.iload_n 2, 1) := by decide +kernel
theorem dX3_ring_32 : decode cX3_ring 32 = .ok (.iconst (-1), 1) := by decide +kernel
theorem dX3_ring_33 : decode cX3_ring 33 = .ok (.if_icmp .ne 7, 3) := by decide +kernel
theorem dX3_ring_36 : decode cX3_ring 36 = .ok (.iload_n 2, 1) := by decide +kernel
theorem dX3_ring_37 : decode cX3_ring 37 = .ok (.goto 11, 3) := by decide +kernel
theorem dX3_ring_40 : decode cX3_ring 40 = .ok (.aload_n 0, 1) := by decide +kernel
theorem dX3_ring_41 : decode cX3_ring 41 = .ok (.getfield 19, 3) := by decide +kernel
theorem dX3_ring_44 : decode cX3_ring 44 = .ok (.iload_n 2, 1) := by decide +kernel
theorem dX3_ring_45 : decode cX3_ring 45 = .ok (.invokevirtual 183, 3) := by decide +kernel
theorem dX3_ring_48 : decode cX3_ring 48 = .ok (.ireturn, 1) := by decide +kernel
set_option maxRecDepth 20000 in
theorem ggX3_hatch_X3_isRoom : GoodIn wsX3_hatch wsX3_isRoom := goodIn_r _ [11] (by decide +kernel) (by decide +kernel)
set_option maxRecDepth 20000 in
theorem gX3_hatch_X3_isRoom : GoodIn wsX3_hatch (va_wsS RX3 159 yX3_isRoom wsX3_isRoom) := goodIn_app (goodIn_of _ (by decide +kernel)) ggX3_hatch_X3_isRoom
set_option maxRecDepth 20000 in
theorem ggX3_hatch_X3_isLength : GoodIn wsX3_hatch wsX3_isLength := goodIn_r _ [14] (by decide +kernel) (by decide +kernel)
set_option maxRecDepth 20000 in
theorem gX3_hatch_X3_isLength : GoodIn wsX3_hatch (va_wsS RX3 186 yX3_isLength wsX3_isLength) := goodIn_app (goodIn_of _ (by decide +kernel)) ggX3_hatch_X3_isLength
set_option maxRecDepth 20000 in
theorem ggX3_hatch_X0_isFull : GoodIn wsX3_hatch wsX0_isFull := goodIn_r _ [19, 20, 61] (by decide +kernel) (by decide +kernel)
set_option maxRecDepth 20000 in
theorem gX3_hatch_X0_isFull : GoodIn wsX3_hatch (wsV RX3 191 RX0 yX0_isFull wsX0_isFull) := goodIn_app (goodIn_of _ (by decide +kernel)) ggX3_hatch_X0_isFull
set_option maxRecDepth 20000 in
theorem ggX3_hatch_X3_remember : GoodIn wsX3_hatch wsX3_remember := goodIn_r _ [24, 25, 7, 26, 27, 28, 29, 30, 18, 31, 20, 32, 33, 34, 35, 36, 37, 38, 39, 53, 54, 55, 56, 57, 58, 59, 60, 61, 62] (by decide +kernel) (by decide +kernel)
set_option maxRecDepth 20000 in
theorem gX3_hatch_X3_remember : GoodIn wsX3_hatch (wsV RX3 194 RX3 yX3_remember wsX3_remember) := goodIn_app (goodIn_of _ (by decide +kernel)) ggX3_hatch_X3_remember
set_option maxRecDepth 20000 in
theorem ggX3_hatch_X0_addCaterpillar : GoodIn wsX3_hatch wsX0_addCaterpillar := goodIn_r _ [43, 20, 44, 16, 17, 18, 19, 9, 10, 11, 13, 14, 45, 46, 47, 48, 61] (by decide +kernel) (by decide +kernel)
set_option maxRecDepth 20000 in
theorem gX3_hatch_X0_addCaterpillar : GoodIn wsX3_hatch (wsV RX3 103 RX0 yX0_addCaterpillar wsX0_addCaterpillar) := goodIn_app (goodIn_of _ (by decide +kernel)) ggX3_hatch_X0_addCaterpillar
set_option maxRecDepth 20000 in
theorem ggX3_hatch_X0_count : GoodIn wsX3_hatch wsX0_count := goodIn_r _ [52, 20, 61] (by decide +kernel) (by decide +kernel)
set_option maxRecDepth 20000 in
theorem gX3_hatch_X0_count : GoodIn wsX3_hatch (wsV RX3 120 RX0 yX0_count wsX0_count) := goodIn_app (goodIn_of _ (by decide +kernel)) ggX3_hatch_X0_count
theorem dX3_hatch_0 : decode cX3_hatch 0 = .ok (.iload_n 1, 1) := by decide +kernel
theorem dX3_hatch_1 : decode cX3_hatch 1 = .ok (.invokestatic 159, 3) := by decide +kernel
theorem dX3_hatch_4 : decode cX3_hatch 4 = .ok (.ifCond .eq 10, 3) := by decide +kernel
theorem dX3_hatch_7 : decode cX3_hatch 7 = .ok (.iload_n 2, 1) := by decide +kernel
theorem dX3_hatch_8 : decode cX3_hatch 8 = .ok (.invokestatic 159, 3) := by decide +kernel
theorem dX3_hatch_11 : decode cX3_hatch 11 = .ok (.ifCond .ne 13, 3) := by decide +kernel
theorem dX3_hatch_14 : decode cX3_hatch 14 = .ok (.new 146, 3) := by decide +kernel
theorem dX3_hatch_17 : decode cX3_hatch 17 = .ok (.dup, 1) := by decide +kernel
theorem dX3_hatch_18 : decode cX3_hatch 18 = .ok (.ldc 162, 2) := by decide +kernel
theorem dX3_hatch_20 : decode cX3_hatch 20 = .ok (.invokespecial 150, 3) := by decide +kernel
theorem dX3_hatch_23 : decode cX3_hatch 23 = .ok (.athrow, 1) := by decide +kernel
theorem dX3_hatch_24 : decode cX3_hatch 24 = .ok (.iload_n 3, 1) := by decide +kernel
theorem dX3_hatch_25 : decode cX3_hatch 25 = .ok (.invokestatic 186, 3) := by decide +kernel
theorem dX3_hatch_28 : decode cX3_hatch 28 = .ok (.ifCond .ne 13, 3) := by decide +kernel
theorem dX3_hatch_31 : decode cX3_hatch 31 = .ok (.new 47, 3) := by decide +kernel
theorem dX3_hatch_34 : decode cX3_hatch 34 = .ok (.dup, 1) := by decide +kernel
theorem dX3_hatch_35 : decode cX3_hatch 35 = .ok (.ldc 189, 2) := by decide +kernel
theorem dX3_hatch_37 : decode cX3_hatch 37 = .ok (.invokespecial 51, 3) := by decide +kernel
theorem dX3_hatch_40 : decode cX3_hatch 40 = .ok (.athrow, 1) := by decide +kernel
theorem dX3_hatch_41 : decode cX3_hatch 41 = .ok (.aload_n 0, 1) := by decide +kernel
theorem dX3_hatch_42 : decode cX3_hatch 42 = .ok (.getfield 19, 3) := by decide +kernel
theorem dX3_hatch_45 : decode cX3_hatch 45 = .ok (.invokevirtual 191, 3) := by decide +kernel
theorem dX3_hatch_48 : decode cX3_hatch 48 = .ok (.ifCond .eq 13, 3) := by decide +kernel
theorem dX3_hatch_51 : decode cX3_hatch 51 = .ok (.new 58, 3) := by decide +kernel
theorem dX3_hatch_54 : decode cX3_hatch 54 = .ok (.dup, 1) := by decide +kernel
theorem dX3_hatch_55 : decode cX3_hatch 55 = .ok (.ldc 192, 2) := by decide +kernel
theorem dX3_hatch_57 : decode cX3_hatch 57 = .ok (.invokespecial 62, 3) := by decide +kernel
theorem dX3_hatch_60 : decode cX3_hatch 60 = .ok (.athrow, 1) := by decide +kernel
theorem dX3_hatch_61 : decode cX3_hatch 61 = .ok (.aload_n 0, 1) := by decide +kernel
theorem dX3_hatch_62 : decode cX3_hatch 62 = .ok (.invokevirtual 194, 3) := by decide +kernel
theorem dX3_hatch_65 : decode cX3_hatch 65 = .ok (.aload_n 0, 1) := by decide +kernel
theorem dX3_hatch_66 : decode cX3_hatch 66 = .ok (.getfield 19, 3) := by decide +kernel
theorem dX3_hatch_69 : decode cX3_hatch 69 = .ok (.iload_n 1, 1) := by decide +kernel
theorem dX3_hatch_70 : decode cX3_hatch 70 = .ok (.iload_n 2, 1) := by decide +kernel
theorem dX3_hatch_71 : decode cX3_hatch 71 = .ok (.iload_n 3, 1) := by decide +kernel
theorem dX3_hatch_72 : decode cX3_hatch 72 = .ok (.invokevirtual 103, 3) := by decide +kernel
theorem dX3_hatch_75 : decode cX3_hatch 75 = .ok (.pop, 1) := by decide +kernel
theorem dX3_hatch_76 : decode cX3_hatch 76 = .ok (.aload_n 0, 1) := by decide +kernel
theorem dX3_hatch_77 : decode cX3_hatch 77 = .ok (.getfield 19, 3) := by decide +kernel
theorem dX3_hatch_80 : decode cX3_hatch 80 = .ok (.invokevirtual 120, 3) := by decide +kernel
theorem dX3_hatch_83 : decode cX3_hatch 83 = .ok (.iconst 1, 1) := by decide +kernel
theorem dX3_hatch_84 : decode cX3_hatch 84 = .ok (.isub, 1) := by decide +kernel
theorem dX3_hatch_85 : decode cX3_hatch 85 = .ok (.ireturn, 1) := by decide +kernel
set_option maxRecDepth 20000 in
theorem ggX3_ticks_X3_isTicks : GoodIn wsX3_ticks wsX3_isTicks := goodIn_r _ [7] (by decide +kernel) (by decide +kernel)
set_option maxRecDepth 20000 in
theorem gX3_ticks_X3_isTicks : GoodIn wsX3_ticks (va_wsS RX3 197 yX3_isTicks wsX3_isTicks) := goodIn_app (goodIn_of _ (by decide +kernel)) ggX3_ticks_X3_isTicks
set_option maxRecDepth 20000 in
theorem ggX3_ticks_X3_remember : GoodIn wsX3_ticks wsX3_remember := goodIn_r _ [11, 12, 3, 13, 14, 15, 16, 17, 18, 19, 20, 21, 22, 23, 24, 25, 26, 27, 28, 91, 92, 93, 94, 95, 96, 97, 98, 99, 100] (by decide +kernel) (by decide +kernel)
set_option maxRecDepth 20000 in
theorem gX3_ticks_X3_remember : GoodIn wsX3_ticks (wsV RX3 194 RX3 yX3_remember wsX3_remember) := goodIn_app (goodIn_of _ (by decide +kernel)) ggX3_ticks_X3_remember
set_option maxRecDepth 20000 in
theorem ggX3_ticks_X0_countWhere : GoodIn wsX3_ticks wsX0_countWhere := goodIn_r _ [32, 33, 34, 35, 18, 36, 37, 38, 39, 40, 20, 99] (by decide +kernel) (by decide +kernel)
set_option maxRecDepth 20000 in
theorem gX3_ticks_X0_countWhere : GoodIn wsX3_ticks (wsV RX3 123 RX0 yX0_countWhere wsX0_countWhere) := goodIn_app (goodIn_of _ (by decide +kernel)) ggX3_ticks_X0_countWhere
set_option maxRecDepth 20000 in
theorem ggX3_ticks_X0_runTicks : GoodIn wsX3_ticks wsX0_runTicks := goodIn_r _ [44, 5, 6, 7, 45, 46, 47, 18, 48, 20, 49, 50, 51, 52, 33, 34, 35, 36, 37, 38, 39, 40, 53, 54, 55, 56, 57, 58, 59, 60, 61, 62, 63, 64, 65, 66, 67, 68, 69, 70, 71, 72, 73, 74, 75, 76, 77, 78, 79, 80, 81, 82, 83, 84, 85, 86, 87, 88, 89, 90, 99] (by decide +kernel) (by decide +kernel)
set_option maxRecDepth 20000 in
theorem gX3_ticks_X0_runTicks : GoodIn wsX3_ticks (wsV RX3 107 RX0 yX0_runTicks wsX0_runTicks) := goodIn_app (goodIn_of _ (by decide +kernel)) ggX3_ticks_X0_runTicks
theorem dX3_ticks_0 : decode cX3_ticks 0 = .ok (.iload_n 1, 1) := by decide +kernel
theorem dX3_ticks_1 : decode cX3_ticks 1 = .ok (.invokestatic 197, 3) := by decide +kernel
theorem dX3_ticks_4 : decode cX3_ticks 4 = .ok (.ifCond .ne 13, 3) := by decide +kernel
theorem dX3_ticks_7 : decode cX3_ticks 7 = .ok (.new 47, 3) := by decide +kernel
theorem dX3_ticks_10 : decode cX3_ticks 10 = .ok (.dup, 1) := by decide +kernel
theorem dX3_ticks_11 : decode cX3_ticks 11 = .ok (.ldc 200, 2) := by decide +kernel
theorem dX3_ticks_13 : decode cX3_ticks 13 = .ok (.invokespecial 51, 3) := by decide +kernel
theorem dX3_ticks_16 : decode cX3_ticks 16 = .ok (.athrow, 1) := by decide +kernel
theorem dX3_ticks_17 : decode cX3_ticks 17 = .ok (.aload_n 0, 1) := by decide +kernel
theorem dX3_ticks_18 : decode cX3_ticks 18 = .ok (.invokevirtual 194, 3) := by decide +kernel
theorem dX3_ticks_21 : decode cX3_ticks 21 = .ok (.aload_n 0, 1) := by decide +kernel
theorem dX3_ticks_22 : decode cX3_ticks 22 = .ok (.getfield 19, 3) := by decide +kernel
theorem dX3_ticks_25 : decode cX3_ticks 25 = .ok (.iconst 2, 1) := by decide +kernel
theorem dX3_ticks_26 : decode cX3_ticks 26 = .ok (.invokevirtual 123, 3) := by decide +kernel
theorem dX3_ticks_29 : decode cX3_ticks 29 = .ok (.istore_n 2, 1) := by decide +kernel
theorem dX3_ticks_30 : decode cX3_ticks 30 = .ok (.aload_n 0, 1) := by decide +kernel
theorem dX3_ticks_31 : decode cX3_ticks 31 = .ok (.getfield 19, 3) := by decide +kernel
theorem dX3_ticks_34 : decode cX3_ticks 34 = .ok (.iload_n 1, 1) := by decide +kernel
theorem dX3_ticks_35 : decode cX3_ticks 35 = .ok (.invokevirtual 107, 3) := by decide +kernel
theorem dX3_ticks_38 : decode cX3_ticks 38 = .ok (.pop, 1) := by decide +kernel
theorem dX3_ticks_39 : decode cX3_ticks 39 = .ok (.aload_n 0, 1) := by decide +kernel
theorem dX3_ticks_40 : decode cX3_ticks 40 = .ok (.getfield 19, 3) := by decide +kernel
theorem dX3_ticks_43 : decode cX3_ticks 43 = .ok (.iconst 2, 1) := by decide +kernel
theorem dX3_ticks_44 : decode cX3_ticks 44 = .ok (.invokevirtual 123, 3) := by decide +kernel
theorem dX3_ticks_47 : decode cX3_ticks 47 = .ok (.iload_n 2, 1) := by decide +kernel
theorem dX3_ticks_48 : decode cX3_ticks 48 = .ok (.isub, 1) := by decide +kernel
theorem dX3_ticks_49 : decode cX3_ticks 49 = .ok (.ireturn, 1) := by decide +kernel
set_option maxRecDepth 20000 in
theorem ggX3_rule_X3_isRule : GoodIn wsX3_rule wsX3_isRule := goodIn_r _ [7] (by decide +kernel) (by decide +kernel)
set_option maxRecDepth 20000 in
theorem gX3_rule_X3_isRule : GoodIn wsX3_rule (va_wsS RX3 202 yX3_isRule wsX3_isRule) := goodIn_app (goodIn_of _ (by decide +kernel)) ggX3_rule_X3_isRule
set_option maxRecDepth 20000 in
theorem ggX3_rule_X3_remember : GoodIn wsX3_rule wsX3_remember := goodIn_r _ [11, 12, 3, 13, 14, 15, 16, 17, 18, 19, 20, 21, 22, 23, 24, 25, 26, 27, 28, 37, 38, 39, 40, 41, 42, 43, 44, 45, 46] (by decide +kernel) (by decide +kernel)
set_option maxRecDepth 20000 in
theorem gX3_rule_X3_remember : GoodIn wsX3_rule (wsV RX3 194 RX3 yX3_remember wsX3_remember) := goodIn_app (goodIn_of _ (by decide +kernel)) ggX3_rule_X3_remember
set_option maxRecDepth 20000 in
theorem ggX3_rule_X0_presentRule : GoodIn wsX3_rule wsX0_presentRule := goodIn_r _ [32, 20, 45] (by decide +kernel) (by decide +kernel)
set_option maxRecDepth 20000 in
theorem gX3_rule_X0_presentRule : GoodIn wsX3_rule (wsV RX3 135 RX0 yX0_presentRule wsX0_presentRule) := goodIn_app (goodIn_of _ (by decide +kernel)) ggX3_rule_X0_presentRule
set_option maxRecDepth 20000 in
theorem ggX3_rule_X0_setRule : GoodIn wsX3_rule wsX0_setRule := goodIn_r _ [36, 20, 5, 6, 7, 45] (by decide +kernel) (by decide +kernel)
set_option maxRecDepth 20000 in
theorem gX3_rule_X0_setRule : GoodIn wsX3_rule (wsV RX3 114 RX0 yX0_setRule wsX0_setRule) := goodIn_app (goodIn_of _ (by decide +kernel)) ggX3_rule_X0_setRule
theorem dX3_rule_0 : decode cX3_rule 0 = .ok (.iload_n 1, 1) := by decide +kernel
theorem dX3_rule_1 : decode cX3_rule 1 = .ok (.invokestatic 202, 3) := by decide +kernel
theorem dX3_rule_4 : decode cX3_rule 4 = .ok (.ifCond .ne 13, 3) := by decide +kernel
theorem dX3_rule_7 : decode cX3_rule 7 = .ok (.new 47, 3) := by decide +kernel
theorem dX3_rule_10 : decode cX3_rule 10 = .ok (.dup, 1) := by decide +kernel
theorem dX3_rule_11 : decode cX3_rule 11 = .ok (.ldc 205, 2) := by decide +kernel
theorem dX3_rule_13 : decode cX3_rule 13 = .ok (.invokespecial 51, 3) := by decide +kernel
theorem dX3_rule_16 : decode cX3_rule 16 = .ok (.athrow, 1) := by decide +kernel
theorem dX3_rule_17 : decode cX3_rule 17 = .ok (.aload_n 0, 1) := by decide +kernel
theorem dX3_rule_18 : decode cX3_rule 18 = .ok (.invokevirtual 194, 3) := by decide +kernel
theorem dX3_rule_21 : decode cX3_rule 21 = .ok (.aload_n 0, 1) := by decide +kernel
theorem dX3_rule_22 : decode cX3_rule 22 = .ok (.getfield 19, 3) := by decide +kernel
theorem dX3_rule_25 : decode cX3_rule 25 = .ok (.invokevirtual 135, 3) := by decide +kernel
theorem dX3_rule_28 : decode cX3_rule 28 = .ok (.istore_n 2, 1) := by decide +kernel
theorem dX3_rule_29 : decode cX3_rule 29 = .ok (.aload_n 0, 1) := by decide +kernel
theorem dX3_rule_30 : decode cX3_rule 30 = .ok (.getfield 19, 3) := by decide +kernel
theorem dX3_rule_33 : decode cX3_rule 33 = .ok (.iload_n 1, 1) := by decide +kernel
theorem dX3_rule_34 : decode cX3_rule 34 = .ok (.invokevirtual 114, 3) := by decide +kernel
theorem dX3_rule_37 : decode cX3_rule 37 = .ok (.pop, 1) := by decide +kernel
theorem dX3_rule_38 : decode cX3_rule 38 = .ok (.iload_n 2, 1) := by decide +kernel
theorem dX3_rule_39 : decode cX3_rule 39 = .ok (.ireturn, 1) := by decide +kernel
set_option maxRecDepth 20000 in
theorem ggX3_shut_X3_isRoom : GoodIn wsX3_shut wsX3_isRoom := goodIn_r _ [9] (by decide +kernel) (by decide +kernel)
set_option maxRecDepth 20000 in
theorem gX3_shut_X3_isRoom : GoodIn wsX3_shut (va_wsS RX3 159 yX3_isRoom wsX3_isRoom) := goodIn_app (goodIn_of _ (by decide +kernel)) ggX3_shut_X3_isRoom
set_option maxRecDepth 20000 in
theorem ggX3_shut_X0_isTaken : GoodIn wsX3_shut wsX0_isTaken := goodIn_r _ [14, 15, 16, 17, 13, 18, 19, 7, 8, 9, 60] (by decide +kernel) (by decide +kernel)
set_option maxRecDepth 20000 in
theorem gX3_shut_X0_isTaken : GoodIn wsX3_shut (wsV RX3 207 RX0 yX0_isTaken wsX0_isTaken) := goodIn_app (goodIn_of _ (by decide +kernel)) ggX3_shut_X0_isTaken
set_option maxRecDepth 20000 in
theorem ggX3_shut_X3_remember : GoodIn wsX3_shut wsX3_remember := goodIn_r _ [23, 24, 5, 25, 26, 27, 28, 29, 13, 30, 19, 31, 32, 33, 34, 35, 36, 37, 38, 52, 53, 54, 55, 56, 57, 58, 59, 60, 61] (by decide +kernel) (by decide +kernel)
set_option maxRecDepth 20000 in
theorem gX3_shut_X3_remember : GoodIn wsX3_shut (wsV RX3 194 RX3 yX3_remember wsX3_remember) := goodIn_app (goodIn_of _ (by decide +kernel)) ggX3_shut_X3_remember
set_option maxRecDepth 20000 in
theorem ggX3_shut_X0_setShut : GoodIn wsX3_shut wsX0_setShut := goodIn_r _ [42, 19, 7, 8, 9, 43, 11, 12, 13, 14, 15, 16, 17, 18, 60] (by decide +kernel) (by decide +kernel)
set_option maxRecDepth 20000 in
theorem gX3_shut_X0_setShut : GoodIn wsX3_shut (wsV RX3 110 RX0 yX0_setShut wsX0_setShut) := goodIn_app (goodIn_of _ (by decide +kernel)) ggX3_shut_X0_setShut
set_option maxRecDepth 20000 in
theorem ggX3_shut_X0_shutRooms : GoodIn wsX3_shut wsX0_shutRooms := goodIn_r _ [47, 48, 49, 50, 13, 51, 19, 7, 8, 9, 60] (by decide +kernel) (by decide +kernel)
set_option maxRecDepth 20000 in
theorem gX3_shut_X0_shutRooms : GoodIn wsX3_shut (wsV RX3 132 RX0 yX0_shutRooms wsX0_shutRooms) := goodIn_app (goodIn_of _ (by decide +kernel)) ggX3_shut_X0_shutRooms
theorem dX3_shut_0 : decode cX3_shut 0 = .ok (.iload_n 1, 1) := by decide +kernel
theorem dX3_shut_1 : decode cX3_shut 1 = .ok (.invokestatic 159, 3) := by decide +kernel
theorem dX3_shut_4 : decode cX3_shut 4 = .ok (.ifCond .ne 13, 3) := by decide +kernel
theorem dX3_shut_7 : decode cX3_shut 7 = .ok (.new 146, 3) := by decide +kernel
theorem dX3_shut_10 : decode cX3_shut 10 = .ok (.dup, 1) := by decide +kernel
theorem dX3_shut_11 : decode cX3_shut 11 = .ok (.ldc 162, 2) := by decide +kernel
theorem dX3_shut_13 : decode cX3_shut 13 = .ok (.invokespecial 150, 3) := by decide +kernel
theorem dX3_shut_16 : decode cX3_shut 16 = .ok (.athrow, 1) := by decide +kernel
theorem dX3_shut_17 : decode cX3_shut 17 = .ok (.iload_n 2, 1) := by decide +kernel
theorem dX3_shut_18 : decode cX3_shut 18 = .ok (.ifCond .eq 24, 3) := by decide +kernel
theorem dX3_shut_21 : decode cX3_shut 21 = .ok (.aload_n 0, 1) := by decide +kernel
theorem dX3_shut_22 : decode cX3_shut 22 = .ok (.getfield 19, 3) := by decide +kernel
theorem dX3_shut_25 : decode cX3_shut 25 = .ok (.iload_n 1, 1) := by decide +kernel
theorem dX3_shut_26 : decode cX3_shut 26 = .ok (.invokevirtual 207, 3) := by decide +kernel
theorem dX3_shut_29 : decode cX3_shut 29 = .ok (.ifCond .eq 13, 3) := by decide +kernel
theorem dX3_shut_32 : decode cX3_shut 32 = .ok (.new 58, 3) := by decide +kernel
theorem dX3_shut_35 : decode cX3_shut 35 = .ok (.dup, 1) := by decide +kernel
theorem dX3_shut_36 : decode cX3_shut 36 = .ok (.ldc 210, 2) := by decide +kernel
theorem dX3_shut_38 : decode cX3_shut 38 = .ok (.invokespecial 62, 3) := by decide +kernel
theorem dX3_shut_41 : decode cX3_shut 41 = .ok (.athrow, 1) := by decide +kernel
theorem dX3_shut_42 : decode cX3_shut 42 = .ok (.aload_n 0, 1) := by decide +kernel
theorem dX3_shut_43 : decode cX3_shut 43 = .ok (.invokevirtual 194, 3) := by decide +kernel
theorem dX3_shut_46 : decode cX3_shut 46 = .ok (.aload_n 0, 1) := by decide +kernel
theorem dX3_shut_47 : decode cX3_shut 47 = .ok (.getfield 19, 3) := by decide +kernel
theorem dX3_shut_50 : decode cX3_shut 50 = .ok (.iload_n 1, 1) := by decide +kernel
theorem dX3_shut_51 : decode cX3_shut 51 = .ok (.iload_n 2, 1) := by decide +kernel
theorem dX3_shut_52 : decode cX3_shut 52 = .ok (.invokevirtual 110, 3) := by decide +kernel
theorem dX3_shut_55 : decode cX3_shut 55 = .ok (.pop, 1) := by decide +kernel
theorem dX3_shut_56 : decode cX3_shut 56 = .ok (.aload_n 0, 1) := by decide +kernel
theorem dX3_shut_57 : decode cX3_shut 57 = .ok (.getfield 19, 3) := by decide +kernel
theorem dX3_shut_60 : decode cX3_shut 60 = .ok (.invokevirtual 132, 3) := by decide +kernel
theorem dX3_shut_63 : decode cX3_shut 63 = .ok (.ireturn, 1) := by decide +kernel
set_option maxRecDepth 20000 in
theorem ggX3_pull_X0_has : GoodIn wsX3_pull wsX0_has := goodIn_r _ [10, 11, 72] (by decide +kernel) (by decide +kernel)
set_option maxRecDepth 20000 in
theorem gX3_pull_X0_has : GoodIn wsX3_pull (wsV RX3 143 RX0 yX0_has wsX0_has) := goodIn_app (goodIn_of _ (by decide +kernel)) ggX3_pull_X0_has
set_option maxRecDepth 20000 in
theorem ggX3_pull_X0_isUnderWay : GoodIn wsX3_pull wsX0_isUnderWay := goodIn_r _ [15, 16, 17, 18, 9, 19, 20, 21, 22, 23, 11, 72] (by decide +kernel) (by decide +kernel)
set_option maxRecDepth 20000 in
theorem gX3_pull_X0_isUnderWay : GoodIn wsX3_pull (wsV RX3 212 RX0 yX0_isUnderWay wsX0_isUnderWay) := goodIn_app (goodIn_of _ (by decide +kernel)) ggX3_pull_X0_isUnderWay
set_option maxRecDepth 20000 in
theorem ggX3_pull_X3_remember : GoodIn wsX3_pull wsX3_remember := goodIn_r _ [28, 29, 5, 30, 31, 32, 33, 34, 9, 35, 11, 36, 37, 38, 39, 40, 41, 42, 43, 64, 65, 66, 67, 68, 69, 70, 71, 72, 73] (by decide +kernel) (by decide +kernel)
set_option maxRecDepth 20000 in
theorem gX3_pull_X3_remember : GoodIn wsX3_pull (wsV RX3 194 RX3 yX3_remember wsX3_remember) := goodIn_app (goodIn_of _ (by decide +kernel)) ggX3_pull_X3_remember
set_option maxRecDepth 20000 in
theorem ggX3_pull_X0_number : GoodIn wsX3_pull wsX0_number := goodIn_r _ [23, 11, 72] (by decide +kernel) (by decide +kernel)
set_option maxRecDepth 20000 in
theorem gX3_pull_X0_number : GoodIn wsX3_pull (wsV RX3 153 RX0 yX0_number wsX0_number) := goodIn_app (goodIn_of _ (by decide +kernel)) ggX3_pull_X0_number
set_option maxRecDepth 20000 in
theorem ggX3_pull_X0_pullOut : GoodIn wsX3_pull wsX0_pullOut := goodIn_r _ [48, 49, 13, 14, 9, 15, 16, 17, 18, 19, 20, 21, 22, 23, 11, 50, 51, 52, 53, 54, 27, 55, 56, 57, 58, 59, 60, 61, 62, 63, 72] (by decide +kernel) (by decide +kernel)
set_option maxRecDepth 20000 in
theorem gX3_pull_X0_pullOut : GoodIn wsX3_pull (wsV RX3 117 RX0 yX0_pullOut wsX0_pullOut) := goodIn_app (goodIn_of _ (by decide +kernel)) ggX3_pull_X0_pullOut
theorem dX3_pull_0 : decode cX3_pull 0 = .ok (.aload_n 0, 1) := by decide +kernel
theorem dX3_pull_1 : decode cX3_pull 1 = .ok (.getfield 19, 3) := by decide +kernel
theorem dX3_pull_4 : decode cX3_pull 4 = .ok (.iload_n 1, 1) := by decide +kernel
theorem dX3_pull_5 : decode cX3_pull 5 = .ok (.invokevirtual 143, 3) := by decide +kernel
theorem dX3_pull_8 : decode cX3_pull 8 = .ok (.ifCond .ne 13, 3) := by decide +kernel
theorem dX3_pull_11 : decode cX3_pull 11 = .ok (.new 146, 3) := by decide +kernel
theorem dX3_pull_14 : decode cX3_pull 14 = .ok (.dup, 1) := by decide +kernel
theorem dX3_pull_15 : decode cX3_pull 15 = .ok (.ldc 148, 2) := by decide +kernel
theorem dX3_pull_17 : decode cX3_pull 17 = .ok (.invokespecial 150, 3) := by decide +kernel
theorem dX3_pull_20 : decode cX3_pull 20 = .ok (.athrow, 1) := by decide +kernel
theorem dX3_pull_21 : decode cX3_pull 21 = .ok (.aload_n 0, 1) := by decide +kernel
theorem dX3_pull_22 : decode cX3_pull 22 = .ok (.getfield 19, 3) := by decide +kernel
theorem dX3_pull_25 : decode cX3_pull 25 = .ok (.iload_n 1, 1) := by decide +kernel
theorem dX3_pull_26 : decode cX3_pull 26 = .ok (.invokevirtual 212, 3) := by decide +kernel
theorem dX3_pull_29 : decode cX3_pull 29 = .ok (.ifCond .ne 13, 3) := by decide +kernel
theorem dX3_pull_32 : decode cX3_pull 32 = .ok (.new 58, 3) := by decide +kernel
theorem dX3_pull_35 : decode cX3_pull 35 = .ok (.dup, 1) := by decide +kernel
theorem dX3_pull_36 : decode cX3_pull 36 = .ok (.ldc 215, 2) := by decide +kernel
theorem dX3_pull_38 : decode cX3_pull 38 = .ok (.invokespecial 62, 3) := by decide +kernel
theorem dX3_pull_41 : decode cX3_pull 41 = .ok (.athrow, 1) := by decide +kernel
theorem dX3_pull_42 : decode cX3_pull 42 = .ok (.aload_n 0, 1) := by decide +kernel
theorem dX3_pull_43 : decode cX3_pull 43 = .ok (.invokevirtual 194, 3) := by decide +kernel
theorem dX3_pull_46 : decode cX3_pull 46 = .ok (.aload_n 0, 1) := by decide +kernel
theorem dX3_pull_47 : decode cX3_pull 47 = .ok (.getfield 19, 3) := by decide +kernel
theorem dX3_pull_50 : decode cX3_pull 50 = .ok (.iload_n 1, 1) := by decide +kernel
theorem dX3_pull_51 : decode cX3_pull 51 = .ok (.iconst 1, 1) := by decide +kernel
theorem dX3_pull_52 : decode cX3_pull 52 = .ok (.invokevirtual 153, 3) := by decide +kernel
theorem dX3_pull_55 : decode cX3_pull 55 = .ok (.istore_n 2, 1) := by decide +kernel
theorem dX3_pull_56 : decode cX3_pull 56 = .ok (.aload_n 0, 1) := by decide +kernel
theorem dX3_pull_57 : decode cX3_pull 57 = .ok (.getfield 19, 3) := by decide +kernel
theorem dX3_pull_60 : decode cX3_pull 60 = .ok (.iload_n 1, 1) := by decide +kernel
theorem dX3_pull_61 : decode cX3_pull 61 = .ok (.invokevirtual 117, 3) := by decide +kernel
theorem dX3_pull_64 : decode cX3_pull 64 = .ok (.pop, 1) := by decide +kernel
theorem dX3_pull_65 : decode cX3_pull 65 = .ok (.iload_n 2, 1) := by decide +kernel
theorem dX3_pull_66 : decode cX3_pull 66 = .ok (.ireturn, 1) := by decide +kernel
set_option maxRecDepth 20000 in
theorem ggX3_undo_X0_readFrom : GoodIn wsX3_undo wsX0_readFrom := goodIn_r _ [11, 12, 13, 14, 15, 16, 17, 18, 19, 20, 29, 30] (by decide +kernel) (by decide +kernel)
set_option maxRecDepth 20000 in
theorem gX3_undo_X0_readFrom : GoodIn wsX3_undo (wsV RX3 219 RX0 yX0_readFrom wsX0_readFrom) := goodIn_app (goodIn_of _ (by decide +kernel)) ggX3_undo_X0_readFrom
theorem dX3_undo_0 : decode cX3_undo 0 = .ok (.aload_n 0, 1) := by decide +kernel
theorem dX3_undo_1 : decode cX3_undo 1 = .ok (.getfield 34, 3) := by decide +kernel
theorem dX3_undo_4 : decode cX3_undo 4 = .ok (.ifCond .ne 13, 3) := by decide +kernel
theorem dX3_undo_7 : decode cX3_undo 7 = .ok (.new 58, 3) := by decide +kernel
theorem dX3_undo_10 : decode cX3_undo 10 = .ok (.dup, 1) := by decide +kernel
theorem dX3_undo_11 : decode cX3_undo 11 = .ok (.ldc 217, 2) := by decide +kernel
theorem dX3_undo_13 : decode cX3_undo 13 = .ok (.invokespecial 62, 3) := by decide +kernel
theorem dX3_undo_16 : decode cX3_undo 16 = .ok (.athrow, 1) := by decide +kernel
theorem dX3_undo_17 : decode cX3_undo 17 = .ok (.aload_n 0, 1) := by decide +kernel
theorem dX3_undo_18 : decode cX3_undo 18 = .ok (.getfield 19, 3) := by decide +kernel
theorem dX3_undo_21 : decode cX3_undo 21 = .ok (.aload_n 0, 1) := by decide +kernel
theorem dX3_undo_22 : decode cX3_undo 22 = .ok (.getfield 26, 3) := by decide +kernel
theorem dX3_undo_25 : decode cX3_undo 25 = .ok (.aload_n 0, 1) := by decide +kernel
theorem dX3_undo_26 : decode cX3_undo 26 = .ok (.getfield 30, 3) := by decide +kernel
theorem dX3_undo_29 : decode cX3_undo 29 = .ok (.invokevirtual 219, 3) := by decide +kernel
theorem dX3_undo_32 : decode cX3_undo 32 = .ok (.aload_n 0, 1) := by decide +kernel
theorem dX3_undo_33 : decode cX3_undo 33 = .ok (.aload_n 0, 1) := by decide +kernel
theorem dX3_undo_34 : decode cX3_undo 34 = .ok (.getfield 30, 3) := by decide +kernel
theorem dX3_undo_37 : decode cX3_undo 37 = .ok (.bipush 14, 2) := by decide +kernel
theorem dX3_undo_39 : decode cX3_undo 39 = .ok (.iadd, 1) := by decide +kernel
theorem dX3_undo_40 : decode cX3_undo 40 = .ok (.iconst 1, 1) := by decide +kernel
theorem dX3_undo_41 : decode cX3_undo 41 = .ok (.isub, 1) := by decide +kernel
theorem dX3_undo_42 : decode cX3_undo 42 = .ok (.bipush 14, 2) := by decide +kernel
theorem dX3_undo_44 : decode cX3_undo 44 = .ok (.irem, 1) := by decide +kernel
theorem dX3_undo_45 : decode cX3_undo 45 = .ok (.putfield 30, 3) := by decide +kernel
theorem dX3_undo_48 : decode cX3_undo 48 = .ok (.aload_n 0, 1) := by decide +kernel
theorem dX3_undo_49 : decode cX3_undo 49 = .ok (.dup, 1) := by decide +kernel
theorem dX3_undo_50 : decode cX3_undo 50 = .ok (.getfield 34, 3) := by decide +kernel
theorem dX3_undo_53 : decode cX3_undo 53 = .ok (.iconst 1, 1) := by decide +kernel
theorem dX3_undo_54 : decode cX3_undo 54 = .ok (.isub, 1) := by decide +kernel
theorem dX3_undo_55 : decode cX3_undo 55 = .ok (.putfield 34, 3) := by decide +kernel
theorem dX3_undo_58 : decode cX3_undo 58 = .ok (.aload_n 0, 1) := by decide +kernel
theorem dX3_undo_59 : decode cX3_undo 59 = .ok (.getfield 34, 3) := by decide +kernel
theorem dX3_undo_62 : decode cX3_undo 62 = .ok (.ireturn, 1) := by decide +kernel
set_option maxRecDepth 20000 in
theorem ggX3_remember_X0_writeTo : GoodIn wsX3_remember wsX0_writeTo := goodIn_r _ [9, 10, 11, 12, 13, 14, 15, 16, 17, 18, 27, 28] (by decide +kernel) (by decide +kernel)
set_option maxRecDepth 20000 in
theorem gX3_remember_X0_writeTo : GoodIn wsX3_remember (wsV RX3 223 RX0 yX0_writeTo wsX0_writeTo) := goodIn_app (goodIn_of _ (by decide +kernel)) ggX3_remember_X0_writeTo
theorem dX3_remember_0 : decode cX3_remember 0 = .ok (.aload_n 0, 1) := by decide +kernel
theorem dX3_remember_1 : decode cX3_remember 1 = .ok (.aload_n 0, 1) := by decide +kernel
theorem dX3_remember_2 : decode cX3_remember 2 = .ok (.getfield 30, 3) := by decide +kernel
theorem dX3_remember_5 : decode cX3_remember 5 = .ok (.iconst 1, 1) := by decide +kernel
theorem dX3_remember_6 : decode cX3_remember 6 = .ok (.iadd, 1) := by decide +kernel
theorem dX3_remember_7 : decode cX3_remember 7 = .ok (.bipush 14, 2) := by decide +kernel
theorem dX3_remember_9 : decode cX3_remember 9 = .ok (.irem, 1) := by decide +kernel
theorem dX3_remember_10 : decode cX3_remember 10 = .ok (.putfield 30, 3) := by decide +kernel
theorem dX3_remember_13 : decode cX3_remember 13 = .ok (.aload_n 0, 1) := by decide +kernel
theorem dX3_remember_14 : decode cX3_remember 14 = .ok (.getfield 19, 3) := by decide +kernel
theorem dX3_remember_17 : decode cX3_remember 17 = .ok (.aload_n 0, 1) := by decide +kernel
theorem dX3_remember_18 : decode cX3_remember 18 = .ok (.getfield 26, 3) := by decide +kernel
theorem dX3_remember_21 : decode cX3_remember 21 = .ok (.aload_n 0, 1) := by decide +kernel
theorem dX3_remember_22 : decode cX3_remember 22 = .ok (.getfield 30, 3) := by decide +kernel
theorem dX3_remember_25 : decode cX3_remember 25 = .ok (.invokevirtual 223, 3) := by decide +kernel
theorem dX3_remember_28 : decode cX3_remember 28 = .ok (.aload_n 0, 1) := by decide +kernel
theorem dX3_remember_29 : decode cX3_remember 29 = .ok (.getfield 34, 3) := by decide +kernel
theorem dX3_remember_32 : decode cX3_remember 32 = .ok (.bipush 14, 2) := by decide +kernel
theorem dX3_remember_34 : decode cX3_remember 34 = .ok (.if_icmp .ge 13, 3) := by decide +kernel
theorem dX3_remember_37 : decode cX3_remember 37 = .ok (.aload_n 0, 1) := by decide +kernel
theorem dX3_remember_38 : decode cX3_remember 38 = .ok (.dup, 1) := by decide +kernel
theorem dX3_remember_39 : decode cX3_remember 39 = .ok (.getfield 34, 3) := by decide +kernel
theorem dX3_remember_42 : decode cX3_remember 42 = .ok (.iconst 1, 1) := by decide +kernel
theorem dX3_remember_43 : decode cX3_remember 43 = .ok (.iadd, 1) := by decide +kernel
theorem dX3_remember_44 : decode cX3_remember 44 = .ok (.putfield 34, 3) := by decide +kernel
theorem dX3_remember_47 : decode cX3_remember 47 = .ok (.return_, 1) := by decide +kernel
theorem dX3_forgetRemembered_0 : decode cX3_forgetRemembered 0 = .ok (.aload_n 0, 1) := by decide +kernel
theorem dX3_forgetRemembered_1 : decode cX3_forgetRemembered 1 = .ok (.iconst 0, 1) := by decide +kernel
theorem dX3_forgetRemembered_2 : decode cX3_forgetRemembered 2 = .ok (.putfield 34, 3) := by decide +kernel
theorem dX3_forgetRemembered_5 : decode cX3_forgetRemembered 5 = .ok (.return_, 1) := by decide +kernel
set_option maxRecDepth 20000 in
theorem ggX3_goneIn_X0_has : GoodIn wsX3_goneIn wsX0_has := goodIn_r _ [8, 9, 107] (by decide +kernel) (by decide +kernel)
set_option maxRecDepth 20000 in
theorem gX3_goneIn_X0_has : GoodIn wsX3_goneIn (wsV RX3 143 RX0 yX0_has wsX0_has) := goodIn_app (goodIn_of _ (by decide +kernel)) ggX3_goneIn_X0_has
set_option maxRecDepth 20000 in
theorem ggX3_goneIn_X3_ticksUntilGone : GoodIn wsX3_goneIn wsX3_ticksUntilGone := goodIn_r _ [14, 15, 16, 17, 18, 19, 20, 21, 22, 13, 23, 24, 25, 26, 7, 27, 9, 28, 29, 30, 31, 32, 33, 34, 35, 36, 37, 38, 39, 40, 41, 42, 43, 44, 45, 46, 47, 48, 49, 50, 51, 52, 53, 54, 55, 56, 57, 58, 59, 60, 61, 62, 63, 64, 65, 66, 67, 68, 69, 70, 71, 72, 73, 74, 75, 76, 77, 78, 79, 80, 81, 82, 83, 84, 85, 86, 87, 88, 89, 90, 91, 92, 93, 94, 95, 96, 97, 98, 99, 100, 101, 102, 103, 104, 105, 106, 107] (by decide +kernel) (by decide +kernel)
set_option maxRecDepth 20000 in
theorem gX3_goneIn_X3_ticksUntilGone : GoodIn wsX3_goneIn (wsV RX3 226 RX3 yX3_ticksUntilGone wsX3_ticksUntilGone) := goodIn_app (goodIn_of _ (by decide +kernel)) ggX3_goneIn_X3_ticksUntilGone
theorem dX3_goneIn_0 : decode cX3_goneIn 0 = .ok (.aload_n 0, 1) := by decide +kernel
theorem dX3_goneIn_1 : decode cX3_goneIn 1 = .ok (.getfield 19, 3) := by decide +kernel
theorem dX3_goneIn_4 : decode cX3_goneIn 4 = .ok (.iload_n 1, 1) := by decide +kernel
theorem dX3_goneIn_5 : decode cX3_goneIn 5 = .ok (.invokevirtual 143, 3) := by decide +kernel
theorem dX3_goneIn_8 : decode cX3_goneIn 8 = .ok (.ifCond .ne 13, 3) := by decide +kernel
theorem dX3_goneIn_11 : decode cX3_goneIn 11 = .ok (.new 146, 3) := by decide +kernel
theorem dX3_goneIn_14 : decode cX3_goneIn 14 = .ok (.dup, 1) := by decide +kernel
theorem dX3_goneIn_15 : decode cX3_goneIn 15 = .ok (.ldc 148, 2) := by decide +kernel
theorem dX3_goneIn_17 : decode cX3_goneIn 17 = .ok (.invokespecial 150, 3) := by decide +kernel
theorem dX3_goneIn_20 : decode cX3_goneIn 20 = .ok (.athrow, 1) := by decide +kernel
theorem dX3_goneIn_21 : decode cX3_goneIn 21 = .ok (.aload_n 0, 1) := by decide +kernel
theorem dX3_goneIn_22 : decode cX3_goneIn 22 = .ok (.aload_n 0, 1) := by decide +kernel
theorem dX3_goneIn_23 : decode cX3_goneIn 23 = .ok (.getfield 19, 3) := by decide +kernel
theorem dX3_goneIn_26 : decode cX3_goneIn 26 = .ok (.iload_n 1, 1) := by decide +kernel
theorem dX3_goneIn_27 : decode cX3_goneIn 27 = .ok (.invokevirtual 226, 3) := by decide +kernel
theorem dX3_goneIn_30 : decode cX3_goneIn 30 = .ok (.ireturn, 1) := by decide +kernel
set_option maxRecDepth 20000 in
theorem ggX3_throughIn_X3_runAhead : GoodIn wsX3_throughIn wsX3_runAhead := goodIn_r _ [6, 7, 8, 9, 10, 11, 12, 13, 14, 15, 16, 17, 18, 19, 20, 21, 22, 23, 24, 25, 26, 27, 28, 29, 30, 31, 32, 33, 34, 35, 36, 37, 38, 39, 40, 41, 42, 43, 44, 45, 46, 47, 48, 49, 50, 51, 52, 53, 54, 55, 56, 57, 58, 59, 60, 61, 62, 63, 64, 65, 66, 67, 68, 69, 70, 71, 72, 73, 74, 75, 76, 77, 78, 79, 80, 81, 82, 83, 84, 85, 86, 87, 88] (by decide +kernel) (by decide +kernel)
set_option maxRecDepth 20000 in
theorem gX3_throughIn_X3_runAhead : GoodIn wsX3_throughIn (wsV RX3 230 RX3 yX3_runAhead wsX3_runAhead) := goodIn_app (goodIn_of _ (by decide +kernel)) ggX3_throughIn_X3_runAhead
theorem dX3_throughIn_0 : decode cX3_throughIn 0 = .ok (.aload_n 0, 1) := by decide +kernel
theorem dX3_throughIn_1 : decode cX3_throughIn 1 = .ok (.aload_n 0, 1) := by decide +kernel
theorem dX3_throughIn_2 : decode cX3_throughIn 2 = .ok (.getfield 19, 3) := by decide +kernel
theorem dX3_throughIn_5 : decode cX3_throughIn 5 = .ok (.invokevirtual 230, 3) := by decide +kernel
theorem dX3_throughIn_8 : decode cX3_throughIn 8 = .ok (.ireturn, 1) := by decide +kernel
set_option maxRecDepth 20000 in
theorem ggX3_bestPull_X3_runAhead : GoodIn wsX3_bestPull wsX3_runAhead := goodIn_r _ [7, 2, 8, 9, 10, 11, 12, 13, 14, 15, 16, 17, 18, 19, 20, 21, 22, 23, 24, 25, 26, 27, 28, 29, 30, 31, 32, 33, 34, 35, 36, 37, 38, 39, 40, 41, 42, 43, 44, 45, 46, 47, 48, 49, 50, 51, 52, 53, 54, 55, 56, 57, 58, 59, 60, 61, 62, 63, 64, 65, 66, 67, 68, 69, 70, 71, 72, 73, 74, 75, 76, 77, 78, 79, 115, 116, 117, 118, 119, 120, 121, 122, 123] (by decide +kernel) (by decide +kernel)
set_option maxRecDepth 20000 in
theorem gX3_bestPull_X3_runAhead : GoodIn wsX3_bestPull (wsV RX3 230 RX3 yX3_runAhead wsX3_runAhead) := goodIn_app (goodIn_of _ (by decide +kernel)) ggX3_bestPull_X3_runAhead
set_option maxRecDepth 20000 in
theorem ggX3_bestPull_X0_goneSet : GoodIn wsX3_bestPull wsX0_goneSet := goodIn_r _ [83, 26, 27, 28, 11, 29, 30, 31, 32, 33, 13, 123] (by decide +kernel) (by decide +kernel)
set_option maxRecDepth 20000 in
theorem gX3_bestPull_X0_goneSet : GoodIn wsX3_bestPull (wsV RX3 241 RX0 yX0_goneSet wsX0_goneSet) := goodIn_app (goodIn_of _ (by decide +kernel)) ggX3_bestPull_X0_goneSet
set_option maxRecDepth 20000 in
theorem ggX3_bestPull_X0_count : GoodIn wsX3_bestPull wsX0_count := goodIn_r _ [87, 13, 123] (by decide +kernel) (by decide +kernel)
set_option maxRecDepth 20000 in
theorem gX3_bestPull_X0_count : GoodIn wsX3_bestPull (wsV RX3 120 RX0 yX0_count wsX0_count) := goodIn_app (goodIn_of _ (by decide +kernel)) ggX3_bestPull_X0_count
set_option maxRecDepth 20000 in
theorem ggX3_bestPull_X0_isUnderWay : GoodIn wsX3_bestPull wsX0_isUnderWay := goodIn_r _ [41, 26, 27, 28, 11, 29, 30, 31, 32, 33, 13, 123] (by decide +kernel) (by decide +kernel)
set_option maxRecDepth 20000 in
theorem gX3_bestPull_X0_isUnderWay : GoodIn wsX3_bestPull (wsV RX3 212 RX0 yX0_isUnderWay wsX0_isUnderWay) := goodIn_app (goodIn_of _ (by decide +kernel)) ggX3_bestPull_X0_isUnderWay
set_option maxRecDepth 20000 in
theorem ggX3_bestPull_X3_goneIfPulled : GoodIn wsX3_bestPull wsX3_goneIfPulled := goodIn_r _ [92, 93, 1, 2, 8, 9, 10, 11, 12, 13, 14, 15, 16, 17, 94, 95, 96, 97, 38, 39, 40, 41, 26, 27, 28, 29, 30, 31, 32, 33, 98, 99, 100, 101, 102, 6, 103, 68, 69, 70, 71, 60, 61, 62, 63, 3, 4, 5, 7, 18, 19, 20, 21, 22, 23, 24, 25, 34, 35, 36, 37, 42, 43, 44, 45, 46, 47, 48, 49, 50, 51, 52, 53, 54, 55, 56, 57, 58, 59, 64, 65, 66, 67, 72, 73, 74, 75, 76, 77, 78, 79, 104, 115, 116, 117, 118, 119, 120, 121, 122, 123] (by decide +kernel) (by decide +kernel)
set_option maxRecDepth 20000 in
theorem gX3_bestPull_X3_goneIfPulled : GoodIn wsX3_bestPull (wsV RX3 244 RX3 yX3_goneIfPulled wsX3_goneIfPulled) := goodIn_app (goodIn_of _ (by decide +kernel)) ggX3_bestPull_X3_goneIfPulled
set_option maxRecDepth 20000 in
theorem ggX3_bestPull_X3_othersIn : GoodIn wsX3_bestPull wsX3_othersIn := goodIn_r _ [107, 108, 109, 110, 111, 112, 113, 114] (by decide +kernel) (by decide +kernel)
set_option maxRecDepth 20000 in
theorem gX3_bestPull_X3_othersIn : GoodIn wsX3_bestPull (va_wsS RX3 247 yX3_othersIn wsX3_othersIn) := goodIn_app (goodIn_of _ (by decide +kernel)) ggX3_bestPull_X3_othersIn
theorem dX3_bestPull_0 : decode cX3_bestPull 0 = .ok (.aload_n 0, 1) := by decide +kernel
theorem dX3_bestPull_1 : decode cX3_bestPull 1 = .ok (.aload_n 0, 1) := by decide +kernel
theorem dX3_bestPull_2 : decode cX3_bestPull 2 = .ok (.getfield 19, 3) := by decide +kernel
theorem dX3_bestPull_5 : decode cX3_bestPull 5 = .ok (.invokevirtual 230, 3) := by decide +kernel
theorem dX3_bestPull_8 : decode cX3_bestPull 8 = .ok (.pop, 1) := by decide +kernel
theorem dX3_bestPull_9 : decode cX3_bestPull 9 = .ok (.aload_n 0, 1) := by decide +kernel
theorem dX3_bestPull_10 : decode cX3_bestPull 10 = .ok (.getfield 44, 3) := by decide +kernel
theorem dX3_bestPull_13 : decode cX3_bestPull 13 = .ok (.invokevirtual 241, 3) := by decide +kernel
theorem dX3_bestPull_16 : decode cX3_bestPull 16 = .ok (.istore_n 1, 1) := by decide +kernel
theorem dX3_bestPull_17 : decode cX3_bestPull 17 = .ok (.iconst (-1), 1) := by decide +kernel
theorem dX3_bestPull_18 : decode cX3_bestPull 18 = .ok (.istore_n 2, 1) := by decide +kernel
theorem dX3_bestPull_19 : decode cX3_bestPull 19 = .ok (.iconst (-1), 1) := by decide +kernel
theorem dX3_bestPull_20 : decode cX3_bestPull 20 = .ok (.istore_n 3, 1) := by decide +kernel
theorem dX3_bestPull_21 : decode cX3_bestPull 21 = .ok (.iconst 0, 1) := by decide +kernel
theorem dX3_bestPull_22 : decode cX3_bestPull 22 = .ok (.istore 4, 2) := by decide +kernel
theorem dX3_bestPull_24 : decode cX3_bestPull 24 = .ok (.iload 4, 2) := by decide +kernel
theorem dX3_bestPull_26 : decode cX3_bestPull 26 = .ok (.aload_n 0, 1) := by decide +kernel
theorem dX3_bestPull_27 : decode cX3_bestPull 27 = .ok (.getfield 19, 3) := by decide +kernel
theorem dX3_bestPull_30 : decode cX3_bestPull 30 = .ok (.invokevirtual 120, 3) := by decide +kernel
theorem dX3_bestPull_33 : decode cX3_bestPull 33 = .ok (.if_icmp .ge 52, 3) := by decide +kernel
theorem dX3_bestPull_36 : decode cX3_bestPull 36 = .ok (.aload_n 0, 1) := by decide +kernel
theorem dX3_bestPull_37 : decode cX3_bestPull 37 = .ok (.getfield 19, 3) := by decide +kernel
theorem dX3_bestPull_40 : decode cX3_bestPull 40 = .ok (.iload 4, 2) := by decide +kernel
theorem dX3_bestPull_42 : decode cX3_bestPull 42 = .ok (.invokevirtual 212, 3) := by decide +kernel
theorem dX3_bestPull_45 : decode cX3_bestPull 45 = .ok (.ifCond .eq 34, 3) := by decide +kernel
theorem dX3_bestPull_48 : decode cX3_bestPull 48 = .ok (.aload_n 0, 1) := by decide +kernel
theorem dX3_bestPull_49 : decode cX3_bestPull 49 = .ok (.iload 4, 2) := by decide +kernel
theorem dX3_bestPull_51 : decode cX3_bestPull 51 = .ok (.invokevirtual 244, 3) := by decide +kernel
theorem dX3_bestPull_54 : decode cX3_bestPull 54 = .ok (.istore 5, 2) := by decide +kernel
theorem dX3_bestPull_56 : decode cX3_bestPull 56 = .ok (.iload 5, 2) := by decide +kernel
theorem dX3_bestPull_58 : decode cX3_bestPull 58 = .ok (.iload_n 1, 1) := by decide +kernel
theorem dX3_bestPull_59 : decode cX3_bestPull 59 = .ok (.iload 4, 2) := by decide +kernel
theorem dX3_bestPull_61 : decode cX3_bestPull 61 = .ok (.invokestatic 247, 3) := by decide +kernel
theorem dX3_bestPull_64 : decode cX3_bestPull 64 = .ok (.if_icmp .le 15, 3) := by decide +kernel
theorem dX3_bestPull_67 : decode cX3_bestPull 67 = .ok (.iload 5, 2) := by decide +kernel
theorem dX3_bestPull_69 : decode cX3_bestPull 69 = .ok (.iload_n 3, 1) := by decide +kernel
theorem dX3_bestPull_70 : decode cX3_bestPull 70 = .ok (.if_icmp .le 9, 3) := by decide +kernel
theorem dX3_bestPull_73 : decode cX3_bestPull 73 = .ok (.iload 4, 2) := by decide +kernel
theorem dX3_bestPull_75 : decode cX3_bestPull 75 = .ok (.istore_n 2, 1) := by decide +kernel
theorem dX3_bestPull_76 : decode cX3_bestPull 76 = .ok (.iload 5, 2) := by decide +kernel
theorem dX3_bestPull_78 : decode cX3_bestPull 78 = .ok (.istore_n 3, 1) := by decide +kernel
theorem dX3_bestPull_79 : decode cX3_bestPull 79 = .ok (.iinc 4 1, 3) := by decide +kernel
theorem dX3_bestPull_82 : decode cX3_bestPull 82 = .ok (.goto (-58), 3) := by decide +kernel
theorem dX3_bestPull_85 : decode cX3_bestPull 85 = .ok (.iload_n 2, 1) := by decide +kernel
theorem dX3_bestPull_86 : decode cX3_bestPull 86 = .ok (.ireturn, 1) := by decide +kernel
set_option maxRecDepth 20000 in
theorem ggX3_goneIfPulled_X0_copyFrom : GoodIn wsX3_goneIfPulled wsX0_copyFrom := goodIn_r _ [8, 9, 10, 11, 12, 13, 100] (by decide +kernel) (by decide +kernel)
set_option maxRecDepth 20000 in
theorem gX3_goneIfPulled_X0_copyFrom : GoodIn wsX3_goneIfPulled (wsV RX3 234 RX0 yX0_copyFrom wsX0_copyFrom) := goodIn_app (goodIn_of _ (by decide +kernel)) ggX3_goneIfPulled_X0_copyFrom
set_option maxRecDepth 20000 in
theorem ggX3_goneIfPulled_X0_pullOut : GoodIn wsX3_goneIfPulled wsX0_pullOut := goodIn_r _ [17, 18, 19, 20, 7, 21, 22, 23, 24, 25, 26, 27, 28, 29, 9, 30, 31, 32, 33, 34, 35, 36, 37, 38, 39, 40, 41, 42, 43, 44, 100] (by decide +kernel) (by decide +kernel)
set_option maxRecDepth 20000 in
theorem gX3_goneIfPulled_X0_pullOut : GoodIn wsX3_goneIfPulled (wsV RX3 117 RX0 yX0_pullOut wsX0_pullOut) := goodIn_app (goodIn_of _ (by decide +kernel)) ggX3_goneIfPulled_X0_pullOut
set_option maxRecDepth 20000 in
theorem ggX3_goneIfPulled_X3_runAhead : GoodIn wsX3_goneIfPulled wsX3_runAhead := goodIn_r _ [48, 3, 4, 5, 6, 7, 8, 9, 10, 11, 12, 13, 49, 50, 51, 52, 53, 54, 55, 56, 22, 23, 24, 25, 26, 27, 28, 29, 57, 58, 59, 60, 18, 19, 20, 21, 61, 62, 63, 64, 65, 66, 67, 68, 69, 70, 71, 72, 73, 74, 75, 76, 77, 78, 41, 42, 43, 44, 79, 80, 81, 82, 37, 38, 39, 40, 83, 84, 85, 86, 87, 88, 89, 90, 92, 93, 94, 95, 96, 97, 98, 99, 100] (by decide +kernel) (by decide +kernel)
set_option maxRecDepth 20000 in
theorem gX3_goneIfPulled_X3_runAhead : GoodIn wsX3_goneIfPulled (wsV RX3 230 RX3 yX3_runAhead wsX3_runAhead) := goodIn_app (goodIn_of _ (by decide +kernel)) ggX3_goneIfPulled_X3_runAhead
set_option maxRecDepth 20000 in
theorem ggX3_goneIfPulled_X0_countWhere : GoodIn wsX3_goneIfPulled wsX0_countWhere := goodIn_r _ [56, 22, 23, 24, 7, 25, 26, 27, 28, 29, 9, 100] (by decide +kernel) (by decide +kernel)
set_option maxRecDepth 20000 in
theorem gX3_goneIfPulled_X0_countWhere : GoodIn wsX3_goneIfPulled (wsV RX3 123 RX0 yX0_countWhere wsX0_countWhere) := goodIn_app (goodIn_of _ (by decide +kernel)) ggX3_goneIfPulled_X0_countWhere
theorem dX3_goneIfPulled_0 : decode cX3_goneIfPulled 0 = .ok (.aload_n 0, 1) := by decide +kernel
theorem dX3_goneIfPulled_1 : decode cX3_goneIfPulled 1 = .ok (.getfield 41, 3) := by decide +kernel
theorem dX3_goneIfPulled_4 : decode cX3_goneIfPulled 4 = .ok (.aload_n 0, 1) := by decide +kernel
theorem dX3_goneIfPulled_5 : decode cX3_goneIfPulled 5 = .ok (.getfield 19, 3) := by decide +kernel
theorem dX3_goneIfPulled_8 : decode cX3_goneIfPulled 8 = .ok (.invokevirtual 234, 3) := by decide +kernel
theorem dX3_goneIfPulled_11 : decode cX3_goneIfPulled 11 = .ok (.aload_n 0, 1) := by decide +kernel
theorem dX3_goneIfPulled_12 : decode cX3_goneIfPulled 12 = .ok (.getfield 41, 3) := by decide +kernel
theorem dX3_goneIfPulled_15 : decode cX3_goneIfPulled 15 = .ok (.iload_n 1, 1) := by decide +kernel
theorem dX3_goneIfPulled_16 : decode cX3_goneIfPulled 16 = .ok (.invokevirtual 117, 3) := by decide +kernel
theorem dX3_goneIfPulled_19 : decode cX3_goneIfPulled 19 = .ok (.pop, 1) := by decide +kernel
theorem dX3_goneIfPulled_20 : decode cX3_goneIfPulled 20 = .ok (.aload_n 0, 1) := by decide +kernel
theorem dX3_goneIfPulled_21 : decode cX3_goneIfPulled 21 = .ok (.aload_n 0, 1) := by decide +kernel
theorem dX3_goneIfPulled_22 : decode cX3_goneIfPulled 22 = .ok (.getfield 41, 3) := by decide +kernel
theorem dX3_goneIfPulled_25 : decode cX3_goneIfPulled 25 = .ok (.invokevirtual 230, 3) := by decide +kernel
theorem dX3_goneIfPulled_28 : decode cX3_goneIfPulled 28 = .ok (.pop, 1) := by decide +kernel
theorem dX3_goneIfPulled_29 : decode cX3_goneIfPulled 29 = .ok (.aload_n 0, 1) := by decide +kernel
theorem dX3_goneIfPulled_30 : decode cX3_goneIfPulled 30 = .ok (.getfield 44, 3) := by decide +kernel
theorem dX3_goneIfPulled_33 : decode cX3_goneIfPulled 33 = .ok (.iconst 2, 1) := by decide +kernel
theorem dX3_goneIfPulled_34 : decode cX3_goneIfPulled 34 = .ok (.invokevirtual 123, 3) := by decide +kernel
theorem dX3_goneIfPulled_37 : decode cX3_goneIfPulled 37 = .ok (.ireturn, 1) := by decide +kernel
set_option maxRecDepth 20000 in
theorem ggX3_othersIn_J6_bitCount_0f7a4 : GoodIn wsX3_othersIn wsJ6_bitCount_0f7a4 := goodIn_r _ [4, 5, 6, 7] (by decide +kernel) (by decide +kernel)
set_option maxRecDepth 20000 in
theorem gX3_othersIn_J6_bitCount_0f7a4 : GoodIn wsX3_othersIn (va_wsS RX3 250 yJ6_bitCount_0f7a4 wsJ6_bitCount_0f7a4) := goodIn_app (goodIn_of _ (by decide +kernel)) ggX3_othersIn_J6_bitCount_0f7a4
theorem dX3_othersIn_0 : decode cX3_othersIn 0 = .ok (.iload_n 0, 1) := by decide +kernel
theorem dX3_othersIn_1 : decode cX3_othersIn 1 = .ok (.iconst 1, 1) := by decide +kernel
theorem dX3_othersIn_2 : decode cX3_othersIn 2 = .ok (.iload_n 1, 1) := by decide +kernel
theorem dX3_othersIn_3 : decode cX3_othersIn 3 = .ok (.ishl, 1) := by decide +kernel
theorem dX3_othersIn_4 : decode cX3_othersIn 4 = .ok (.iconst (-1), 1) := by decide +kernel
theorem dX3_othersIn_5 : decode cX3_othersIn 5 = .ok (.ixor, 1) := by decide +kernel
theorem dX3_othersIn_6 : decode cX3_othersIn 6 = .ok (.iand, 1) := by decide +kernel
theorem dX3_othersIn_7 : decode cX3_othersIn 7 = .ok (.invokestatic 250, 3) := by decide +kernel
theorem dX3_othersIn_10 : decode cX3_othersIn 10 = .ok (.ireturn, 1) := by decide +kernel
set_option maxRecDepth 20000 in
theorem ggX3_ifHatched_X3_isRoom : GoodIn wsX3_ifHatched wsX3_isRoom := goodIn_r _ [10] (by decide +kernel) (by decide +kernel)
set_option maxRecDepth 20000 in
theorem gX3_ifHatched_X3_isRoom : GoodIn wsX3_ifHatched (va_wsS RX3 159 yX3_isRoom wsX3_isRoom) := goodIn_app (goodIn_of _ (by decide +kernel)) ggX3_ifHatched_X3_isRoom
set_option maxRecDepth 20000 in
theorem ggX3_ifHatched_X3_isLength : GoodIn wsX3_ifHatched wsX3_isLength := goodIn_r _ [13] (by decide +kernel) (by decide +kernel)
set_option maxRecDepth 20000 in
theorem gX3_ifHatched_X3_isLength : GoodIn wsX3_ifHatched (va_wsS RX3 186 yX3_isLength wsX3_isLength) := goodIn_app (goodIn_of _ (by decide +kernel)) ggX3_ifHatched_X3_isLength
theorem dX3_ifHatched_0 : decode cX3_ifHatched 0 = .ok (.iload_n 1, 1) := by decide +kernel
theorem dX3_ifHatched_1 : decode cX3_ifHatched 1 = .ok (.invokestatic 159, 3) := by decide +kernel
theorem dX3_ifHatched_4 : decode cX3_ifHatched 4 = .ok (.ifCond .eq 10, 3) := by decide +kernel
theorem dX3_ifHatched_7 : decode cX3_ifHatched 7 = .ok (.iload_n 2, 1) := by decide +kernel
theorem dX3_ifHatched_8 : decode cX3_ifHatched 8 = .ok (.invokestatic 159, 3) := by decide +kernel
theorem dX3_ifHatched_11 : decode cX3_ifHatched 11 = .ok (.ifCond .ne 13, 3) := by decide +kernel
theorem dX3_ifHatched_14 : decode cX3_ifHatched 14 = .ok (.new 146, 3) := by decide +kernel
theorem dX3_ifHatched_17 : decode cX3_ifHatched 17 = .ok (.dup, 1) := by decide +kernel
theorem dX3_ifHatched_18 : decode cX3_ifHatched 18 = .ok (.ldc 162, 2) := by decide +kernel
theorem dX3_ifHatched_20 : decode cX3_ifHatched 20 = .ok (.invokespecial 150, 3) := by decide +kernel
theorem dX3_ifHatched_23 : decode cX3_ifHatched 23 = .ok (.athrow, 1) := by decide +kernel
theorem dX3_ifHatched_24 : decode cX3_ifHatched 24 = .ok (.iload_n 3, 1) := by decide +kernel
theorem dX3_ifHatched_25 : decode cX3_ifHatched 25 = .ok (.invokestatic 186, 3) := by decide +kernel
theorem dX3_ifHatched_28 : decode cX3_ifHatched 28 = .ok (.ifCond .ne 13, 3) := by decide +kernel
theorem dX3_ifHatched_31 : decode cX3_ifHatched 31 = .ok (.new 47, 3) := by decide +kernel
theorem dX3_ifHatched_34 : decode cX3_ifHatched 34 = .ok (.dup, 1) := by decide +kernel
theorem dX3_ifHatched_35 : decode cX3_ifHatched 35 = .ok (.ldc 189, 2) := by decide +kernel
theorem dX3_ifHatched_37 : decode cX3_ifHatched 37 = .ok (.invokespecial 51, 3) := by decide +kernel
theorem dX3_ifHatched_40 : decode cX3_ifHatched 40 = .ok (.athrow, 1) := by decide +kernel
theorem dX3_ifHatched_41 : decode cX3_ifHatched 41 = .ok (.aload_n 0, 1) := by decide +kernel
theorem dX3_ifHatched_42 : decode cX3_ifHatched 42 = .ok (.getfield 19, 3) := by decide +kernel
set_option maxRecDepth 20000 in
theorem ggX3_ticksUntilGone_X3_runAhead : GoodIn wsX3_ticksUntilGone wsX3_runAhead := goodIn_r _ [10, 1, 11, 12, 13, 14, 15, 16, 17, 18, 19, 20, 21, 22, 23, 24, 25, 26, 27, 28, 29, 30, 31, 32, 33, 34, 35, 36, 37, 38, 39, 40, 41, 42, 43, 44, 45, 46, 47, 48, 49, 50, 51, 52, 53, 54, 55, 56, 57, 58, 59, 60, 61, 62, 63, 64, 65, 66, 67, 68, 69, 70, 71, 72, 73, 74, 75, 76, 77, 78, 79, 80, 81, 82, 88, 89, 90, 91, 92, 93, 94, 95, 96] (by decide +kernel) (by decide +kernel)
set_option maxRecDepth 20000 in
theorem gX3_ticksUntilGone_X3_runAhead : GoodIn wsX3_ticksUntilGone (wsV RX3 230 RX3 yX3_runAhead wsX3_runAhead) := goodIn_app (goodIn_of _ (by decide +kernel)) ggX3_ticksUntilGone_X3_runAhead
set_option maxRecDepth 20000 in
theorem ggX3_ticksUntilGone_X0_number : GoodIn wsX3_ticksUntilGone wsX0_number := goodIn_r _ [36, 16, 96] (by decide +kernel) (by decide +kernel)
set_option maxRecDepth 20000 in
theorem gX3_ticksUntilGone_X0_number : GoodIn wsX3_ticksUntilGone (wsV RX3 153 RX0 yX0_number wsX0_number) := goodIn_app (goodIn_of _ (by decide +kernel)) ggX3_ticksUntilGone_X0_number
set_option maxRecDepth 20000 in
theorem ggX3_ticksUntilGone_X0_ticksSoFar : GoodIn wsX3_ticksUntilGone wsX0_ticksSoFar := goodIn_r _ [87, 16, 96] (by decide +kernel) (by decide +kernel)
set_option maxRecDepth 20000 in
theorem gX3_ticksUntilGone_X0_ticksSoFar : GoodIn wsX3_ticksUntilGone (wsV RX3 126 RX0 yX0_ticksSoFar wsX0_ticksSoFar) := goodIn_app (goodIn_of _ (by decide +kernel)) ggX3_ticksUntilGone_X0_ticksSoFar
theorem dX3_ticksUntilGone_0 : decode cX3_ticksUntilGone 0 = .ok (.aload_n 0, 1) := by decide +kernel
theorem dX3_ticksUntilGone_1 : decode cX3_ticksUntilGone 1 = .ok (.aload_n 1, 1) := by decide +kernel
theorem dX3_ticksUntilGone_2 : decode cX3_ticksUntilGone 2 = .ok (.invokevirtual 230, 3) := by decide +kernel
theorem dX3_ticksUntilGone_5 : decode cX3_ticksUntilGone 5 = .ok (.pop, 1) := by decide +kernel
theorem dX3_ticksUntilGone_6 : decode cX3_ticksUntilGone 6 = .ok (.aload_n 0, 1) := by decide +kernel
theorem dX3_ticksUntilGone_7 : decode cX3_ticksUntilGone 7 = .ok (.getfield 44, 3) := by decide +kernel
theorem dX3_ticksUntilGone_10 : decode cX3_ticksUntilGone 10 = .ok (.iload_n 2, 1) := by decide +kernel
theorem dX3_ticksUntilGone_11 : decode cX3_ticksUntilGone 11 = .ok (.iconst 0, 1) := by decide +kernel
theorem dX3_ticksUntilGone_12 : decode cX3_ticksUntilGone 12 = .ok (.invokevirtual 153, 3) := by decide +kernel
theorem dX3_ticksUntilGone_15 : decode cX3_ticksUntilGone 15 = .ok (.iconst 2, 1) := by decide +kernel
theorem dX3_ticksUntilGone_16 : decode cX3_ticksUntilGone 16 = .ok (.if_icmp .eq 5, 3) := by decide +kernel
theorem dX3_ticksUntilGone_19 : decode cX3_ticksUntilGone 19 = .ok (.iconst (-1), 1) := by decide +kernel
theorem dX3_ticksUntilGone_20 : decode cX3_ticksUntilGone 20 = .ok (.ireturn, 1) := by decide +kernel
theorem dX3_ticksUntilGone_21 : decode cX3_ticksUntilGone 21 = .ok (.iconst 0, 1) := by decide +kernel
theorem dX3_ticksUntilGone_22 : decode cX3_ticksUntilGone 22 = .ok (.aload_n 0, 1) := by decide +kernel
theorem dX3_ticksUntilGone_23 : decode cX3_ticksUntilGone 23 = .ok (.getfield 44, 3) := by decide +kernel
theorem dX3_ticksUntilGone_26 : decode cX3_ticksUntilGone 26 = .ok (.iload_n 2, 1) := by decide +kernel
theorem dX3_ticksUntilGone_27 : decode cX3_ticksUntilGone 27 = .ok (.iconst 5, 1) := by decide +kernel
theorem dX3_ticksUntilGone_28 : decode cX3_ticksUntilGone 28 = .ok (.invokevirtual 153, 3) := by decide +kernel
theorem dX3_ticksUntilGone_31 : decode cX3_ticksUntilGone 31 = .ok (.aload_n 1, 1) := by decide +kernel
theorem dX3_ticksUntilGone_32 : decode cX3_ticksUntilGone 32 = .ok (.invokevirtual 126, 3) := by decide +kernel
theorem dX3_ticksUntilGone_35 : decode cX3_ticksUntilGone 35 = .ok (.isub, 1) := by decide +kernel
theorem dX3_ticksUntilGone_36 : decode cX3_ticksUntilGone 36 = .ok (.invokestatic 255, 3) := by decide +kernel
theorem dX3_ticksUntilGone_39 : decode cX3_ticksUntilGone 39 = .ok (.ireturn, 1) := by decide +kernel
set_option maxRecDepth 20000 in
theorem ggX3_runAhead_X0_copyFrom : GoodIn wsX3_runAhead wsX0_copyFrom := goodIn_r _ [6, 7, 8, 9, 10, 11, 82] (by decide +kernel) (by decide +kernel)
set_option maxRecDepth 20000 in
theorem gX3_runAhead_X0_copyFrom : GoodIn wsX3_runAhead (wsV RX3 234 RX0 yX0_copyFrom wsX0_copyFrom) := goodIn_app (goodIn_of _ (by decide +kernel)) ggX3_runAhead_X0_copyFrom
set_option maxRecDepth 20000 in
theorem ggX3_runAhead_X0_isThrough : GoodIn wsX3_runAhead wsX0_isThrough := goodIn_r _ [15, 16, 17, 18, 5, 19, 20, 21, 22, 23, 24, 25, 26, 27, 7, 82] (by decide +kernel) (by decide +kernel)
set_option maxRecDepth 20000 in
theorem gX3_runAhead_X0_isThrough : GoodIn wsX3_runAhead (wsV RX3 260 RX0 yX0_isThrough wsX0_isThrough) := goodIn_app (goodIn_of _ (by decide +kernel)) ggX3_runAhead_X0_isThrough
set_option maxRecDepth 20000 in
theorem ggX3_runAhead_X0_moveAll : GoodIn wsX3_runAhead wsX0_moveAll := goodIn_r _ [31, 7, 32, 33, 34, 5, 35, 20, 21, 22, 23, 24, 25, 26, 27, 36, 37, 38, 39, 40, 41, 42, 43, 44, 45, 46, 47, 48, 49, 50, 51, 52, 53, 54, 55, 56, 57, 58, 59, 60, 61, 62, 63, 64, 65, 66, 67, 68, 69, 70, 71, 72, 73, 82] (by decide +kernel) (by decide +kernel)
set_option maxRecDepth 20000 in
theorem gX3_runAhead_X0_moveAll : GoodIn wsX3_runAhead (wsV RX3 263 RX0 yX0_moveAll wsX0_moveAll) := goodIn_app (goodIn_of _ (by decide +kernel)) ggX3_runAhead_X0_moveAll
theorem dX3_runAhead_0 : decode cX3_runAhead 0 = .ok (.aload_n 0, 1) := by decide +kernel
theorem dX3_runAhead_1 : decode cX3_runAhead 1 = .ok (.getfield 44, 3) := by decide +kernel
theorem dX3_runAhead_4 : decode cX3_runAhead 4 = .ok (.aload_n 1, 1) := by decide +kernel
theorem dX3_runAhead_5 : decode cX3_runAhead 5 = .ok (.invokevirtual 234, 3) := by decide +kernel
theorem dX3_runAhead_8 : decode cX3_runAhead 8 = .ok (.iconst 0, 1) := by decide +kernel
theorem dX3_runAhead_9 : decode cX3_runAhead 9 = .ok (.istore_n 2, 1) := by decide +kernel
theorem dX3_runAhead_10 : decode cX3_runAhead 10 = .ok (.iload_n 2, 1) := by decide +kernel
theorem dX3_runAhead_11 : decode cX3_runAhead 11 = .ok (.sipush 200, 3) := by decide +kernel
theorem dX3_runAhead_14 : decode cX3_runAhead 14 = .ok (.if_icmp .ge 33, 3) := by decide +kernel
theorem dX3_runAhead_17 : decode cX3_runAhead 17 = .ok (.aload_n 0, 1) := by decide +kernel
theorem dX3_runAhead_18 : decode cX3_runAhead 18 = .ok (.getfield 44, 3) := by decide +kernel
theorem dX3_runAhead_21 : decode cX3_runAhead 21 = .ok (.invokevirtual 260, 3) := by decide +kernel
theorem dX3_runAhead_24 : decode cX3_runAhead 24 = .ok (.ifCond .eq 5, 3) := by decide +kernel
theorem dX3_runAhead_27 : decode cX3_runAhead 27 = .ok (.iload_n 2, 1) := by decide +kernel
theorem dX3_runAhead_28 : decode cX3_runAhead 28 = .ok (.ireturn, 1) := by decide +kernel
theorem dX3_runAhead_29 : decode cX3_runAhead 29 = .ok (.aload_n 0, 1) := by decide +kernel
theorem dX3_runAhead_30 : decode cX3_runAhead 30 = .ok (.getfield 44, 3) := by decide +kernel
theorem dX3_runAhead_33 : decode cX3_runAhead 33 = .ok (.invokevirtual 263, 3) := by decide +kernel
theorem dX3_runAhead_36 : decode cX3_runAhead 36 = .ok (.ifCond .ne 5, 3) := by decide +kernel
theorem dX3_runAhead_39 : decode cX3_runAhead 39 = .ok (.iconst (-1), 1) := by decide +kernel
theorem dX3_runAhead_40 : decode cX3_runAhead 40 = .ok (.ireturn, 1) := by decide +kernel
theorem dX3_runAhead_41 : decode cX3_runAhead 41 = .ok (.iinc 2 1, 3) := by decide +kernel
theorem dX3_runAhead_44 : decode cX3_runAhead 44 = .ok (.goto (-34), 3) := by decide +kernel
theorem dX3_runAhead_47 : decode cX3_runAhead 47 = .ok (.aload_n 0, 1) := by decide +kernel
theorem dX3_runAhead_48 : decode cX3_runAhead 48 = .ok (.getfield 44, 3) := by decide +kernel
theorem dX3_runAhead_51 : decode cX3_runAhead 51 = .ok (.invokevirtual 260, 3) := by decide +kernel
theorem dX3_runAhead_54 : decode cX3_runAhead 54 = .ok (.ifCond .eq 9, 3) := by decide +kernel
theorem dX3_runAhead_57 : decode cX3_runAhead 57 = .ok (.sipush 200, 3) := by decide +kernel
theorem dX3_runAhead_60 : decode cX3_runAhead 60 = .ok (.goto 4, 3) := by decide +kernel
theorem dX3_runAhead_63 : decode cX3_runAhead 63 = .ok (.iconst (-1), 1) := by decide +kernel
theorem dX3_runAhead_64 : decode cX3_runAhead 64 = .ok (.ireturn, 1) := by decide +kernel
set_option maxRecDepth 20000 in
theorem ggX3_runScript_X3_withoutGroups : GoodIn wsX3_runScript wsX3_withoutGroups := goodIn_r _ [9, 5] (by decide +kernel) (by decide +kernel)
set_option maxRecDepth 20000 in
theorem gX3_runScript_X3_withoutGroups : GoodIn wsX3_runScript (va_wsS RX3 268 yX3_withoutGroups wsX3_withoutGroups) := goodIn_app (goodIn_of _ (by decide +kernel)) ggX3_runScript_X3_withoutGroups
theorem dX3_runScript_0 : decode cX3_runScript 0 = .ok (.iload_n 1, 1) := by decide +kernel
theorem dX3_runScript_1 : decode cX3_runScript 1 = .ok (.iconst 1, 1) := by decide +kernel
theorem dX3_runScript_2 : decode cX3_runScript 2 = .ok (.if_icmp .lt 8, 3) := by decide +kernel
theorem dX3_runScript_5 : decode cX3_runScript 5 = .ok (.iload_n 1, 1) := by decide +kernel
theorem dX3_runScript_6 : decode cX3_runScript 6 = .ok (.iconst 3, 1) := by decide +kernel
theorem dX3_runScript_7 : decode cX3_runScript 7 = .ok (.if_icmp .le 14, 3) := by decide +kernel
theorem dX3_runScript_10 : decode cX3_runScript 10 = .ok (.new 47, 3) := by decide +kernel
theorem dX3_runScript_13 : decode cX3_runScript 13 = .ok (.dup, 1) := by decide +kernel
theorem dX3_runScript_14 : decode cX3_runScript 14 = .ok (.ldc_w 266, 3) := by decide +kernel
theorem dX3_runScript_17 : decode cX3_runScript 17 = .ok (.invokespecial 51, 3) := by decide +kernel
theorem dX3_runScript_20 : decode cX3_runScript 20 = .ok (.athrow, 1) := by decide +kernel
theorem dX3_runScript_21 : decode cX3_runScript 21 = .ok (.lload_n 2, 1) := by decide +kernel
theorem dX3_runScript_22 : decode cX3_runScript 22 = .ok (.lconst 0, 1) := by decide +kernel
theorem dX3_runScript_23 : decode cX3_runScript 23 = .ok (.lcmp, 1) := by decide +kernel
theorem dX3_runScript_24 : decode cX3_runScript 24 = .ok (.ifCond .lt 13, 3) := by decide +kernel
theorem dX3_runScript_27 : decode cX3_runScript 27 = .ok (.lload_n 2, 1) := by decide +kernel
theorem dX3_runScript_28 : decode cX3_runScript 28 = .ok (.iload_n 1, 1) := by decide +kernel
theorem dX3_runScript_29 : decode cX3_runScript 29 = .ok (.invokestatic 268, 3) := by decide +kernel
theorem dX3_runScript_32 : decode cX3_runScript 32 = .ok (.lconst 0, 1) := by decide +kernel
theorem dX3_runScript_33 : decode cX3_runScript 33 = .ok (.lcmp, 1) := by decide +kernel
theorem dX3_runScript_34 : decode cX3_runScript 34 = .ok (.ifCond .eq 14, 3) := by decide +kernel
theorem dX3_runScript_37 : decode cX3_runScript 37 = .ok (.new 47, 3) := by decide +kernel
theorem dX3_runScript_40 : decode cX3_runScript 40 = .ok (.dup, 1) := by decide +kernel
theorem dX3_runScript_41 : decode cX3_runScript 41 = .ok (.ldc_w 272, 3) := by decide +kernel
theorem dX3_runScript_44 : decode cX3_runScript 44 = .ok (.invokespecial 51, 3) := by decide +kernel
theorem dX3_runScript_47 : decode cX3_runScript 47 = .ok (.athrow, 1) := by decide +kernel
theorem dX3_runScript_48 : decode cX3_runScript 48 = .ok (.aload_n 0, 1) := by decide +kernel
theorem dX3_runScript_49 : decode cX3_runScript 49 = .ok (.getfield 41, 3) := by decide +kernel
theorem dX3_runScript_52 : decode cX3_runScript 52 = .ok (.aload_n 0, 1) := by decide +kernel
theorem dX3_runScript_53 : decode cX3_runScript 53 = .ok (.getfield 19, 3) := by decide +kernel
theorem dX3_withoutGroups_0 : decode cX3_withoutGroups 0 = .ok (.lload_n 0, 1) := by decide +kernel
theorem dX3_withoutGroups_1 : decode cX3_withoutGroups 1 = .ok (.lstore_n 3, 1) := by decide +kernel
theorem dX3_withoutGroups_2 : decode cX3_withoutGroups 2 = .ok (.iconst 0, 1) := by decide +kernel
theorem dX3_withoutGroups_3 : decode cX3_withoutGroups 3 = .ok (.istore 5, 2) := by decide +kernel
theorem dX3_withoutGroups_5 : decode cX3_withoutGroups 5 = .ok (.iload 5, 2) := by decide +kernel
theorem dX3_withoutGroups_7 : decode cX3_withoutGroups 7 = .ok (.iload_n 2, 1) := by decide +kernel
theorem dX3_withoutGroups_8 : decode cX3_withoutGroups 8 = .ok (.if_icmp .ge 15, 3) := by decide +kernel
theorem dX3_withoutGroups_11 : decode cX3_withoutGroups 11 = .ok (.lload_n 3, 1) := by decide +kernel
theorem dX3_withoutGroups_12 : decode cX3_withoutGroups 12 = .ok (.ldc2_w 274, 3) := by decide +kernel
theorem dX3_withoutGroups_15 : decode cX3_withoutGroups 15 = .ok (.ldiv, 1) := by decide +kernel
theorem dX3_withoutGroups_16 : decode cX3_withoutGroups 16 = .ok (.lstore_n 3, 1) := by decide +kernel
theorem dX3_withoutGroups_17 : decode cX3_withoutGroups 17 = .ok (.iinc 5 1, 3) := by decide +kernel
theorem dX3_withoutGroups_20 : decode cX3_withoutGroups 20 = .ok (.goto (-15), 3) := by decide +kernel
theorem dX3_withoutGroups_23 : decode cX3_withoutGroups 23 = .ok (.lload_n 3, 1) := by decide +kernel
theorem dX3_withoutGroups_24 : decode cX3_withoutGroups 24 = .ok (.lreturn, 1) := by decide +kernel
set_option maxRecDepth 20000 in
theorem ggX3_simulate_X0_copyFrom : GoodIn wsX3_simulate wsX0_copyFrom := goodIn_r _ [15, 16, 17, 18, 19, 20, 136] (by decide +kernel) (by decide +kernel)
set_option maxRecDepth 20000 in
theorem gX3_simulate_X0_copyFrom : GoodIn wsX3_simulate (wsV RX3 234 RX0 yX0_copyFrom wsX0_copyFrom) := goodIn_app (goodIn_of _ (by decide +kernel)) ggX3_simulate_X0_copyFrom
set_option maxRecDepth 20000 in
theorem ggX3_simulate_X3_takeTurn : GoodIn wsX3_simulate wsX3_takeTurn := goodIn_r _ [25, 3, 26, 27, 28, 14, 29, 16, 30, 31, 32, 33, 34, 24, 35, 36, 37, 38, 39, 40, 41, 42, 43, 44, 45, 46, 47, 48, 49, 50, 51, 52, 53, 54, 55, 56, 57, 58, 59, 60, 61, 62, 63, 64, 65, 66, 67, 68, 69, 70, 71, 72, 73, 74, 75, 76, 77, 78, 79, 80, 81, 82, 83, 84, 85, 86, 87, 88, 89, 90, 91, 92, 93, 94, 95, 96, 97, 98, 99, 100, 101, 102, 103, 104, 105, 106, 107, 108, 109, 110, 111, 112, 113, 114, 115, 116, 117, 118, 119, 128, 129, 130, 131, 132, 133, 134, 135, 136] (by decide +kernel) (by decide +kernel)
set_option maxRecDepth 20000 in
theorem gX3_simulate_X3_takeTurn : GoodIn wsX3_simulate (wsV RX3 295 RX3 yX3_takeTurn wsX3_takeTurn) := goodIn_app (goodIn_of _ (by decide +kernel)) ggX3_simulate_X3_takeTurn
set_option maxRecDepth 20000 in
theorem ggX3_simulate_X0_waitsSoFar : GoodIn wsX3_simulate wsX0_waitsSoFar := goodIn_r _ [123, 16, 136] (by decide +kernel) (by decide +kernel)
set_option maxRecDepth 20000 in
theorem gX3_simulate_X0_waitsSoFar : GoodIn wsX3_simulate (wsV RX3 138 RX0 yX0_waitsSoFar wsX0_waitsSoFar) := goodIn_app (goodIn_of _ (by decide +kernel)) ggX3_simulate_X0_waitsSoFar
set_option maxRecDepth 20000 in
theorem ggX3_simulate_X0_countWhere : GoodIn wsX3_simulate wsX0_countWhere := goodIn_r _ [127, 68, 69, 70, 14, 71, 72, 73, 74, 75, 16, 136] (by decide +kernel) (by decide +kernel)
set_option maxRecDepth 20000 in
theorem gX3_simulate_X0_countWhere : GoodIn wsX3_simulate (wsV RX3 123 RX0 yX0_countWhere wsX0_countWhere) := goodIn_app (goodIn_of _ (by decide +kernel)) ggX3_simulate_X0_countWhere
theorem dX3_simulate_0 : decode cX3_simulate 0 = .ok (.iload_n 3, 1) := by decide +kernel
theorem dX3_simulate_1 : decode cX3_simulate 1 = .ok (.iconst 1, 1) := by decide +kernel
theorem dX3_simulate_2 : decode cX3_simulate 2 = .ok (.if_icmp .lt 9, 3) := by decide +kernel
theorem dX3_simulate_5 : decode cX3_simulate 5 = .ok (.iload_n 3, 1) := by decide +kernel
theorem dX3_simulate_6 : decode cX3_simulate 6 = .ok (.bipush 60, 2) := by decide +kernel
theorem dX3_simulate_8 : decode cX3_simulate 8 = .ok (.if_icmp .le 14, 3) := by decide +kernel
theorem dX3_simulate_11 : decode cX3_simulate 11 = .ok (.new 47, 3) := by decide +kernel
theorem dX3_simulate_14 : decode cX3_simulate 14 = .ok (.dup, 1) := by decide +kernel
theorem dX3_simulate_15 : decode cX3_simulate 15 = .ok (.ldc_w 289, 3) := by decide +kernel
theorem dX3_simulate_18 : decode cX3_simulate 18 = .ok (.invokespecial 51, 3) := by decide +kernel
theorem dX3_simulate_21 : decode cX3_simulate 21 = .ok (.athrow, 1) := by decide +kernel
theorem dX3_simulate_22 : decode cX3_simulate 22 = .ok (.aload_n 0, 1) := by decide +kernel
theorem dX3_simulate_23 : decode cX3_simulate 23 = .ok (.getfield 41, 3) := by decide +kernel
theorem dX3_simulate_26 : decode cX3_simulate 26 = .ok (.aload_n 0, 1) := by decide +kernel
theorem dX3_simulate_27 : decode cX3_simulate 27 = .ok (.getfield 19, 3) := by decide +kernel
theorem dX3_simulate_30 : decode cX3_simulate 30 = .ok (.invokevirtual 234, 3) := by decide +kernel
theorem dX3_simulate_33 : decode cX3_simulate 33 = .ok (.lload_n 1, 1) := by decide +kernel
theorem dX3_simulate_34 : decode cX3_simulate 34 = .ok (.lstore 4, 2) := by decide +kernel
theorem dX3_simulate_36 : decode cX3_simulate 36 = .ok (.iconst 0, 1) := by decide +kernel
theorem dX3_simulate_37 : decode cX3_simulate 37 = .ok (.istore 6, 2) := by decide +kernel
theorem dX3_simulate_39 : decode cX3_simulate 39 = .ok (.iload 6, 2) := by decide +kernel
theorem dX3_simulate_41 : decode cX3_simulate 41 = .ok (.iload_n 3, 1) := by decide +kernel
theorem dX3_simulate_42 : decode cX3_simulate 42 = .ok (.if_icmp .ge 31, 3) := by decide +kernel
theorem dX3_simulate_45 : decode cX3_simulate 45 = .ok (.lload 4, 2) := by decide +kernel
theorem dX3_simulate_47 : decode cX3_simulate 47 = .ok (.ldc2_w 291, 3) := by decide +kernel
theorem dX3_simulate_50 : decode cX3_simulate 50 = .ok (.lmul, 1) := by decide +kernel
theorem dX3_simulate_51 : decode cX3_simulate 51 = .ok (.ldc2_w 293, 3) := by decide +kernel
theorem dX3_simulate_54 : decode cX3_simulate 54 = .ok (.ladd, 1) := by decide +kernel
theorem dX3_simulate_55 : decode cX3_simulate 55 = .ok (.lstore 4, 2) := by decide +kernel
theorem dX3_simulate_57 : decode cX3_simulate 57 = .ok (.aload_n 0, 1) := by decide +kernel
theorem dX3_simulate_58 : decode cX3_simulate 58 = .ok (.lload 4, 2) := by decide +kernel
theorem dX3_simulate_60 : decode cX3_simulate 60 = .ok (.bipush 33, 2) := by decide +kernel
theorem dX3_simulate_62 : decode cX3_simulate 62 = .ok (.lushr, 1) := by decide +kernel
theorem dX3_simulate_63 : decode cX3_simulate 63 = .ok (.l2i, 1) := by decide +kernel
theorem dX3_simulate_64 : decode cX3_simulate 64 = .ok (.invokevirtual 295, 3) := by decide +kernel
theorem dX3_simulate_67 : decode cX3_simulate 67 = .ok (.iinc 6 1, 3) := by decide +kernel
theorem dX3_simulate_70 : decode cX3_simulate 70 = .ok (.goto (-31), 3) := by decide +kernel
theorem dX3_simulate_73 : decode cX3_simulate 73 = .ok (.aload_n 0, 1) := by decide +kernel
theorem dX3_simulate_74 : decode cX3_simulate 74 = .ok (.getfield 41, 3) := by decide +kernel
theorem dX3_simulate_77 : decode cX3_simulate 77 = .ok (.invokevirtual 138, 3) := by decide +kernel
theorem dX3_simulate_80 : decode cX3_simulate 80 = .ok (.aload_n 0, 1) := by decide +kernel
theorem dX3_simulate_81 : decode cX3_simulate 81 = .ok (.getfield 19, 3) := by decide +kernel
theorem dX3_simulate_84 : decode cX3_simulate 84 = .ok (.invokevirtual 138, 3) := by decide +kernel
theorem dX3_simulate_87 : decode cX3_simulate 87 = .ok (.isub, 1) := by decide +kernel
theorem dX3_simulate_88 : decode cX3_simulate 88 = .ok (.istore 6, 2) := by decide +kernel
theorem dX3_simulate_90 : decode cX3_simulate 90 = .ok (.sipush 1000, 3) := by decide +kernel
theorem dX3_simulate_93 : decode cX3_simulate 93 = .ok (.aload_n 0, 1) := by decide +kernel
theorem dX3_simulate_94 : decode cX3_simulate 94 = .ok (.getfield 41, 3) := by decide +kernel
theorem dX3_simulate_97 : decode cX3_simulate 97 = .ok (.iconst 2, 1) := by decide +kernel
theorem dX3_simulate_98 : decode cX3_simulate 98 = .ok (.invokevirtual 123, 3) := by decide +kernel
theorem dX3_simulate_101 : decode cX3_simulate 101 = .ok (.imul, 1) := by decide +kernel
theorem dX3_simulate_102 : decode cX3_simulate 102 = .ok (.iload 6, 2) := by decide +kernel
theorem dX3_simulate_104 : decode cX3_simulate 104 = .ok (.sipush 999, 3) := by decide +kernel
theorem dX3_simulate_107 : decode cX3_simulate 107 = .ok (.invokestatic 298, 3) := by decide +kernel
theorem dX3_simulate_110 : decode cX3_simulate 110 = .ok (.iadd, 1) := by decide +kernel
theorem dX3_simulate_111 : decode cX3_simulate 111 = .ok (.ireturn, 1) := by decide +kernel
set_option maxRecDepth 20000 in
theorem ggX3_takeTurn_X0_addCaterpillar : GoodIn wsX3_takeTurn wsX0_addCaterpillar := goodIn_r _ [6, 7, 8, 9, 10, 5, 11, 12, 13, 14, 15, 16, 17, 18, 19, 20, 107] (by decide +kernel) (by decide +kernel)
set_option maxRecDepth 20000 in
theorem gX3_takeTurn_X0_addCaterpillar : GoodIn wsX3_takeTurn (wsV RX3 103 RX0 yX0_addCaterpillar wsX0_addCaterpillar) := goodIn_app (goodIn_of _ (by decide +kernel)) ggX3_takeTurn_X0_addCaterpillar
set_option maxRecDepth 20000 in
theorem ggX3_takeTurn_X0_setRule : GoodIn wsX3_takeTurn wsX0_setRule := goodIn_r _ [24, 7, 25, 13, 26, 107] (by decide +kernel) (by decide +kernel)
set_option maxRecDepth 20000 in
theorem gX3_takeTurn_X0_setRule : GoodIn wsX3_takeTurn (wsV RX3 114 RX0 yX0_setRule wsX0_setRule) := goodIn_app (goodIn_of _ (by decide +kernel)) ggX3_takeTurn_X0_setRule
set_option maxRecDepth 20000 in
theorem ggX3_takeTurn_X0_setShut : GoodIn wsX3_takeTurn wsX0_setShut := goodIn_r _ [30, 7, 12, 13, 14, 31, 32, 33, 5, 34, 35, 36, 37, 38, 107] (by decide +kernel) (by decide +kernel)
set_option maxRecDepth 20000 in
theorem gX3_takeTurn_X0_setShut : GoodIn wsX3_takeTurn (wsV RX3 110 RX0 yX0_setShut wsX0_setShut) := goodIn_app (goodIn_of _ (by decide +kernel)) ggX3_takeTurn_X0_setShut
set_option maxRecDepth 20000 in
theorem ggX3_takeTurn_X0_pullOut : GoodIn wsX3_takeTurn wsX0_pullOut := goodIn_r _ [42, 43, 44, 45, 5, 46, 47, 48, 49, 50, 51, 52, 53, 54, 7, 35, 36, 37, 38, 12, 13, 14, 55, 56, 57, 58, 17, 18, 19, 20, 107] (by decide +kernel) (by decide +kernel)
set_option maxRecDepth 20000 in
theorem gX3_takeTurn_X0_pullOut : GoodIn wsX3_takeTurn (wsV RX3 117 RX0 yX0_pullOut wsX0_pullOut) := goodIn_app (goodIn_of _ (by decide +kernel)) ggX3_takeTurn_X0_pullOut
set_option maxRecDepth 20000 in
theorem ggX3_takeTurn_X0_runTicks : GoodIn wsX3_takeTurn wsX0_runTicks := goodIn_r _ [62, 63, 13, 64, 65, 66, 67, 5, 68, 7, 43, 44, 45, 46, 47, 48, 49, 50, 51, 52, 53, 54, 69, 70, 71, 72, 73, 74, 75, 76, 77, 78, 79, 80, 81, 82, 83, 84, 85, 86, 17, 18, 19, 20, 87, 88, 89, 90, 55, 56, 57, 58, 91, 92, 93, 94, 95, 96, 97, 98, 107] (by decide +kernel) (by decide +kernel)
set_option maxRecDepth 20000 in
theorem gX3_takeTurn_X0_runTicks : GoodIn wsX3_takeTurn (wsV RX3 107 RX0 yX0_runTicks wsX0_runTicks) := goodIn_app (goodIn_of _ (by decide +kernel)) ggX3_takeTurn_X0_runTicks
theorem dX3_takeTurn_0 : decode cX3_takeTurn 0 = .ok (.iload_n 1, 1) := by decide +kernel
theorem dX3_takeTurn_1 : decode cX3_takeTurn 1 = .ok (.bipush 8, 2) := by decide +kernel
theorem dX3_takeTurn_3 : decode cX3_takeTurn 3 = .ok (.idiv, 1) := by decide +kernel
theorem dX3_takeTurn_4 : decode cX3_takeTurn 4 = .ok (.istore_n 2, 1) := by decide +kernel
theorem dX3_takeTurn_5 : decode cX3_takeTurn 5 = .ok (.iload_n 1, 1) := by decide +kernel
theorem dX3_takeTurn_6 : decode cX3_takeTurn 6 = .ok (.bipush 8, 2) := by decide +kernel
theorem dX3_takeTurn_8 : decode cX3_takeTurn 8 = .ok (.irem, 1) := by decide +kernel
theorem dX3_takeTurn_9 : decode cX3_takeTurn 9 = .ok (.tableswitch 154 0 4 #[35, 35, 35, 67, 118], 35) := by decide +kernel
theorem dX3_takeTurn_44 : decode cX3_takeTurn 44 = .ok (.aload_n 0, 1) := by decide +kernel
theorem dX3_takeTurn_45 : decode cX3_takeTurn 45 = .ok (.getfield 41, 3) := by decide +kernel
theorem dX3_takeTurn_48 : decode cX3_takeTurn 48 = .ok (.iload_n 2, 1) := by decide +kernel
theorem dX3_takeTurn_49 : decode cX3_takeTurn 49 = .ok (.bipush 36, 2) := by decide +kernel
theorem dX3_takeTurn_51 : decode cX3_takeTurn 51 = .ok (.irem, 1) := by decide +kernel
theorem dX3_takeTurn_52 : decode cX3_takeTurn 52 = .ok (.iload_n 2, 1) := by decide +kernel
theorem dX3_takeTurn_53 : decode cX3_takeTurn 53 = .ok (.bipush 36, 2) := by decide +kernel
theorem dX3_takeTurn_55 : decode cX3_takeTurn 55 = .ok (.idiv, 1) := by decide +kernel
theorem dX3_takeTurn_56 : decode cX3_takeTurn 56 = .ok (.bipush 36, 2) := by decide +kernel
theorem dX3_takeTurn_58 : decode cX3_takeTurn 58 = .ok (.irem, 1) := by decide +kernel
theorem dX3_takeTurn_59 : decode cX3_takeTurn 59 = .ok (.iconst 1, 1) := by decide +kernel
theorem dX3_takeTurn_60 : decode cX3_takeTurn 60 = .ok (.iload_n 2, 1) := by decide +kernel
theorem dX3_takeTurn_61 : decode cX3_takeTurn 61 = .ok (.sipush 1296, 3) := by decide +kernel
theorem dX3_takeTurn_64 : decode cX3_takeTurn 64 = .ok (.idiv, 1) := by decide +kernel
theorem dX3_takeTurn_65 : decode cX3_takeTurn 65 = .ok (.bipush 9, 2) := by decide +kernel
theorem dX3_takeTurn_67 : decode cX3_takeTurn 67 = .ok (.irem, 1) := by decide +kernel
theorem dX3_takeTurn_68 : decode cX3_takeTurn 68 = .ok (.iadd, 1) := by decide +kernel
theorem dX3_takeTurn_69 : decode cX3_takeTurn 69 = .ok (.invokevirtual 103, 3) := by decide +kernel
theorem dX3_takeTurn_72 : decode cX3_takeTurn 72 = .ok (.pop, 1) := by decide +kernel
theorem dX3_takeTurn_73 : decode cX3_takeTurn 73 = .ok (.goto 104, 3) := by decide +kernel
theorem dX3_takeTurn_76 : decode cX3_takeTurn 76 = .ok (.iload_n 2, 1) := by decide +kernel
theorem dX3_takeTurn_77 : decode cX3_takeTurn 77 = .ok (.iconst 4, 1) := by decide +kernel
theorem dX3_takeTurn_78 : decode cX3_takeTurn 78 = .ok (.idiv, 1) := by decide +kernel
theorem dX3_takeTurn_79 : decode cX3_takeTurn 79 = .ok (.iconst 4, 1) := by decide +kernel
theorem dX3_takeTurn_80 : decode cX3_takeTurn 80 = .ok (.irem, 1) := by decide +kernel
theorem dX3_takeTurn_81 : decode cX3_takeTurn 81 = .ok (.ifCond .ne 17, 3) := by decide +kernel
theorem dX3_takeTurn_84 : decode cX3_takeTurn 84 = .ok (.aload_n 0, 1) := by decide +kernel
theorem dX3_takeTurn_85 : decode cX3_takeTurn 85 = .ok (.getfield 41, 3) := by decide +kernel
theorem dX3_takeTurn_88 : decode cX3_takeTurn 88 = .ok (.iload_n 2, 1) := by decide +kernel
theorem dX3_takeTurn_89 : decode cX3_takeTurn 89 = .ok (.iconst 3, 1) := by decide +kernel
theorem dX3_takeTurn_90 : decode cX3_takeTurn 90 = .ok (.irem, 1) := by decide +kernel
theorem dX3_takeTurn_91 : decode cX3_takeTurn 91 = .ok (.invokevirtual 114, 3) := by decide +kernel
theorem dX3_takeTurn_94 : decode cX3_takeTurn 94 = .ok (.pop, 1) := by decide +kernel
theorem dX3_takeTurn_95 : decode cX3_takeTurn 95 = .ok (.goto 82, 3) := by decide +kernel
theorem dX3_takeTurn_98 : decode cX3_takeTurn 98 = .ok (.aload_n 0, 1) := by decide +kernel
theorem dX3_takeTurn_99 : decode cX3_takeTurn 99 = .ok (.getfield 41, 3) := by decide +kernel
theorem dX3_takeTurn_102 : decode cX3_takeTurn 102 = .ok (.iload_n 2, 1) := by decide +kernel
theorem dX3_takeTurn_103 : decode cX3_takeTurn 103 = .ok (.bipush 36, 2) := by decide +kernel
theorem dX3_takeTurn_105 : decode cX3_takeTurn 105 = .ok (.irem, 1) := by decide +kernel
theorem dX3_takeTurn_106 : decode cX3_takeTurn 106 = .ok (.iload_n 2, 1) := by decide +kernel
theorem dX3_takeTurn_107 : decode cX3_takeTurn 107 = .ok (.bipush 64, 2) := by decide +kernel
theorem dX3_takeTurn_109 : decode cX3_takeTurn 109 = .ok (.idiv, 1) := by decide +kernel
theorem dX3_takeTurn_110 : decode cX3_takeTurn 110 = .ok (.iconst 4, 1) := by decide +kernel
theorem dX3_takeTurn_111 : decode cX3_takeTurn 111 = .ok (.irem, 1) := by decide +kernel
theorem dX3_takeTurn_112 : decode cX3_takeTurn 112 = .ok (.ifCond .ne 7, 3) := by decide +kernel
theorem dX3_takeTurn_115 : decode cX3_takeTurn 115 = .ok (.iconst 1, 1) := by decide +kernel
theorem dX3_takeTurn_116 : decode cX3_takeTurn 116 = .ok (.goto 4, 3) := by decide +kernel
theorem dX3_takeTurn_119 : decode cX3_takeTurn 119 = .ok (.iconst 0, 1) := by decide +kernel
theorem dX3_takeTurn_120 : decode cX3_takeTurn 120 = .ok (.invokevirtual 110, 3) := by decide +kernel
theorem dX3_takeTurn_123 : decode cX3_takeTurn 123 = .ok (.pop, 1) := by decide +kernel
theorem dX3_takeTurn_124 : decode cX3_takeTurn 124 = .ok (.goto 53, 3) := by decide +kernel
theorem dX3_takeTurn_127 : decode cX3_takeTurn 127 = .ok (.iload_n 2, 1) := by decide +kernel
theorem dX3_takeTurn_128 : decode cX3_takeTurn 128 = .ok (.bipush 16, 2) := by decide +kernel
theorem dX3_takeTurn_130 : decode cX3_takeTurn 130 = .ok (.idiv, 1) := by decide +kernel
theorem dX3_takeTurn_131 : decode cX3_takeTurn 131 = .ok (.iconst 4, 1) := by decide +kernel
theorem dX3_takeTurn_132 : decode cX3_takeTurn 132 = .ok (.irem, 1) := by decide +kernel
theorem dX3_takeTurn_133 : decode cX3_takeTurn 133 = .ok (.ifCond .ne 18, 3) := by decide +kernel
theorem dX3_takeTurn_136 : decode cX3_takeTurn 136 = .ok (.aload_n 0, 1) := by decide +kernel
theorem dX3_takeTurn_137 : decode cX3_takeTurn 137 = .ok (.getfield 41, 3) := by decide +kernel
theorem dX3_takeTurn_140 : decode cX3_takeTurn 140 = .ok (.iload_n 2, 1) := by decide +kernel
theorem dX3_takeTurn_141 : decode cX3_takeTurn 141 = .ok (.bipush 10, 2) := by decide +kernel
theorem dX3_takeTurn_143 : decode cX3_takeTurn 143 = .ok (.irem, 1) := by decide +kernel
theorem dX3_takeTurn_144 : decode cX3_takeTurn 144 = .ok (.invokevirtual 117, 3) := by decide +kernel
theorem dX3_takeTurn_147 : decode cX3_takeTurn 147 = .ok (.pop, 1) := by decide +kernel
theorem dX3_takeTurn_148 : decode cX3_takeTurn 148 = .ok (.goto 29, 3) := by decide +kernel
theorem dX3_takeTurn_151 : decode cX3_takeTurn 151 = .ok (.aload_n 0, 1) := by decide +kernel
theorem dX3_takeTurn_152 : decode cX3_takeTurn 152 = .ok (.getfield 41, 3) := by decide +kernel
theorem dX3_takeTurn_155 : decode cX3_takeTurn 155 = .ok (.iconst 1, 1) := by decide +kernel
theorem dX3_takeTurn_156 : decode cX3_takeTurn 156 = .ok (.invokevirtual 107, 3) := by decide +kernel
theorem dX3_takeTurn_159 : decode cX3_takeTurn 159 = .ok (.pop, 1) := by decide +kernel
theorem dX3_takeTurn_160 : decode cX3_takeTurn 160 = .ok (.goto 17, 3) := by decide +kernel
theorem dX3_takeTurn_163 : decode cX3_takeTurn 163 = .ok (.aload_n 0, 1) := by decide +kernel
theorem dX3_takeTurn_164 : decode cX3_takeTurn 164 = .ok (.getfield 41, 3) := by decide +kernel
theorem dX3_takeTurn_167 : decode cX3_takeTurn 167 = .ok (.iconst 1, 1) := by decide +kernel
theorem dX3_takeTurn_168 : decode cX3_takeTurn 168 = .ok (.iload_n 2, 1) := by decide +kernel
theorem dX3_takeTurn_169 : decode cX3_takeTurn 169 = .ok (.bipush 12, 2) := by decide +kernel
theorem dX3_takeTurn_171 : decode cX3_takeTurn 171 = .ok (.irem, 1) := by decide +kernel
theorem dX3_takeTurn_172 : decode cX3_takeTurn 172 = .ok (.iadd, 1) := by decide +kernel
theorem dX3_takeTurn_173 : decode cX3_takeTurn 173 = .ok (.invokevirtual 107, 3) := by decide +kernel
theorem dX3_takeTurn_176 : decode cX3_takeTurn 176 = .ok (.pop, 1) := by decide +kernel
theorem dX3_takeTurn_177 : decode cX3_takeTurn 177 = .ok (.return_, 1) := by decide +kernel
set_option maxRecDepth 20000 in
theorem ggX3_save_X0_writeTo : GoodIn wsX3_save wsX0_writeTo := goodIn_r _ [10, 11, 12, 13, 14, 15, 16, 17, 18, 19, 32, 33] (by decide +kernel) (by decide +kernel)
set_option maxRecDepth 20000 in
theorem gX3_save_X0_writeTo : GoodIn wsX3_save (wsV RX3 223 RX0 yX0_writeTo wsX0_writeTo) := goodIn_app (goodIn_of _ (by decide +kernel)) ggX3_save_X0_writeTo
set_option maxRecDepth 20000 in
theorem ggX3_save_X0_ticksSoFar : GoodIn wsX3_save wsX0_ticksSoFar := goodIn_r _ [23, 11, 32] (by decide +kernel) (by decide +kernel)
set_option maxRecDepth 20000 in
theorem gX3_save_X0_ticksSoFar : GoodIn wsX3_save (wsV RX3 126 RX0 yX0_ticksSoFar wsX0_ticksSoFar) := goodIn_app (goodIn_of _ (by decide +kernel)) ggX3_save_X0_ticksSoFar
theorem dX3_save_0 : decode cX3_save 0 = .ok (.iload_n 1, 1) := by decide +kernel
theorem dX3_save_1 : decode cX3_save 1 = .ok (.ifCond .lt 8, 3) := by decide +kernel
theorem dX3_save_4 : decode cX3_save 4 = .ok (.iload_n 1, 1) := by decide +kernel
theorem dX3_save_5 : decode cX3_save 5 = .ok (.iconst 2, 1) := by decide +kernel
theorem dX3_save_6 : decode cX3_save 6 = .ok (.if_icmp .lt 14, 3) := by decide +kernel
theorem dX3_save_9 : decode cX3_save 9 = .ok (.new 146, 3) := by decide +kernel
theorem dX3_save_12 : decode cX3_save 12 = .ok (.dup, 1) := by decide +kernel
theorem dX3_save_13 : decode cX3_save 13 = .ok (.ldc_w 301, 3) := by decide +kernel
theorem dX3_save_16 : decode cX3_save 16 = .ok (.invokespecial 150, 3) := by decide +kernel
theorem dX3_save_19 : decode cX3_save 19 = .ok (.athrow, 1) := by decide +kernel
theorem dX3_save_20 : decode cX3_save 20 = .ok (.aload_n 0, 1) := by decide +kernel
theorem dX3_save_21 : decode cX3_save 21 = .ok (.getfield 19, 3) := by decide +kernel
theorem dX3_save_24 : decode cX3_save 24 = .ok (.aload_n 0, 1) := by decide +kernel
theorem dX3_save_25 : decode cX3_save 25 = .ok (.getfield 26, 3) := by decide +kernel
theorem dX3_save_28 : decode cX3_save 28 = .ok (.bipush 14, 2) := by decide +kernel
theorem dX3_save_30 : decode cX3_save 30 = .ok (.iload_n 1, 1) := by decide +kernel
theorem dX3_save_31 : decode cX3_save 31 = .ok (.iadd, 1) := by decide +kernel
theorem dX3_save_32 : decode cX3_save 32 = .ok (.invokevirtual 223, 3) := by decide +kernel
theorem dX3_save_35 : decode cX3_save 35 = .ok (.aload_n 0, 1) := by decide +kernel
theorem dX3_save_36 : decode cX3_save 36 = .ok (.getfield 37, 3) := by decide +kernel
theorem dX3_save_39 : decode cX3_save 39 = .ok (.iload_n 1, 1) := by decide +kernel
theorem dX3_save_40 : decode cX3_save 40 = .ok (.iconst 1, 1) := by decide +kernel
theorem dX3_save_41 : decode cX3_save 41 = .ok (.bastore, 1) := by decide +kernel
theorem dX3_save_42 : decode cX3_save 42 = .ok (.aload_n 0, 1) := by decide +kernel
theorem dX3_save_43 : decode cX3_save 43 = .ok (.getfield 19, 3) := by decide +kernel
theorem dX3_save_46 : decode cX3_save 46 = .ok (.invokevirtual 126, 3) := by decide +kernel
theorem dX3_save_49 : decode cX3_save 49 = .ok (.ireturn, 1) := by decide +kernel
set_option maxRecDepth 20000 in
theorem ggX3_restore_X0_readFrom : GoodIn wsX3_restore wsX0_readFrom := goodIn_r _ [12, 13, 14, 15, 16, 17, 18, 19, 20, 21, 40, 41] (by decide +kernel) (by decide +kernel)
set_option maxRecDepth 20000 in
theorem gX3_restore_X0_readFrom : GoodIn wsX3_restore (wsV RX3 219 RX0 yX0_readFrom wsX0_readFrom) := goodIn_app (goodIn_of _ (by decide +kernel)) ggX3_restore_X0_readFrom
set_option maxRecDepth 20000 in
theorem ggX3_restore_X3_forgetRemembered : GoodIn wsX3_restore wsX3_forgetRemembered := goodIn_r _ [26, 27, 32, 33, 34, 35, 36, 37, 38, 39] (by decide +kernel) (by decide +kernel)
set_option maxRecDepth 20000 in
theorem gX3_restore_X3_forgetRemembered : GoodIn wsX3_restore (wsV RX3 80 RX3 yX3_forgetRemembered wsX3_forgetRemembered) := goodIn_app (goodIn_of _ (by decide +kernel)) ggX3_restore_X3_forgetRemembered
set_option maxRecDepth 20000 in
theorem ggX3_restore_X0_ticksSoFar : GoodIn wsX3_restore wsX0_ticksSoFar := goodIn_r _ [31, 13, 41] (by decide +kernel) (by decide +kernel)
set_option maxRecDepth 20000 in
theorem gX3_restore_X0_ticksSoFar : GoodIn wsX3_restore (wsV RX3 126 RX0 yX0_ticksSoFar wsX0_ticksSoFar) := goodIn_app (goodIn_of _ (by decide +kernel)) ggX3_restore_X0_ticksSoFar
theorem dX3_restore_0 : decode cX3_restore 0 = .ok (.iload_n 1, 1) := by decide +kernel
theorem dX3_restore_1 : decode cX3_restore 1 = .ok (.ifCond .lt 8, 3) := by decide +kernel
theorem dX3_restore_4 : decode cX3_restore 4 = .ok (.iload_n 1, 1) := by decide +kernel
theorem dX3_restore_5 : decode cX3_restore 5 = .ok (.iconst 2, 1) := by decide +kernel
theorem dX3_restore_6 : decode cX3_restore 6 = .ok (.if_icmp .lt 14, 3) := by decide +kernel
theorem dX3_restore_9 : decode cX3_restore 9 = .ok (.new 146, 3) := by decide +kernel
theorem dX3_restore_12 : decode cX3_restore 12 = .ok (.dup, 1) := by decide +kernel
theorem dX3_restore_13 : decode cX3_restore 13 = .ok (.ldc_w 301, 3) := by decide +kernel
theorem dX3_restore_16 : decode cX3_restore 16 = .ok (.invokespecial 150, 3) := by decide +kernel
theorem dX3_restore_19 : decode cX3_restore 19 = .ok (.athrow, 1) := by decide +kernel
theorem dX3_restore_20 : decode cX3_restore 20 = .ok (.aload_n 0, 1) := by decide +kernel
theorem dX3_restore_21 : decode cX3_restore 21 = .ok (.getfield 37, 3) := by decide +kernel
theorem dX3_restore_24 : decode cX3_restore 24 = .ok (.iload_n 1, 1) := by decide +kernel
theorem dX3_restore_25 : decode cX3_restore 25 = .ok (.baload, 1) := by decide +kernel
theorem dX3_restore_26 : decode cX3_restore 26 = .ok (.ifCond .ne 14, 3) := by decide +kernel
theorem dX3_restore_29 : decode cX3_restore 29 = .ok (.new 58, 3) := by decide +kernel
theorem dX3_restore_32 : decode cX3_restore 32 = .ok (.dup, 1) := by decide +kernel
theorem dX3_restore_33 : decode cX3_restore 33 = .ok (.ldc_w 303, 3) := by decide +kernel
theorem dX3_restore_36 : decode cX3_restore 36 = .ok (.invokespecial 62, 3) := by decide +kernel
theorem dX3_restore_39 : decode cX3_restore 39 = .ok (.athrow, 1) := by decide +kernel
theorem dX3_restore_40 : decode cX3_restore 40 = .ok (.aload_n 0, 1) := by decide +kernel
theorem dX3_restore_41 : decode cX3_restore 41 = .ok (.getfield 19, 3) := by decide +kernel
theorem dX3_restore_44 : decode cX3_restore 44 = .ok (.aload_n 0, 1) := by decide +kernel
theorem dX3_restore_45 : decode cX3_restore 45 = .ok (.getfield 26, 3) := by decide +kernel
theorem dX3_restore_48 : decode cX3_restore 48 = .ok (.bipush 14, 2) := by decide +kernel
theorem dX3_restore_50 : decode cX3_restore 50 = .ok (.iload_n 1, 1) := by decide +kernel
theorem dX3_restore_51 : decode cX3_restore 51 = .ok (.iadd, 1) := by decide +kernel
theorem dX3_restore_52 : decode cX3_restore 52 = .ok (.invokevirtual 219, 3) := by decide +kernel
theorem dX3_restore_55 : decode cX3_restore 55 = .ok (.aload_n 0, 1) := by decide +kernel
theorem dX3_restore_56 : decode cX3_restore 56 = .ok (.invokevirtual 80, 3) := by decide +kernel
theorem dX3_restore_59 : decode cX3_restore 59 = .ok (.aload_n 0, 1) := by decide +kernel
theorem dX3_restore_60 : decode cX3_restore 60 = .ok (.getfield 19, 3) := by decide +kernel
theorem dX3_restore_63 : decode cX3_restore 63 = .ok (.invokevirtual 126, 3) := by decide +kernel
theorem dX3_restore_66 : decode cX3_restore 66 = .ok (.ireturn, 1) := by decide +kernel
theorem dX3_isRoom_0 : decode cX3_isRoom 0 = .ok (.iload_n 0, 1) := by decide +kernel
theorem dX3_isRoom_1 : decode cX3_isRoom 1 = .ok (.ifCond .lt 13, 3) := by decide +kernel
theorem dX3_isRoom_4 : decode cX3_isRoom 4 = .ok (.iload_n 0, 1) := by decide +kernel
theorem dX3_isRoom_5 : decode cX3_isRoom 5 = .ok (.bipush 36, 2) := by decide +kernel
theorem dX3_isRoom_7 : decode cX3_isRoom 7 = .ok (.if_icmp .ge 7, 3) := by decide +kernel
theorem dX3_isRoom_10 : decode cX3_isRoom 10 = .ok (.iconst 1, 1) := by decide +kernel
theorem dX3_isRoom_11 : decode cX3_isRoom 11 = .ok (.goto 4, 3) := by decide +kernel
theorem dX3_isRoom_14 : decode cX3_isRoom 14 = .ok (.iconst 0, 1) := by decide +kernel
theorem dX3_isRoom_15 : decode cX3_isRoom 15 = .ok (.ireturn, 1) := by decide +kernel
theorem dX3_isLength_0 : decode cX3_isLength 0 = .ok (.iload_n 0, 1) := by decide +kernel
theorem dX3_isLength_1 : decode cX3_isLength 1 = .ok (.iconst 1, 1) := by decide +kernel
theorem dX3_isLength_2 : decode cX3_isLength 2 = .ok (.if_icmp .lt 13, 3) := by decide +kernel
theorem dX3_isLength_5 : decode cX3_isLength 5 = .ok (.iload_n 0, 1) := by decide +kernel
theorem dX3_isLength_6 : decode cX3_isLength 6 = .ok (.bipush 9, 2) := by decide +kernel
theorem dX3_isLength_8 : decode cX3_isLength 8 = .ok (.if_icmp .gt 7, 3) := by decide +kernel
theorem dX3_isLength_11 : decode cX3_isLength 11 = .ok (.iconst 1, 1) := by decide +kernel
theorem dX3_isLength_12 : decode cX3_isLength 12 = .ok (.goto 4, 3) := by decide +kernel
theorem dX3_isLength_15 : decode cX3_isLength 15 = .ok (.iconst 0, 1) := by decide +kernel
theorem dX3_isLength_16 : decode cX3_isLength 16 = .ok (.ireturn, 1) := by decide +kernel
theorem dX3_isRule_0 : decode cX3_isRule 0 = .ok (.iload_n 0, 1) := by decide +kernel
theorem dX3_isRule_1 : decode cX3_isRule 1 = .ok (.ifCond .lt 12, 3) := by decide +kernel
theorem dX3_isRule_4 : decode cX3_isRule 4 = .ok (.iload_n 0, 1) := by decide +kernel
theorem dX3_isRule_5 : decode cX3_isRule 5 = .ok (.iconst 3, 1) := by decide +kernel
theorem dX3_isRule_6 : decode cX3_isRule 6 = .ok (.if_icmp .ge 7, 3) := by decide +kernel
theorem dX3_isRule_9 : decode cX3_isRule 9 = .ok (.iconst 1, 1) := by decide +kernel
theorem dX3_isRule_10 : decode cX3_isRule 10 = .ok (.goto 4, 3) := by decide +kernel
theorem dX3_isRule_13 : decode cX3_isRule 13 = .ok (.iconst 0, 1) := by decide +kernel
theorem dX3_isRule_14 : decode cX3_isRule 14 = .ok (.ireturn, 1) := by decide +kernel
theorem dX3_isTicks_0 : decode cX3_isTicks 0 = .ok (.iload_n 0, 1) := by decide +kernel
theorem dX3_isTicks_1 : decode cX3_isTicks 1 = .ok (.iconst 1, 1) := by decide +kernel
theorem dX3_isTicks_2 : decode cX3_isTicks 2 = .ok (.if_icmp .lt 13, 3) := by decide +kernel
theorem dX3_isTicks_5 : decode cX3_isTicks 5 = .ok (.iload_n 0, 1) := by decide +kernel
theorem dX3_isTicks_6 : decode cX3_isTicks 6 = .ok (.bipush 60, 2) := by decide +kernel
theorem dX3_isTicks_8 : decode cX3_isTicks 8 = .ok (.if_icmp .gt 7, 3) := by decide +kernel
theorem dX3_isTicks_11 : decode cX3_isTicks 11 = .ok (.iconst 1, 1) := by decide +kernel
theorem dX3_isTicks_12 : decode cX3_isTicks 12 = .ok (.goto 4, 3) := by decide +kernel
theorem dX3_isTicks_15 : decode cX3_isTicks 15 = .ok (.iconst 0, 1) := by decide +kernel
theorem dX3_isTicks_16 : decode cX3_isTicks 16 = .ok (.ireturn, 1) := by decide +kernel
theorem dJ6_bitCount_0f7a4_0 : decode cJ6_bitCount_0f7a4 0 = .ok (.iload_n 0, 1) := by decide +kernel
theorem dJ6_bitCount_0f7a4_1 : decode cJ6_bitCount_0f7a4 1 = .ok (.iload_n 0, 1) := by decide +kernel
theorem dJ6_bitCount_0f7a4_2 : decode cJ6_bitCount_0f7a4 2 = .ok (.iconst 1, 1) := by decide +kernel
theorem dJ6_bitCount_0f7a4_3 : decode cJ6_bitCount_0f7a4 3 = .ok (.iushr, 1) := by decide +kernel
theorem dJ6_bitCount_0f7a4_4 : decode cJ6_bitCount_0f7a4 4 = .ok (.ldc_w 265, 3) := by decide +kernel
theorem dJ6_bitCount_0f7a4_7 : decode cJ6_bitCount_0f7a4 7 = .ok (.iand, 1) := by decide +kernel
theorem dJ6_bitCount_0f7a4_8 : decode cJ6_bitCount_0f7a4 8 = .ok (.isub, 1) := by decide +kernel
theorem dJ6_bitCount_0f7a4_9 : decode cJ6_bitCount_0f7a4 9 = .ok (.istore_n 0, 1) := by decide +kernel
theorem dJ6_bitCount_0f7a4_10 : decode cJ6_bitCount_0f7a4 10 = .ok (.iload_n 0, 1) := by decide +kernel
theorem dJ6_bitCount_0f7a4_11 : decode cJ6_bitCount_0f7a4 11 = .ok (.ldc_w 266, 3) := by decide +kernel
theorem dJ6_bitCount_0f7a4_14 : decode cJ6_bitCount_0f7a4 14 = .ok (.iand, 1) := by decide +kernel
theorem dJ6_bitCount_0f7a4_15 : decode cJ6_bitCount_0f7a4 15 = .ok (.iload_n 0, 1) := by decide +kernel
theorem dJ6_bitCount_0f7a4_16 : decode cJ6_bitCount_0f7a4 16 = .ok (.iconst 2, 1) := by decide +kernel
theorem dJ6_bitCount_0f7a4_17 : decode cJ6_bitCount_0f7a4 17 = .ok (.iushr, 1) := by decide +kernel
theorem dJ6_bitCount_0f7a4_18 : decode cJ6_bitCount_0f7a4 18 = .ok (.ldc_w 266, 3) := by decide +kernel
theorem dJ6_bitCount_0f7a4_21 : decode cJ6_bitCount_0f7a4 21 = .ok (.iand, 1) := by decide +kernel
theorem dJ6_bitCount_0f7a4_22 : decode cJ6_bitCount_0f7a4 22 = .ok (.iadd, 1) := by decide +kernel
theorem dJ6_bitCount_0f7a4_23 : decode cJ6_bitCount_0f7a4 23 = .ok (.istore_n 0, 1) := by decide +kernel
theorem dJ6_bitCount_0f7a4_24 : decode cJ6_bitCount_0f7a4 24 = .ok (.iload_n 0, 1) := by decide +kernel
theorem dJ6_bitCount_0f7a4_25 : decode cJ6_bitCount_0f7a4 25 = .ok (.iload_n 0, 1) := by decide +kernel
theorem dJ6_bitCount_0f7a4_26 : decode cJ6_bitCount_0f7a4 26 = .ok (.iconst 4, 1) := by decide +kernel
theorem dJ6_bitCount_0f7a4_27 : decode cJ6_bitCount_0f7a4 27 = .ok (.iushr, 1) := by decide +kernel
theorem dJ6_bitCount_0f7a4_28 : decode cJ6_bitCount_0f7a4 28 = .ok (.iadd, 1) := by decide +kernel
theorem dJ6_bitCount_0f7a4_29 : decode cJ6_bitCount_0f7a4 29 = .ok (.ldc_w 267, 3) := by decide +kernel
theorem dJ6_bitCount_0f7a4_32 : decode cJ6_bitCount_0f7a4 32 = .ok (.iand, 1) := by decide +kernel
theorem dJ6_bitCount_0f7a4_33 : decode cJ6_bitCount_0f7a4 33 = .ok (.istore_n 0, 1) := by decide +kernel
theorem dJ6_bitCount_0f7a4_34 : decode cJ6_bitCount_0f7a4 34 = .ok (.iload_n 0, 1) := by decide +kernel
theorem dJ6_bitCount_0f7a4_35 : decode cJ6_bitCount_0f7a4 35 = .ok (.iload_n 0, 1) := by decide +kernel
theorem dJ6_bitCount_0f7a4_36 : decode cJ6_bitCount_0f7a4 36 = .ok (.bipush 8, 2) := by decide +kernel
theorem dJ6_bitCount_0f7a4_38 : decode cJ6_bitCount_0f7a4 38 = .ok (.iushr, 1) := by decide +kernel
theorem dJ6_bitCount_0f7a4_39 : decode cJ6_bitCount_0f7a4 39 = .ok (.iadd, 1) := by decide +kernel
theorem dJ6_bitCount_0f7a4_40 : decode cJ6_bitCount_0f7a4 40 = .ok (.istore_n 0, 1) := by decide +kernel
theorem dJ6_bitCount_0f7a4_41 : decode cJ6_bitCount_0f7a4 41 = .ok (.iload_n 0, 1) := by decide +kernel
theorem dJ6_bitCount_0f7a4_42 : decode cJ6_bitCount_0f7a4 42 = .ok (.iload_n 0, 1) := by decide +kernel
theorem dJ6_bitCount_0f7a4_43 : decode cJ6_bitCount_0f7a4 43 = .ok (.bipush 16, 2) := by decide +kernel
theorem dJ6_bitCount_0f7a4_45 : decode cJ6_bitCount_0f7a4 45 = .ok (.iushr, 1) := by decide +kernel
theorem dJ6_bitCount_0f7a4_46 : decode cJ6_bitCount_0f7a4 46 = .ok (.iadd, 1) := by decide +kernel
theorem dJ6_bitCount_0f7a4_47 : decode cJ6_bitCount_0f7a4 47 = .ok (.istore_n 0, 1) := by decide +kernel
theorem dJ6_bitCount_0f7a4_48 : decode cJ6_bitCount_0f7a4 48 = .ok (.iload_n 0, 1) := by decide +kernel
theorem dJ6_bitCount_0f7a4_49 : decode cJ6_bitCount_0f7a4 49 = .ok (.bipush 63, 2) := by decide +kernel
theorem dJ6_bitCount_0f7a4_51 : decode cJ6_bitCount_0f7a4 51 = .ok (.iand, 1) := by decide +kernel
theorem dJ6_bitCount_0f7a4_52 : decode cJ6_bitCount_0f7a4 52 = .ok (.ireturn, 1) := by decide +kernel
set_option maxRecDepth 20000 in
theorem ggL_shuts_X3_shut : GoodIn wsL_shuts wsX3_shut := goodIn_ca (goodIn_ca (goodIn_r _ [9, 10, 11, 12, 13, 14, 15, 16, 8, 17, 18, 19, 20, 21, 22, 23, 24, 25, 26, 27, 28, 29, 30, 31, 32, 33, 34, 35, 36, 37, 38, 39, 40, 41, 42, 43, 44, 45, 46, 47, 48, 49, 50, 51, 52, 53, 54, 55, 56, 57, 58, 59, 60, 61, 62, 63, 64, 65, 66, 67, 68, 69] (by decide +kernel) (by decide +kernel)) (goodIn_sub (fun _ h => List.mem_cons_of_mem _ (List.mem_append_left _ (List.mem_append_right _ h))) (by decide +kernel))) (goodIn_sub (fun _ h => List.mem_cons_of_mem _ (List.mem_append_right _ h)) (by decide +kernel))
set_option maxRecDepth 20000 in
theorem gL_shuts_X3_shut : GoodIn wsL_shuts (wsV RL 7 RX3 yX3_shut wsX3_shut) := goodIn_app (goodIn_of _ (by decide +kernel)) ggL_shuts_X3_shut
theorem dL_shuts_0 : decode cL_shuts 0 = .ok (.aload_n 0, 1) := by decide +kernel
theorem dL_shuts_1 : decode cL_shuts 1 = .ok (.iload_n 1, 1) := by decide +kernel
theorem dL_shuts_2 : decode cL_shuts 2 = .ok (.iload_n 2, 1) := by decide +kernel
theorem dL_shuts_3 : decode cL_shuts 3 = .ok (.invokevirtual 7, 3) := by decide +kernel
theorem dL_shuts_6 : decode cL_shuts 6 = .ok (.ireturn, 1) := by decide +kernel
theorem dL_shuts_7 : decode cL_shuts 7 = .ok (.astore_n 3, 1) := by decide +kernel
theorem dL_shuts_8 : decode cL_shuts 8 = .ok (.ldc 15, 2) := by decide +kernel
theorem dL_shuts_10 : decode cL_shuts 10 = .ok (.ireturn, 1) := by decide +kernel
theorem dL_shuts_11 : decode cL_shuts 11 = .ok (.astore_n 3, 1) := by decide +kernel
theorem dL_shuts_12 : decode cL_shuts 12 = .ok (.ldc 18, 2) := by decide +kernel
theorem dL_shuts_14 : decode cL_shuts 14 = .ok (.ireturn, 1) := by decide +kernel
set_option maxRecDepth 20000 in
theorem gsL_doScript_X3_runScript_h : GoodIn wsL_doScript [.code yX3_runScript cX3_runScript 5 (some .int)] := goodIn_r _ [7] (by decide +kernel) (by decide +kernel)
set_option maxRecDepth 20000 in
theorem gsL_doScript_X3_runScript_0 : GoodIn wsL_doScript wsX3_runScript_r1 := goodIn_r _ [8, 9, 10, 11, 12, 13, 14, 6, 15, 16, 17, 18, 19, 20, 21, 22, 23, 24, 25, 26, 27, 28, 29, 30] (by decide +kernel) (by decide +kernel)
set_option maxRecDepth 20000 in
theorem gsL_doScript_X3_runScript_1 : GoodIn wsL_doScript wsX3_runScript_r2 := goodIn_r _ [31, 32, 33, 34, 35, 36, 37, 38, 39, 40, 41, 42, 43, 44, 45, 46, 47, 48, 49, 50, 51, 52, 53, 54] (by decide +kernel) (by decide +kernel)
set_option maxRecDepth 20000 in
theorem gsL_doScript_X3_runScript_2 : GoodIn wsL_doScript wsX3_runScript_r3 := goodIn_r _ [55, 56, 57, 58, 59, 60, 61, 62, 63, 64, 65, 66, 67, 68, 69, 70, 71, 72, 73, 74, 75, 76, 77, 78] (by decide +kernel) (by decide +kernel)
set_option maxRecDepth 20000 in
theorem gsL_doScript_X3_runScript_3 : GoodIn wsL_doScript wsX3_runScript_r4 := goodIn_r _ [79, 80, 81, 82, 83, 84, 85, 86, 87, 88, 89, 90, 91, 92, 93, 94, 95, 96, 97, 98, 99, 100, 101, 102] (by decide +kernel) (by decide +kernel)
set_option maxRecDepth 20000 in
theorem gsL_doScript_X3_runScript_4 : GoodIn wsL_doScript wsX3_runScript_r5 := goodIn_r _ [103, 104, 105, 106, 107, 108, 109, 110, 111, 112, 113, 114, 115, 116, 117, 118, 119, 120, 121, 122, 123, 124, 125, 126] (by decide +kernel) (by decide +kernel)
set_option maxRecDepth 20000 in
theorem gsL_doScript_X3_runScript_5 : GoodIn wsL_doScript wsX3_runScript_r6 := goodIn_r _ [127, 128, 129, 130, 131, 132, 133, 134, 135, 136, 137, 138, 139, 140, 141, 142, 143, 144, 145, 146, 147, 148, 149, 150] (by decide +kernel) (by decide +kernel)
set_option maxRecDepth 20000 in
theorem gsL_doScript_X3_runScript_6 : GoodIn wsL_doScript wsX3_runScript_r7 := goodIn_r _ [151, 152, 153, 154, 155, 156, 157, 158, 159, 160, 161] (by decide +kernel) (by decide +kernel)
set_option maxRecDepth 20000 in
theorem gsL_doScript_X3_runScript_wsX30 : GoodIn wsL_doScript wsX30 := goodIn_r _ [162, 163, 164, 165, 166, 167, 168, 169] (by decide +kernel) (by decide +kernel)
set_option maxRecDepth 20000 in
theorem gsL_doScript_X3_runScript_wsX00 : GoodIn wsL_doScript wsX00 := goodIn_r _ [170] (by decide +kernel) (by decide +kernel)
theorem gsL_doScript_X3_runScript_b : GoodIn wsL_doScript (.code yX3_runScript cX3_runScript 5 (some .int) :: ((wsX3_runScript_r1 ++ (wsX3_runScript_r2 ++ (wsX3_runScript_r3 ++ (wsX3_runScript_r4 ++ (wsX3_runScript_r5 ++ (wsX3_runScript_r6 ++ wsX3_runScript_r7)))))) ++ wsX30 ++ wsX00)) := goodIn_cons gsL_doScript_X3_runScript_h (goodIn_app (goodIn_app (goodIn_app gsL_doScript_X3_runScript_0 (goodIn_app gsL_doScript_X3_runScript_1 (goodIn_app gsL_doScript_X3_runScript_2 (goodIn_app gsL_doScript_X3_runScript_3 (goodIn_app gsL_doScript_X3_runScript_4 (goodIn_app gsL_doScript_X3_runScript_5 gsL_doScript_X3_runScript_6)))))) gsL_doScript_X3_runScript_wsX30) gsL_doScript_X3_runScript_wsX00)
set_option maxRecDepth 20000 in
theorem ggL_doScript_X3_runScript : GoodIn wsL_doScript wsX3_runScript := goodIn_ca gsL_doScript_X3_runScript_b (goodIn_sub (fun _ h => List.mem_cons_of_mem _ (List.mem_append_right _ h)) (by decide +kernel))
set_option maxRecDepth 20000 in
theorem gL_doScript_X3_runScript : GoodIn wsL_doScript (wsV RL 19 RX3 yX3_runScript wsX3_runScript) := goodIn_app (goodIn_of _ (by decide +kernel)) ggL_doScript_X3_runScript
theorem dL_doScript_0 : decode cL_doScript 0 = .ok (.aload_n 0, 1) := by decide +kernel
theorem dL_doScript_1 : decode cL_doScript 1 = .ok (.iload_n 1, 1) := by decide +kernel
theorem dL_doScript_2 : decode cL_doScript 2 = .ok (.lload_n 2, 1) := by decide +kernel
theorem dL_doScript_3 : decode cL_doScript 3 = .ok (.invokevirtual 19, 3) := by decide +kernel
theorem dL_doScript_6 : decode cL_doScript 6 = .ok (.ireturn, 1) := by decide +kernel
theorem dL_doScript_7 : decode cL_doScript 7 = .ok (.astore 4, 2) := by decide +kernel
theorem dL_doScript_9 : decode cL_doScript 9 = .ok (.ldc 25, 2) := by decide +kernel
theorem dL_doScript_11 : decode cL_doScript 11 = .ok (.ireturn, 1) := by decide +kernel
set_option maxRecDepth 20000 in
theorem ggL_doSimulate_X3_simulate : GoodIn wsL_doSimulate wsX3_simulate := goodIn_ca (goodIn_r _ [7, 8, 9, 10, 11, 12, 13, 14, 15, 16, 17, 18, 19, 20, 21, 22, 23, 24, 25, 26, 27, 28, 29, 30, 6, 31, 32, 33, 34, 35, 36, 37, 38, 39, 40, 41, 42, 43, 44, 45, 46, 47, 48, 49, 50, 51, 52, 53, 54, 55, 56, 57, 58, 59, 60, 61, 62, 63, 64, 65, 66, 67, 68, 69, 70, 71, 72, 73, 74, 75, 76, 77, 78, 79, 80, 81, 82, 83, 84, 85, 86, 87, 88, 89, 90, 91, 92, 93, 94, 95, 96, 97, 98, 99, 100, 101, 102, 103, 104, 105, 106, 107, 108, 109, 110, 111, 112, 113, 114, 115, 116, 117, 118, 119, 120, 121, 122, 123, 124, 125, 126, 127, 128, 129, 130, 131, 132, 133, 134, 135, 136, 137, 138, 139, 140, 141, 142] (by decide +kernel) (by decide +kernel)) (goodIn_sub (fun _ h => List.mem_cons_of_mem _ (List.mem_append_right _ h)) (by decide +kernel))
set_option maxRecDepth 20000 in
theorem gL_doSimulate_X3_simulate : GoodIn wsL_doSimulate (wsV RL 26 RX3 yX3_simulate wsX3_simulate) := goodIn_app (goodIn_of _ (by decide +kernel)) ggL_doSimulate_X3_simulate
theorem dL_doSimulate_0 : decode cL_doSimulate 0 = .ok (.aload_n 0, 1) := by decide +kernel
theorem dL_doSimulate_1 : decode cL_doSimulate 1 = .ok (.lload_n 1, 1) := by decide +kernel
theorem dL_doSimulate_2 : decode cL_doSimulate 2 = .ok (.iload_n 3, 1) := by decide +kernel
theorem dL_doSimulate_3 : decode cL_doSimulate 3 = .ok (.invokevirtual 26, 3) := by decide +kernel
theorem dL_doSimulate_6 : decode cL_doSimulate 6 = .ok (.ireturn, 1) := by decide +kernel
theorem dL_doSimulate_7 : decode cL_doSimulate 7 = .ok (.astore 4, 2) := by decide +kernel
theorem dL_doSimulate_9 : decode cL_doSimulate 9 = .ok (.ldc 25, 2) := by decide +kernel
theorem dL_doSimulate_11 : decode cL_doSimulate 11 = .ok (.ireturn, 1) := by decide +kernel
set_option maxRecDepth 20000 in
theorem ggL_tryAppend_X3_append : GoodIn wsL_tryAppend wsX3_append := goodIn_ca (goodIn_ca (goodIn_r _ [9, 10, 11, 12, 13, 14, 15, 16, 17, 18, 19, 20, 21, 22, 23, 24, 25, 26, 27, 28, 29, 30, 31, 32, 33, 34, 35, 36, 37, 38, 39] (by decide +kernel) (by decide +kernel)) (goodIn_sub (fun _ h => List.mem_cons_of_mem _ (List.mem_append_left _ (List.mem_append_right _ h))) (by decide +kernel))) (goodIn_sub (fun _ h => List.mem_cons_of_mem _ (List.mem_append_right _ h)) (by decide +kernel))
set_option maxRecDepth 20000 in
theorem gL_tryAppend_X3_append : GoodIn wsL_tryAppend (wsV RL 30 RX3 yX3_append wsX3_append) := goodIn_app (goodIn_of _ (by decide +kernel)) ggL_tryAppend_X3_append
theorem dL_tryAppend_0 : decode cL_tryAppend 0 = .ok (.aload_n 0, 1) := by decide +kernel
theorem dL_tryAppend_1 : decode cL_tryAppend 1 = .ok (.iload_n 1, 1) := by decide +kernel
theorem dL_tryAppend_2 : decode cL_tryAppend 2 = .ok (.invokevirtual 30, 3) := by decide +kernel
theorem dL_tryAppend_5 : decode cL_tryAppend 5 = .ok (.ireturn, 1) := by decide +kernel
theorem dL_tryAppend_6 : decode cL_tryAppend 6 = .ok (.astore_n 2, 1) := by decide +kernel
theorem dL_tryAppend_7 : decode cL_tryAppend 7 = .ok (.ldc 25, 2) := by decide +kernel
theorem dL_tryAppend_9 : decode cL_tryAppend 9 = .ok (.ireturn, 1) := by decide +kernel
theorem dL_tryAppend_10 : decode cL_tryAppend 10 = .ok (.astore_n 2, 1) := by decide +kernel
theorem dL_tryAppend_11 : decode cL_tryAppend 11 = .ok (.ldc 18, 2) := by decide +kernel
theorem dL_tryAppend_13 : decode cL_tryAppend 13 = .ok (.ireturn, 1) := by decide +kernel
set_option maxRecDepth 20000 in
theorem ggL_tryAbout_X3_about : GoodIn wsL_tryAbout wsX3_about := goodIn_ca (goodIn_r _ [7, 8, 9, 10, 11, 12, 13, 14, 15, 16, 17, 18, 19, 20, 21, 22, 23, 24, 25, 26, 27, 28, 29, 30, 31, 32, 33, 34, 35, 36, 37, 38, 39, 40, 41, 42, 43, 44, 45, 6, 46, 47, 48, 49, 50, 51, 52, 53, 54, 55, 56, 57, 58, 59, 60, 61, 62, 63, 64, 65, 66, 67, 68, 69, 70, 71] (by decide +kernel) (by decide +kernel)) (goodIn_sub (fun _ h => List.mem_cons_of_mem _ (List.mem_append_right _ h)) (by decide +kernel))
set_option maxRecDepth 20000 in
theorem gL_tryAbout_X3_about : GoodIn wsL_tryAbout (wsV RL 38 RX3 yX3_about wsX3_about) := goodIn_app (goodIn_of _ (by decide +kernel)) ggL_tryAbout_X3_about
theorem dL_tryAbout_0 : decode cL_tryAbout 0 = .ok (.aload_n 0, 1) := by decide +kernel
theorem dL_tryAbout_1 : decode cL_tryAbout 1 = .ok (.iload_n 1, 1) := by decide +kernel
theorem dL_tryAbout_2 : decode cL_tryAbout 2 = .ok (.invokevirtual 38, 3) := by decide +kernel
theorem dL_tryAbout_5 : decode cL_tryAbout 5 = .ok (.ireturn, 1) := by decide +kernel
theorem dL_tryAbout_6 : decode cL_tryAbout 6 = .ok (.astore_n 2, 1) := by decide +kernel
theorem dL_tryAbout_7 : decode cL_tryAbout 7 = .ok (.ldc 25, 2) := by decide +kernel
theorem dL_tryAbout_9 : decode cL_tryAbout 9 = .ok (.ireturn, 1) := by decide +kernel
set_option maxRecDepth 20000 in
theorem ggL_tryCat_X3_caterpillar : GoodIn wsL_tryCat wsX3_caterpillar := goodIn_ca (goodIn_ca (goodIn_r _ [9, 10, 11, 12, 13, 14, 15, 16, 17, 18, 19, 20, 21, 22, 23, 24, 25, 26, 27, 28, 29, 30, 31, 32, 33] (by decide +kernel) (by decide +kernel)) (goodIn_sub (fun _ h => List.mem_cons_of_mem _ (List.mem_append_left _ (List.mem_append_right _ h))) (by decide +kernel))) (goodIn_sub (fun _ h => List.mem_cons_of_mem _ (List.mem_append_right _ h)) (by decide +kernel))
set_option maxRecDepth 20000 in
theorem gL_tryCat_X3_caterpillar : GoodIn wsL_tryCat (wsV RL 41 RX3 yX3_caterpillar wsX3_caterpillar) := goodIn_app (goodIn_of _ (by decide +kernel)) ggL_tryCat_X3_caterpillar
theorem dL_tryCat_0 : decode cL_tryCat 0 = .ok (.aload_n 0, 1) := by decide +kernel
theorem dL_tryCat_1 : decode cL_tryCat 1 = .ok (.iload_n 1, 1) := by decide +kernel
theorem dL_tryCat_2 : decode cL_tryCat 2 = .ok (.iload_n 2, 1) := by decide +kernel
theorem dL_tryCat_3 : decode cL_tryCat 3 = .ok (.invokevirtual 41, 3) := by decide +kernel
theorem dL_tryCat_6 : decode cL_tryCat 6 = .ok (.ireturn, 1) := by decide +kernel
theorem dL_tryCat_7 : decode cL_tryCat 7 = .ok (.astore_n 3, 1) := by decide +kernel
theorem dL_tryCat_8 : decode cL_tryCat 8 = .ok (.ldc 15, 2) := by decide +kernel
theorem dL_tryCat_10 : decode cL_tryCat 10 = .ok (.ireturn, 1) := by decide +kernel
theorem dL_tryCat_11 : decode cL_tryCat 11 = .ok (.astore_n 3, 1) := by decide +kernel
theorem dL_tryCat_12 : decode cL_tryCat 12 = .ok (.ldc 25, 2) := by decide +kernel
theorem dL_tryCat_14 : decode cL_tryCat 14 = .ok (.ireturn, 1) := by decide +kernel
set_option maxRecDepth 20000 in
theorem ggL_tryLies_X3_lies : GoodIn wsL_tryLies wsX3_lies := goodIn_ca (goodIn_r _ [7, 8, 9, 10, 11, 12, 13, 14, 15, 16, 17, 18, 19, 20, 21, 22, 23, 24, 25, 26, 27, 28, 29] (by decide +kernel) (by decide +kernel)) (goodIn_sub (fun _ h => List.mem_cons_of_mem _ (List.mem_append_right _ h)) (by decide +kernel))
set_option maxRecDepth 20000 in
theorem gL_tryLies_X3_lies : GoodIn wsL_tryLies (wsV RL 45 RX3 yX3_lies wsX3_lies) := goodIn_app (goodIn_of _ (by decide +kernel)) ggL_tryLies_X3_lies
theorem dL_tryLies_0 : decode cL_tryLies 0 = .ok (.aload_n 0, 1) := by decide +kernel
theorem dL_tryLies_1 : decode cL_tryLies 1 = .ok (.iload_n 1, 1) := by decide +kernel
theorem dL_tryLies_2 : decode cL_tryLies 2 = .ok (.iload_n 2, 1) := by decide +kernel
theorem dL_tryLies_3 : decode cL_tryLies 3 = .ok (.invokevirtual 45, 3) := by decide +kernel
theorem dL_tryLies_6 : decode cL_tryLies 6 = .ok (.ireturn, 1) := by decide +kernel
theorem dL_tryLies_7 : decode cL_tryLies 7 = .ok (.astore_n 3, 1) := by decide +kernel
theorem dL_tryLies_8 : decode cL_tryLies 8 = .ok (.ldc 15, 2) := by decide +kernel
theorem dL_tryLies_10 : decode cL_tryLies 10 = .ok (.ireturn, 1) := by decide +kernel
set_option maxRecDepth 20000 in
theorem ggL_tryRoom_X3_room : GoodIn wsL_tryRoom wsX3_room := goodIn_ca (goodIn_ca (goodIn_r _ [9, 10, 11, 12, 13, 14, 15, 16, 8, 17, 18, 19, 20, 21, 22, 23, 24, 25, 26, 27, 28, 29, 30, 31, 32, 33, 34, 35, 36] (by decide +kernel) (by decide +kernel)) (goodIn_sub (fun _ h => List.mem_cons_of_mem _ (List.mem_append_left _ (List.mem_append_right _ h))) (by decide +kernel))) (goodIn_sub (fun _ h => List.mem_cons_of_mem _ (List.mem_append_right _ h)) (by decide +kernel))
set_option maxRecDepth 20000 in
theorem gL_tryRoom_X3_room : GoodIn wsL_tryRoom (wsV RL 48 RX3 yX3_room wsX3_room) := goodIn_app (goodIn_of _ (by decide +kernel)) ggL_tryRoom_X3_room
theorem dL_tryRoom_0 : decode cL_tryRoom 0 = .ok (.aload_n 0, 1) := by decide +kernel
theorem dL_tryRoom_1 : decode cL_tryRoom 1 = .ok (.iload_n 1, 1) := by decide +kernel
theorem dL_tryRoom_2 : decode cL_tryRoom 2 = .ok (.iload_n 2, 1) := by decide +kernel
theorem dL_tryRoom_3 : decode cL_tryRoom 3 = .ok (.invokevirtual 48, 3) := by decide +kernel
theorem dL_tryRoom_6 : decode cL_tryRoom 6 = .ok (.ireturn, 1) := by decide +kernel
theorem dL_tryRoom_7 : decode cL_tryRoom 7 = .ok (.astore_n 3, 1) := by decide +kernel
theorem dL_tryRoom_8 : decode cL_tryRoom 8 = .ok (.ldc 15, 2) := by decide +kernel
theorem dL_tryRoom_10 : decode cL_tryRoom 10 = .ok (.ireturn, 1) := by decide +kernel
theorem dL_tryRoom_11 : decode cL_tryRoom 11 = .ok (.astore_n 3, 1) := by decide +kernel
theorem dL_tryRoom_12 : decode cL_tryRoom 12 = .ok (.ldc 25, 2) := by decide +kernel
theorem dL_tryRoom_14 : decode cL_tryRoom 14 = .ok (.ireturn, 1) := by decide +kernel
set_option maxRecDepth 20000 in
theorem ggL_tryNext_X3_next : GoodIn wsL_tryNext wsX3_next := goodIn_ca (goodIn_r _ [7, 8, 9, 10, 11, 12, 13, 14, 15, 16, 17, 18, 19, 20, 21, 22, 23, 24, 25, 26, 27, 28, 29, 30, 31, 32, 33, 34, 35, 36, 37, 38, 39, 40, 41, 42, 43] (by decide +kernel) (by decide +kernel)) (goodIn_sub (fun _ h => List.mem_cons_of_mem _ (List.mem_append_right _ h)) (by decide +kernel))
set_option maxRecDepth 20000 in
theorem gL_tryNext_X3_next : GoodIn wsL_tryNext (wsV RL 51 RX3 yX3_next wsX3_next) := goodIn_app (goodIn_of _ (by decide +kernel)) ggL_tryNext_X3_next
theorem dL_tryNext_0 : decode cL_tryNext 0 = .ok (.aload_n 0, 1) := by decide +kernel
theorem dL_tryNext_1 : decode cL_tryNext 1 = .ok (.iload_n 1, 1) := by decide +kernel
theorem dL_tryNext_2 : decode cL_tryNext 2 = .ok (.invokevirtual 51, 3) := by decide +kernel
theorem dL_tryNext_5 : decode cL_tryNext 5 = .ok (.ireturn, 1) := by decide +kernel
theorem dL_tryNext_6 : decode cL_tryNext 6 = .ok (.astore_n 2, 1) := by decide +kernel
theorem dL_tryNext_7 : decode cL_tryNext 7 = .ok (.ldc 15, 2) := by decide +kernel
theorem dL_tryNext_9 : decode cL_tryNext 9 = .ok (.ireturn, 1) := by decide +kernel
set_option maxRecDepth 20000 in
theorem ggL_tryWaits_X3_waitsFor : GoodIn wsL_tryWaits wsX3_waitsFor := goodIn_ca (goodIn_r _ [7, 8, 9, 10, 11, 12, 13, 14, 15, 16, 17, 18, 19, 20, 21, 22, 23, 24, 25, 26, 27, 28, 29, 30, 31, 32, 33, 34, 35, 36, 37, 38, 39, 40, 41, 42, 43, 6, 44, 45, 46, 47, 48, 49, 50, 51, 52, 53] (by decide +kernel) (by decide +kernel)) (goodIn_sub (fun _ h => List.mem_cons_of_mem _ (List.mem_append_right _ h)) (by decide +kernel))
set_option maxRecDepth 20000 in
theorem gL_tryWaits_X3_waitsFor : GoodIn wsL_tryWaits (wsV RL 54 RX3 yX3_waitsFor wsX3_waitsFor) := goodIn_app (goodIn_of _ (by decide +kernel)) ggL_tryWaits_X3_waitsFor
theorem dL_tryWaits_0 : decode cL_tryWaits 0 = .ok (.aload_n 0, 1) := by decide +kernel
theorem dL_tryWaits_1 : decode cL_tryWaits 1 = .ok (.iload_n 1, 1) := by decide +kernel
theorem dL_tryWaits_2 : decode cL_tryWaits 2 = .ok (.invokevirtual 54, 3) := by decide +kernel
theorem dL_tryWaits_5 : decode cL_tryWaits 5 = .ok (.ireturn, 1) := by decide +kernel
theorem dL_tryWaits_6 : decode cL_tryWaits 6 = .ok (.astore_n 2, 1) := by decide +kernel
theorem dL_tryWaits_7 : decode cL_tryWaits 7 = .ok (.ldc 15, 2) := by decide +kernel
theorem dL_tryWaits_9 : decode cL_tryWaits 9 = .ok (.ireturn, 1) := by decide +kernel
set_option maxRecDepth 20000 in
theorem ggL_tryRing_X3_ring : GoodIn wsL_tryRing wsX3_ring := goodIn_ca (goodIn_r _ [7, 8, 9, 10, 11, 12, 13, 14, 15, 16, 17, 18, 19, 20, 21, 22, 23, 24, 25, 26, 27, 28, 29, 30, 31, 32, 33, 34, 35, 36, 37, 38, 39, 40, 41, 42, 43, 44, 45, 46, 47, 6, 48, 49, 50, 51, 52, 53, 54, 55, 56, 57, 58] (by decide +kernel) (by decide +kernel)) (goodIn_sub (fun _ h => List.mem_cons_of_mem _ (List.mem_append_right _ h)) (by decide +kernel))
set_option maxRecDepth 20000 in
theorem gL_tryRing_X3_ring : GoodIn wsL_tryRing (wsV RL 57 RX3 yX3_ring wsX3_ring) := goodIn_app (goodIn_of _ (by decide +kernel)) ggL_tryRing_X3_ring
theorem dL_tryRing_0 : decode cL_tryRing 0 = .ok (.aload_n 0, 1) := by decide +kernel
theorem dL_tryRing_1 : decode cL_tryRing 1 = .ok (.iload_n 1, 1) := by decide +kernel
theorem dL_tryRing_2 : decode cL_tryRing 2 = .ok (.invokevirtual 57, 3) := by decide +kernel
theorem dL_tryRing_5 : decode cL_tryRing 5 = .ok (.ireturn, 1) := by decide +kernel
theorem dL_tryRing_6 : decode cL_tryRing 6 = .ok (.astore_n 2, 1) := by decide +kernel
theorem dL_tryRing_7 : decode cL_tryRing 7 = .ok (.ldc 25, 2) := by decide +kernel
theorem dL_tryRing_9 : decode cL_tryRing 9 = .ok (.ireturn, 1) := by decide +kernel
set_option maxRecDepth 20000 in
theorem ggL_tryHatch_X3_hatch : GoodIn wsL_tryHatch wsX3_hatch := goodIn_ca (goodIn_ca (goodIn_ca (goodIn_r _ [11, 12, 13, 14, 15, 16, 17, 18, 19, 20, 10, 21, 22, 23, 24, 25, 26, 27, 28, 29, 30, 31, 32, 33, 34, 35, 36, 37, 38, 39, 40, 41, 42, 43, 44, 45, 46, 47, 48, 49, 50, 51, 52, 53, 54, 55, 56, 57, 58, 59, 60, 61, 62, 63, 64, 65, 66, 67, 68, 69, 70, 71, 72] (by decide +kernel) (by decide +kernel)) (goodIn_sub (fun _ h => List.mem_cons_of_mem _ (List.mem_append_left _ (List.mem_append_left _ (List.mem_append_right _ h)))) (by decide +kernel))) (goodIn_sub (fun _ h => List.mem_cons_of_mem _ (List.mem_append_left _ (List.mem_append_right _ h))) (by decide +kernel))) (goodIn_sub (fun _ h => List.mem_cons_of_mem _ (List.mem_append_right _ h)) (by decide +kernel))
set_option maxRecDepth 20000 in
theorem gL_tryHatch_X3_hatch : GoodIn wsL_tryHatch (wsV RL 60 RX3 yX3_hatch wsX3_hatch) := goodIn_app (goodIn_of _ (by decide +kernel)) ggL_tryHatch_X3_hatch
theorem dL_tryHatch_0 : decode cL_tryHatch 0 = .ok (.aload_n 0, 1) := by decide +kernel
theorem dL_tryHatch_1 : decode cL_tryHatch 1 = .ok (.iload_n 1, 1) := by decide +kernel
theorem dL_tryHatch_2 : decode cL_tryHatch 2 = .ok (.iload_n 2, 1) := by decide +kernel
theorem dL_tryHatch_3 : decode cL_tryHatch 3 = .ok (.iload_n 3, 1) := by decide +kernel
theorem dL_tryHatch_4 : decode cL_tryHatch 4 = .ok (.invokevirtual 60, 3) := by decide +kernel
theorem dL_tryHatch_7 : decode cL_tryHatch 7 = .ok (.ireturn, 1) := by decide +kernel
theorem dL_tryHatch_8 : decode cL_tryHatch 8 = .ok (.astore 4, 2) := by decide +kernel
theorem dL_tryHatch_10 : decode cL_tryHatch 10 = .ok (.ldc 15, 2) := by decide +kernel
theorem dL_tryHatch_12 : decode cL_tryHatch 12 = .ok (.ireturn, 1) := by decide +kernel
theorem dL_tryHatch_13 : decode cL_tryHatch 13 = .ok (.astore 4, 2) := by decide +kernel
theorem dL_tryHatch_15 : decode cL_tryHatch 15 = .ok (.ldc 25, 2) := by decide +kernel
theorem dL_tryHatch_17 : decode cL_tryHatch 17 = .ok (.ireturn, 1) := by decide +kernel
theorem dL_tryHatch_18 : decode cL_tryHatch 18 = .ok (.astore 4, 2) := by decide +kernel
theorem dL_tryHatch_20 : decode cL_tryHatch 20 = .ok (.ldc 18, 2) := by decide +kernel
theorem dL_tryHatch_22 : decode cL_tryHatch 22 = .ok (.ireturn, 1) := by decide +kernel
set_option maxRecDepth 20000 in
theorem ggL_tryTicks_X3_ticks : GoodIn wsL_tryTicks wsX3_ticks := goodIn_ca (goodIn_r _ [7, 8, 9, 10, 11, 12, 6, 13, 14, 15, 16, 17, 18, 19, 20, 21, 22, 23, 24, 25, 26, 27, 28, 29, 30, 31, 32, 33, 34, 35, 36, 37, 38, 39, 40, 41, 42, 43, 44, 45, 46, 47, 48, 49, 50, 51, 52, 53, 54, 55, 56, 57, 58, 59, 60, 61, 62, 63, 64, 65, 66, 67, 68, 69, 70, 71, 72, 73, 74, 75, 76, 77, 78, 79, 80, 81, 82, 83, 84, 85, 86, 87, 88, 89, 90, 91, 92, 93, 94, 95, 96, 97, 98, 99, 100, 101, 102, 103, 104, 105, 106] (by decide +kernel) (by decide +kernel)) (goodIn_sub (fun _ h => List.mem_cons_of_mem _ (List.mem_append_right _ h)) (by decide +kernel))
set_option maxRecDepth 20000 in
theorem gL_tryTicks_X3_ticks : GoodIn wsL_tryTicks (wsV RL 64 RX3 yX3_ticks wsX3_ticks) := goodIn_app (goodIn_of _ (by decide +kernel)) ggL_tryTicks_X3_ticks
theorem dL_tryTicks_0 : decode cL_tryTicks 0 = .ok (.aload_n 0, 1) := by decide +kernel
theorem dL_tryTicks_1 : decode cL_tryTicks 1 = .ok (.iload_n 1, 1) := by decide +kernel
theorem dL_tryTicks_2 : decode cL_tryTicks 2 = .ok (.invokevirtual 64, 3) := by decide +kernel
theorem dL_tryTicks_5 : decode cL_tryTicks 5 = .ok (.ireturn, 1) := by decide +kernel
theorem dL_tryTicks_6 : decode cL_tryTicks 6 = .ok (.astore_n 2, 1) := by decide +kernel
theorem dL_tryTicks_7 : decode cL_tryTicks 7 = .ok (.ldc 25, 2) := by decide +kernel
theorem dL_tryTicks_9 : decode cL_tryTicks 9 = .ok (.ireturn, 1) := by decide +kernel
set_option maxRecDepth 20000 in
theorem ggL_tryRule_X3_rule : GoodIn wsL_tryRule wsX3_rule := goodIn_ca (goodIn_r _ [7, 8, 9, 10, 11, 12, 6, 13, 14, 15, 16, 17, 18, 19, 20, 21, 22, 23, 24, 25, 26, 27, 28, 29, 30, 31, 32, 33, 34, 35, 36, 37, 38, 39, 40, 41, 42, 43, 44, 45, 46, 47, 48, 49, 50, 51, 52] (by decide +kernel) (by decide +kernel)) (goodIn_sub (fun _ h => List.mem_cons_of_mem _ (List.mem_append_right _ h)) (by decide +kernel))
set_option maxRecDepth 20000 in
theorem gL_tryRule_X3_rule : GoodIn wsL_tryRule (wsV RL 67 RX3 yX3_rule wsX3_rule) := goodIn_app (goodIn_of _ (by decide +kernel)) ggL_tryRule_X3_rule
theorem dL_tryRule_0 : decode cL_tryRule 0 = .ok (.aload_n 0, 1) := by decide +kernel
theorem dL_tryRule_1 : decode cL_tryRule 1 = .ok (.iload_n 1, 1) := by decide +kernel
theorem dL_tryRule_2 : decode cL_tryRule 2 = .ok (.invokevirtual 67, 3) := by decide +kernel
theorem dL_tryRule_5 : decode cL_tryRule 5 = .ok (.ireturn, 1) := by decide +kernel
theorem dL_tryRule_6 : decode cL_tryRule 6 = .ok (.astore_n 2, 1) := by decide +kernel
theorem dL_tryRule_7 : decode cL_tryRule 7 = .ok (.ldc 25, 2) := by decide +kernel
theorem dL_tryRule_9 : decode cL_tryRule 9 = .ok (.ireturn, 1) := by decide +kernel
set_option maxRecDepth 20000 in
theorem ggL_tryPull_X3_pull : GoodIn wsL_tryPull wsX3_pull := goodIn_ca (goodIn_ca (goodIn_r _ [9, 10, 11, 12, 13, 14, 15, 16, 17, 18, 19, 20, 21, 22, 23, 24, 25, 26, 27, 28, 29, 30, 31, 32, 33, 34, 35, 8, 36, 37, 38, 39, 40, 41, 42, 43, 44, 45, 46, 47, 48, 49, 50, 51, 52, 53, 54, 55, 56, 57, 58, 59, 60, 61, 62, 63, 64, 65, 66, 67, 68, 69, 70, 71, 72, 73, 74, 75, 76, 77, 78, 79, 80, 81] (by decide +kernel) (by decide +kernel)) (goodIn_sub (fun _ h => List.mem_cons_of_mem _ (List.mem_append_left _ (List.mem_append_right _ h))) (by decide +kernel))) (goodIn_sub (fun _ h => List.mem_cons_of_mem _ (List.mem_append_right _ h)) (by decide +kernel))
set_option maxRecDepth 20000 in
theorem gL_tryPull_X3_pull : GoodIn wsL_tryPull (wsV RL 70 RX3 yX3_pull wsX3_pull) := goodIn_app (goodIn_of _ (by decide +kernel)) ggL_tryPull_X3_pull
theorem dL_tryPull_0 : decode cL_tryPull 0 = .ok (.aload_n 0, 1) := by decide +kernel
theorem dL_tryPull_1 : decode cL_tryPull 1 = .ok (.iload_n 1, 1) := by decide +kernel
theorem dL_tryPull_2 : decode cL_tryPull 2 = .ok (.invokevirtual 70, 3) := by decide +kernel
theorem dL_tryPull_5 : decode cL_tryPull 5 = .ok (.ireturn, 1) := by decide +kernel
theorem dL_tryPull_6 : decode cL_tryPull 6 = .ok (.astore_n 2, 1) := by decide +kernel
theorem dL_tryPull_7 : decode cL_tryPull 7 = .ok (.ldc 15, 2) := by decide +kernel
theorem dL_tryPull_9 : decode cL_tryPull 9 = .ok (.ireturn, 1) := by decide +kernel
theorem dL_tryPull_10 : decode cL_tryPull 10 = .ok (.astore_n 2, 1) := by decide +kernel
theorem dL_tryPull_11 : decode cL_tryPull 11 = .ok (.ldc 18, 2) := by decide +kernel
theorem dL_tryPull_13 : decode cL_tryPull 13 = .ok (.ireturn, 1) := by decide +kernel
set_option maxRecDepth 20000 in
theorem ggL_tryUndo_X3_undo : GoodIn wsL_tryUndo wsX3_undo := goodIn_ca (goodIn_r _ [7, 8, 9, 10, 11, 12, 13, 14, 15, 16, 17, 18, 19, 20, 21, 22, 23, 24, 25, 26, 27, 28, 29, 30, 31, 32, 33, 34, 35, 36, 37] (by decide +kernel) (by decide +kernel)) (goodIn_sub (fun _ h => List.mem_cons_of_mem _ (List.mem_append_right _ h)) (by decide +kernel))
set_option maxRecDepth 20000 in
theorem gL_tryUndo_X3_undo : GoodIn wsL_tryUndo (wsV RL 73 RX3 yX3_undo wsX3_undo) := goodIn_app (goodIn_of _ (by decide +kernel)) ggL_tryUndo_X3_undo
theorem dL_tryUndo_0 : decode cL_tryUndo 0 = .ok (.aload_n 0, 1) := by decide +kernel
theorem dL_tryUndo_1 : decode cL_tryUndo 1 = .ok (.invokevirtual 73, 3) := by decide +kernel
theorem dL_tryUndo_4 : decode cL_tryUndo 4 = .ok (.ireturn, 1) := by decide +kernel
theorem dL_tryUndo_5 : decode cL_tryUndo 5 = .ok (.astore_n 1, 1) := by decide +kernel
theorem dL_tryUndo_6 : decode cL_tryUndo 6 = .ok (.ldc 18, 2) := by decide +kernel
theorem dL_tryUndo_8 : decode cL_tryUndo 8 = .ok (.ireturn, 1) := by decide +kernel
set_option maxRecDepth 20000 in
theorem ggL_tryGone_X3_goneIn : GoodIn wsL_tryGone wsX3_goneIn := goodIn_ca (goodIn_r _ [7, 8, 9, 10, 11, 12, 13, 14, 15, 16, 17, 18, 19, 6, 20, 21, 22, 23, 24, 25, 26, 27, 28, 29, 30, 31, 32, 33, 34, 35, 36, 37, 38, 39, 40, 41, 42, 43, 44, 45, 46, 47, 48, 49, 50, 51, 52, 53, 54, 55, 56, 57, 58, 59, 60, 61, 62, 63, 64, 65, 66, 67, 68, 69, 70, 71, 72, 73, 74, 75, 76, 77, 78, 79, 80, 81, 82, 83, 84, 85, 86, 87, 88, 89, 90, 91, 92, 93, 94, 95, 96, 97, 98, 99, 100, 101, 102, 103, 104, 105, 106, 107, 108, 109, 110, 111, 112, 113] (by decide +kernel) (by decide +kernel)) (goodIn_sub (fun _ h => List.mem_cons_of_mem _ (List.mem_append_right _ h)) (by decide +kernel))
set_option maxRecDepth 20000 in
theorem gL_tryGone_X3_goneIn : GoodIn wsL_tryGone (wsV RL 76 RX3 yX3_goneIn wsX3_goneIn) := goodIn_app (goodIn_of _ (by decide +kernel)) ggL_tryGone_X3_goneIn
theorem dL_tryGone_0 : decode cL_tryGone 0 = .ok (.aload_n 0, 1) := by decide +kernel
theorem dL_tryGone_1 : decode cL_tryGone 1 = .ok (.iload_n 1, 1) := by decide +kernel
theorem dL_tryGone_2 : decode cL_tryGone 2 = .ok (.invokevirtual 76, 3) := by decide +kernel
theorem dL_tryGone_5 : decode cL_tryGone 5 = .ok (.ireturn, 1) := by decide +kernel
theorem dL_tryGone_6 : decode cL_tryGone 6 = .ok (.astore_n 2, 1) := by decide +kernel
theorem dL_tryGone_7 : decode cL_tryGone 7 = .ok (.ldc 15, 2) := by decide +kernel
theorem dL_tryGone_9 : decode cL_tryGone 9 = .ok (.ireturn, 1) := by decide +kernel
set_option maxRecDepth 20000 in
theorem ggL_tryIf_X3_ifHatched : GoodIn wsL_tryIf wsX3_ifHatched := goodIn_ca (goodIn_ca (goodIn_r _ [9, 10, 11, 12, 13, 14, 15, 16, 17, 8, 18, 19, 20, 21, 22, 23, 24, 25, 26, 27, 28, 29, 30, 31, 32, 33, 34, 35, 36, 37, 38, 39, 40, 41, 42, 43, 44, 45, 46, 47, 48, 49, 50, 51, 52, 53, 54, 55, 56, 57, 58, 59, 60, 61, 62, 63, 64, 65, 66, 67, 68, 69, 70, 71, 72, 73, 74, 75, 76, 77, 78, 79, 80, 81, 82, 83, 84, 85, 86, 87, 88, 89, 90, 91, 92, 93, 94, 95, 96, 97, 98, 99, 100, 101, 102, 103, 104, 105, 106, 107, 108, 109, 110, 111, 112, 113, 114, 115, 116, 117, 118, 119, 120, 121, 122, 123, 124, 125, 126, 127, 128, 129, 130, 131, 132, 133] (by decide +kernel) (by decide +kernel)) (goodIn_sub (fun _ h => List.mem_cons_of_mem _ (List.mem_append_left _ (List.mem_append_right _ h))) (by decide +kernel))) (goodIn_sub (fun _ h => List.mem_cons_of_mem _ (List.mem_append_right _ h)) (by decide +kernel))
set_option maxRecDepth 20000 in
theorem gL_tryIf_X3_ifHatched : GoodIn wsL_tryIf (wsV RL 79 RX3 yX3_ifHatched wsX3_ifHatched) := goodIn_app (goodIn_of _ (by decide +kernel)) ggL_tryIf_X3_ifHatched
theorem dL_tryIf_0 : decode cL_tryIf 0 = .ok (.aload_n 0, 1) := by decide +kernel
theorem dL_tryIf_1 : decode cL_tryIf 1 = .ok (.iload_n 1, 1) := by decide +kernel
theorem dL_tryIf_2 : decode cL_tryIf 2 = .ok (.iload_n 2, 1) := by decide +kernel
theorem dL_tryIf_3 : decode cL_tryIf 3 = .ok (.iload_n 3, 1) := by decide +kernel
theorem dL_tryIf_4 : decode cL_tryIf 4 = .ok (.invokevirtual 79, 3) := by decide +kernel
theorem dL_tryIf_7 : decode cL_tryIf 7 = .ok (.ireturn, 1) := by decide +kernel
theorem dL_tryIf_8 : decode cL_tryIf 8 = .ok (.astore 4, 2) := by decide +kernel
theorem dL_tryIf_10 : decode cL_tryIf 10 = .ok (.ldc 15, 2) := by decide +kernel
theorem dL_tryIf_12 : decode cL_tryIf 12 = .ok (.ireturn, 1) := by decide +kernel
theorem dL_tryIf_13 : decode cL_tryIf 13 = .ok (.astore 4, 2) := by decide +kernel
theorem dL_tryIf_15 : decode cL_tryIf 15 = .ok (.ldc 25, 2) := by decide +kernel
theorem dL_tryIf_17 : decode cL_tryIf 17 = .ok (.ireturn, 1) := by decide +kernel
set_option maxRecDepth 20000 in
theorem ggL_tryKeep_X3_save : GoodIn wsL_tryKeep wsX3_save := goodIn_ca (goodIn_r _ [7, 8, 9, 10, 11, 12, 13, 14, 15, 16, 17, 18, 19, 20, 21, 22, 23, 24, 25, 26, 27, 28, 29, 30, 31, 32, 33, 34, 35, 36, 37, 38, 39, 40] (by decide +kernel) (by decide +kernel)) (goodIn_sub (fun _ h => List.mem_cons_of_mem _ (List.mem_append_right _ h)) (by decide +kernel))
set_option maxRecDepth 20000 in
theorem gL_tryKeep_X3_save : GoodIn wsL_tryKeep (wsV RL 82 RX3 yX3_save wsX3_save) := goodIn_app (goodIn_of _ (by decide +kernel)) ggL_tryKeep_X3_save
theorem dL_tryKeep_0 : decode cL_tryKeep 0 = .ok (.aload_n 0, 1) := by decide +kernel
theorem dL_tryKeep_1 : decode cL_tryKeep 1 = .ok (.iload_n 1, 1) := by decide +kernel
theorem dL_tryKeep_2 : decode cL_tryKeep 2 = .ok (.invokevirtual 82, 3) := by decide +kernel
theorem dL_tryKeep_5 : decode cL_tryKeep 5 = .ok (.ireturn, 1) := by decide +kernel
theorem dL_tryKeep_6 : decode cL_tryKeep 6 = .ok (.astore_n 2, 1) := by decide +kernel
theorem dL_tryKeep_7 : decode cL_tryKeep 7 = .ok (.ldc 15, 2) := by decide +kernel
theorem dL_tryKeep_9 : decode cL_tryKeep 9 = .ok (.ireturn, 1) := by decide +kernel
set_option maxRecDepth 20000 in
theorem ggL_tryBack_X3_restore : GoodIn wsL_tryBack wsX3_restore := goodIn_ca (goodIn_ca (goodIn_r _ [9, 10, 11, 12, 13, 14, 15, 16, 17, 18, 19, 20, 21, 22, 23, 24, 25, 26, 27, 28, 29, 30, 31, 32, 33, 8, 34, 35, 36, 37, 38, 39, 40, 41, 42, 43, 44, 45, 46, 47, 48, 49] (by decide +kernel) (by decide +kernel)) (goodIn_sub (fun _ h => List.mem_cons_of_mem _ (List.mem_append_left _ (List.mem_append_right _ h))) (by decide +kernel))) (goodIn_sub (fun _ h => List.mem_cons_of_mem _ (List.mem_append_right _ h)) (by decide +kernel))
set_option maxRecDepth 20000 in
theorem gL_tryBack_X3_restore : GoodIn wsL_tryBack (wsV RL 85 RX3 yX3_restore wsX3_restore) := goodIn_app (goodIn_of _ (by decide +kernel)) ggL_tryBack_X3_restore
theorem dL_tryBack_0 : decode cL_tryBack 0 = .ok (.aload_n 0, 1) := by decide +kernel
theorem dL_tryBack_1 : decode cL_tryBack 1 = .ok (.iload_n 1, 1) := by decide +kernel
theorem dL_tryBack_2 : decode cL_tryBack 2 = .ok (.invokevirtual 85, 3) := by decide +kernel
theorem dL_tryBack_5 : decode cL_tryBack 5 = .ok (.ireturn, 1) := by decide +kernel
theorem dL_tryBack_6 : decode cL_tryBack 6 = .ok (.astore_n 2, 1) := by decide +kernel
theorem dL_tryBack_7 : decode cL_tryBack 7 = .ok (.ldc 15, 2) := by decide +kernel
theorem dL_tryBack_9 : decode cL_tryBack 9 = .ok (.ireturn, 1) := by decide +kernel
theorem dL_tryBack_10 : decode cL_tryBack 10 = .ok (.astore_n 2, 1) := by decide +kernel
theorem dL_tryBack_11 : decode cL_tryBack 11 = .ok (.ldc 18, 2) := by decide +kernel
theorem dL_tryBack_13 : decode cL_tryBack 13 = .ok (.ireturn, 1) := by decide +kernel
set_option maxRecDepth 20000 in
theorem ggL_call_L_tryAppend : GoodIn wsL_call wsL_tryAppend := goodIn_ca (goodIn_ca (goodIn_r _ [4, 5, 6, 7, 8, 9, 10, 11, 12, 13, 14, 15, 16, 17, 18, 19, 20, 21, 22, 23, 24, 25, 26, 27, 28, 29, 30, 31, 32, 33, 462, 463, 464, 465, 466, 467, 468, 469, 470, 471] (by decide +kernel) (by decide +kernel)) (goodIn_sub (fun _ h => List.mem_cons_of_mem _ (List.mem_append_left _ (List.mem_append_left _ (List.mem_append_right _ h)))) (by decide +kernel))) (goodIn_sub (fun _ h => List.mem_cons_of_mem _ (List.mem_append_left _ (List.mem_append_right _ h))) (by decide +kernel))
set_option maxRecDepth 20000 in
theorem gL_call_L_tryAppend : GoodIn wsL_call (va_wsS RL 88 yL_tryAppend wsL_tryAppend) := goodIn_app (goodIn_of _ (by decide +kernel)) ggL_call_L_tryAppend
set_option maxRecDepth 20000 in
theorem ggL_call_L_tryAbout : GoodIn wsL_call wsL_tryAbout := goodIn_ca (goodIn_r _ [242, 5, 7, 243, 244, 245, 12, 246, 14, 15, 41, 247, 248, 249, 115, 250, 117, 251, 252, 253, 254, 176, 177, 178, 179, 180, 181, 182, 183, 255, 256, 257, 258, 259, 260, 261, 262, 222, 223, 224, 225, 226, 227, 228, 229, 154, 155, 263, 264, 265, 266, 267, 268, 269, 270, 271, 272, 273, 274, 275, 276, 277, 278, 462, 463, 464, 465, 466, 467, 468, 469, 472] (by decide +kernel) (by decide +kernel)) (goodIn_sub (fun _ h => List.mem_cons_of_mem _ (List.mem_append_left _ (List.mem_append_left _ (List.mem_append_right _ h)))) (by decide +kernel))
set_option maxRecDepth 20000 in
theorem gL_call_L_tryAbout : GoodIn wsL_call (va_wsS RL 98 yL_tryAbout wsL_tryAbout) := goodIn_app (goodIn_of _ (by decide +kernel)) ggL_call_L_tryAbout
set_option maxRecDepth 20000 in
theorem ggL_call_L_tryCat : GoodIn wsL_call wsL_tryCat := goodIn_ca (goodIn_ca (goodIn_r _ [281, 282, 5, 283, 7, 284, 285, 286, 12, 287, 288, 289, 14, 15, 41, 290, 291, 292, 115, 293, 117, 294, 181, 182, 183, 462, 463, 464, 465, 466, 467, 468, 469, 472] (by decide +kernel) (by decide +kernel)) (goodIn_sub (fun _ h => List.mem_cons_of_mem _ (List.mem_append_right _ h)) (by decide +kernel))) (goodIn_sub (fun _ h => List.mem_cons_of_mem _ (List.mem_append_left _ (List.mem_append_left _ (List.mem_append_right _ h)))) (by decide +kernel))
set_option maxRecDepth 20000 in
theorem gL_call_L_tryCat : GoodIn wsL_call (va_wsS RL 101 yL_tryCat wsL_tryCat) := goodIn_app (goodIn_of _ (by decide +kernel)) ggL_call_L_tryCat
set_option maxRecDepth 20000 in
theorem ggL_call_L_tryLies : GoodIn wsL_call wsL_tryLies := goodIn_ca (goodIn_r _ [297, 282, 283, 298, 299, 300, 12, 301, 288, 289, 41, 290, 291, 292, 115, 293, 117, 294, 181, 182, 183, 462, 463, 464, 465, 466, 467, 468, 469, 472] (by decide +kernel) (by decide +kernel)) (goodIn_sub (fun _ h => List.mem_cons_of_mem _ (List.mem_append_right _ h)) (by decide +kernel))
set_option maxRecDepth 20000 in
theorem gL_call_L_tryLies : GoodIn wsL_call (va_wsS RL 105 yL_tryLies wsL_tryLies) := goodIn_app (goodIn_of _ (by decide +kernel)) ggL_call_L_tryLies
set_option maxRecDepth 20000 in
theorem ggL_call_L_tryRoom : GoodIn wsL_call wsL_tryRoom := goodIn_ca (goodIn_ca (goodIn_r _ [304, 282, 5, 283, 7, 305, 306, 307, 12, 308, 288, 289, 14, 15, 41, 309, 154, 155, 310, 227, 228, 115, 229, 117, 311, 268, 269, 270, 462, 463, 464, 465, 466, 467, 468, 469, 472] (by decide +kernel) (by decide +kernel)) (goodIn_sub (fun _ h => List.mem_cons_of_mem _ (List.mem_append_right _ h)) (by decide +kernel))) (goodIn_sub (fun _ h => List.mem_cons_of_mem _ (List.mem_append_left _ (List.mem_append_left _ (List.mem_append_right _ h)))) (by decide +kernel))
set_option maxRecDepth 20000 in
theorem gL_call_L_tryRoom : GoodIn wsL_call (va_wsS RL 108 yL_tryRoom wsL_tryRoom) := goodIn_app (goodIn_of _ (by decide +kernel)) ggL_call_L_tryRoom
set_option maxRecDepth 20000 in
theorem ggL_call_L_tryNext : GoodIn wsL_call wsL_tryNext := goodIn_ca (goodIn_r _ [314, 282, 283, 315, 316, 317, 12, 318, 288, 289, 41, 290, 291, 292, 115, 293, 117, 319, 189, 190, 191, 180, 181, 182, 183, 192, 193, 194, 195, 196, 197, 198, 199, 200, 201, 462, 463, 464, 465, 466, 467, 468, 469, 472] (by decide +kernel) (by decide +kernel)) (goodIn_sub (fun _ h => List.mem_cons_of_mem _ (List.mem_append_right _ h)) (by decide +kernel))
set_option maxRecDepth 20000 in
theorem gL_call_L_tryNext : GoodIn wsL_call (va_wsS RL 111 yL_tryNext wsL_tryNext) := goodIn_app (goodIn_of _ (by decide +kernel)) ggL_call_L_tryNext
set_option maxRecDepth 20000 in
theorem ggL_call_L_tryWaits : GoodIn wsL_call wsL_tryWaits := goodIn_ca (goodIn_r _ [322, 282, 283, 323, 324, 325, 12, 326, 288, 289, 41, 290, 291, 292, 115, 293, 117, 327, 328, 329, 330, 188, 189, 190, 191, 180, 181, 182, 183, 192, 193, 194, 195, 196, 197, 198, 199, 200, 201, 226, 227, 228, 229, 154, 155, 462, 463, 464, 465, 466, 467, 468, 469, 472] (by decide +kernel) (by decide +kernel)) (goodIn_sub (fun _ h => List.mem_cons_of_mem _ (List.mem_append_right _ h)) (by decide +kernel))
set_option maxRecDepth 20000 in
theorem gL_call_L_tryWaits : GoodIn wsL_call (va_wsS RL 114 yL_tryWaits wsL_tryWaits) := goodIn_app (goodIn_of _ (by decide +kernel)) ggL_call_L_tryWaits
set_option maxRecDepth 20000 in
theorem ggL_call_L_tryRing : GoodIn wsL_call wsL_tryRing := goodIn_ca (goodIn_r _ [333, 5, 7, 334, 335, 336, 12, 337, 14, 15, 41, 338, 339, 340, 115, 341, 342, 343, 344, 345, 346, 328, 329, 330, 188, 189, 190, 191, 117, 180, 181, 182, 183, 192, 193, 194, 195, 196, 197, 198, 199, 200, 201, 226, 227, 228, 229, 154, 155, 347, 462, 463, 464, 465, 466, 467, 468, 469, 472] (by decide +kernel) (by decide +kernel)) (goodIn_sub (fun _ h => List.mem_cons_of_mem _ (List.mem_append_left _ (List.mem_append_left _ (List.mem_append_right _ h)))) (by decide +kernel))
set_option maxRecDepth 20000 in
theorem gL_call_L_tryRing : GoodIn wsL_call (va_wsS RL 117 yL_tryRing wsL_tryRing) := goodIn_app (goodIn_of _ (by decide +kernel)) ggL_call_L_tryRing
set_option maxRecDepth 20000 in
theorem ggL_call_L_tryHatch : GoodIn wsL_call wsL_tryHatch := goodIn_ca (goodIn_ca (goodIn_ca (goodIn_r _ [350, 282, 5, 6, 283, 7, 8, 351, 352, 353, 12, 354, 288, 289, 14, 15, 16, 17, 41, 309, 154, 155, 355, 156, 157, 356, 151, 152, 115, 153, 117, 357, 358, 359, 360, 361, 362, 122, 363, 364, 365, 366, 367, 368, 369, 370, 371, 372, 373, 374, 146, 147, 148, 149, 150, 158, 159, 160, 161, 247, 248, 249, 250, 462, 463, 464, 465, 466, 467, 468, 469, 472, 473] (by decide +kernel) (by decide +kernel)) (goodIn_sub (fun _ h => List.mem_cons_of_mem _ (List.mem_append_right _ h)) (by decide +kernel))) (goodIn_sub (fun _ h => List.mem_cons_of_mem _ (List.mem_append_left _ (List.mem_append_left _ (List.mem_append_right _ h)))) (by decide +kernel))) (goodIn_sub (fun _ h => List.mem_cons_of_mem _ (List.mem_append_left _ (List.mem_append_right _ h))) (by decide +kernel))
set_option maxRecDepth 20000 in
theorem gL_call_L_tryHatch : GoodIn wsL_call (va_wsS RL 120 yL_tryHatch wsL_tryHatch) := goodIn_app (goodIn_of _ (by decide +kernel)) ggL_call_L_tryHatch
set_option maxRecDepth 20000 in
theorem ggL_call_L_tryTicks : GoodIn wsL_call wsL_tryTicks := goodIn_ca (goodIn_r _ [377, 5, 7, 378, 379, 380, 12, 381, 14, 15, 41, 382, 166, 167, 357, 358, 359, 360, 361, 362, 122, 363, 364, 365, 115, 366, 117, 367, 368, 369, 370, 371, 372, 373, 374, 251, 252, 253, 254, 176, 177, 178, 179, 180, 181, 182, 183, 162, 163, 164, 165, 168, 169, 170, 171, 172, 173, 174, 175, 184, 185, 186, 187, 188, 189, 190, 191, 192, 193, 194, 195, 196, 197, 198, 199, 200, 201, 158, 159, 160, 161, 202, 203, 204, 205, 206, 207, 208, 209, 210, 211, 212, 213, 214, 215, 216, 217, 462, 463, 464, 465, 466, 467, 468, 469, 472, 473] (by decide +kernel) (by decide +kernel)) (goodIn_sub (fun _ h => List.mem_cons_of_mem _ (List.mem_append_left _ (List.mem_append_left _ (List.mem_append_right _ h)))) (by decide +kernel))
set_option maxRecDepth 20000 in
theorem gL_call_L_tryTicks : GoodIn wsL_call (va_wsS RL 124 yL_tryTicks wsL_tryTicks) := goodIn_app (goodIn_of _ (by decide +kernel)) ggL_call_L_tryTicks
set_option maxRecDepth 20000 in
theorem ggL_call_L_tryRule : GoodIn wsL_call wsL_tryRule := goodIn_ca (goodIn_r _ [385, 5, 7, 386, 387, 388, 12, 389, 14, 15, 41, 390, 234, 235, 357, 358, 359, 360, 361, 362, 122, 363, 364, 365, 115, 366, 117, 367, 368, 369, 370, 371, 372, 373, 374, 271, 272, 273, 274, 230, 231, 232, 233, 462, 463, 464, 465, 466, 467, 468, 469, 472, 473] (by decide +kernel) (by decide +kernel)) (goodIn_sub (fun _ h => List.mem_cons_of_mem _ (List.mem_append_left _ (List.mem_append_left _ (List.mem_append_right _ h)))) (by decide +kernel))
set_option maxRecDepth 20000 in
theorem gL_call_L_tryRule : GoodIn wsL_call (va_wsS RL 127 yL_tryRule wsL_tryRule) := goodIn_app (goodIn_of _ (by decide +kernel)) ggL_call_L_tryRule
set_option maxRecDepth 20000 in
theorem ggL_call_L_tryPull : GoodIn wsL_call wsL_tryPull := goodIn_ca (goodIn_ca (goodIn_r _ [393, 282, 6, 283, 8, 394, 395, 396, 12, 397, 288, 289, 16, 17, 41, 290, 291, 292, 115, 293, 117, 398, 173, 174, 175, 176, 177, 178, 179, 180, 181, 182, 183, 357, 358, 359, 360, 361, 362, 122, 363, 364, 365, 366, 367, 368, 369, 370, 371, 372, 373, 374, 294, 236, 237, 238, 239, 172, 226, 227, 228, 229, 154, 155, 206, 207, 208, 209, 158, 159, 160, 161, 462, 463, 464, 465, 466, 467, 468, 469, 472, 473] (by decide +kernel) (by decide +kernel)) (goodIn_sub (fun _ h => List.mem_cons_of_mem _ (List.mem_append_right _ h)) (by decide +kernel))) (goodIn_sub (fun _ h => List.mem_cons_of_mem _ (List.mem_append_left _ (List.mem_append_right _ h))) (by decide +kernel))
set_option maxRecDepth 20000 in
theorem gL_call_L_tryPull : GoodIn wsL_call (va_wsS RL 130 yL_tryPull wsL_tryPull) := goodIn_app (goodIn_of _ (by decide +kernel)) ggL_call_L_tryPull
set_option maxRecDepth 20000 in
theorem ggL_call_L_tryUndo : GoodIn wsL_call wsL_tryUndo := goodIn_ca (goodIn_r _ [401, 6, 8, 402, 403, 404, 12, 405, 16, 17, 122, 41, 362, 361, 406, 407, 408, 115, 409, 117, 367, 368, 369, 370, 371, 372, 373, 374, 462, 463, 464, 465, 466, 467, 468, 469, 473, 472] (by decide +kernel) (by decide +kernel)) (goodIn_sub (fun _ h => List.mem_cons_of_mem _ (List.mem_append_left _ (List.mem_append_right _ h))) (by decide +kernel))
set_option maxRecDepth 20000 in
theorem gL_call_L_tryUndo : GoodIn wsL_call (va_wsS RL 133 yL_tryUndo wsL_tryUndo) := goodIn_app (goodIn_of _ (by decide +kernel)) ggL_call_L_tryUndo
set_option maxRecDepth 20000 in
theorem ggL_call_L_tryGone : GoodIn wsL_call wsL_tryGone := goodIn_ca (goodIn_r _ [412, 282, 283, 413, 414, 415, 12, 416, 288, 289, 41, 290, 291, 292, 115, 293, 117, 417, 418, 419, 420, 421, 422, 423, 424, 425, 426, 427, 428, 429, 430, 431, 432, 433, 367, 368, 369, 370, 434, 435, 436, 437, 438, 252, 253, 254, 176, 177, 178, 179, 180, 181, 182, 183, 439, 169, 170, 171, 172, 173, 174, 175, 184, 185, 186, 187, 188, 189, 190, 191, 192, 193, 194, 195, 196, 197, 198, 199, 200, 201, 158, 159, 160, 161, 202, 203, 204, 205, 206, 207, 208, 209, 210, 211, 212, 213, 214, 215, 216, 217, 294, 255, 256, 257, 258, 462, 463, 464, 465, 466, 467, 468, 469, 472] (by decide +kernel) (by decide +kernel)) (goodIn_sub (fun _ h => List.mem_cons_of_mem _ (List.mem_append_right _ h)) (by decide +kernel))
set_option maxRecDepth 20000 in
theorem gL_call_L_tryGone : GoodIn wsL_call (va_wsS RL 136 yL_tryGone wsL_tryGone) := goodIn_app (goodIn_of _ (by decide +kernel)) ggL_call_L_tryGone
set_option maxRecDepth 20000 in
theorem ggL_call_L_tryIf : GoodIn wsL_call wsL_tryIf := goodIn_ca (goodIn_ca (goodIn_r _ [442, 282, 5, 283, 7, 443, 444, 445, 12, 446, 288, 289, 14, 15, 41, 447, 309, 154, 155, 355, 156, 157, 356, 151, 152, 115, 153, 117, 430, 431, 432, 433, 367, 368, 369, 370, 146, 147, 148, 149, 150, 158, 159, 160, 161, 247, 248, 249, 250, 417, 418, 419, 420, 421, 422, 423, 424, 425, 426, 427, 428, 429, 434, 435, 436, 437, 438, 252, 253, 254, 176, 177, 178, 179, 180, 181, 182, 183, 439, 169, 170, 171, 172, 173, 174, 175, 184, 185, 186, 187, 188, 189, 190, 191, 192, 193, 194, 195, 196, 197, 198, 199, 200, 201, 202, 203, 204, 205, 206, 207, 208, 209, 210, 211, 212, 213, 214, 215, 216, 217, 294, 255, 256, 257, 258, 462, 463, 464, 465, 466, 467, 468, 469, 472] (by decide +kernel) (by decide +kernel)) (goodIn_sub (fun _ h => List.mem_cons_of_mem _ (List.mem_append_right _ h)) (by decide +kernel))) (goodIn_sub (fun _ h => List.mem_cons_of_mem _ (List.mem_append_left _ (List.mem_append_left _ (List.mem_append_right _ h)))) (by decide +kernel))
set_option maxRecDepth 20000 in
theorem gL_call_L_tryIf : GoodIn wsL_call (va_wsS RL 139 yL_tryIf wsL_tryIf) := goodIn_app (goodIn_of _ (by decide +kernel)) ggL_call_L_tryIf
set_option maxRecDepth 20000 in
theorem ggL_call_L_tryKeep : GoodIn wsL_call wsL_tryKeep := goodIn_ca (goodIn_r _ [450, 282, 283, 451, 452, 453, 12, 454, 288, 289, 41, 362, 127, 363, 364, 365, 115, 366, 117, 367, 368, 369, 370, 371, 372, 373, 374, 255, 256, 257, 258, 462, 463, 464, 465, 466, 467, 468, 469, 472, 473] (by decide +kernel) (by decide +kernel)) (goodIn_sub (fun _ h => List.mem_cons_of_mem _ (List.mem_append_right _ h)) (by decide +kernel))
set_option maxRecDepth 20000 in
theorem gL_call_L_tryKeep : GoodIn wsL_call (va_wsS RL 142 yL_tryKeep wsL_tryKeep) := goodIn_app (goodIn_of _ (by decide +kernel)) ggL_call_L_tryKeep
set_option maxRecDepth 20000 in
theorem ggL_call_L_tryBack : GoodIn wsL_call wsL_tryBack := goodIn_ca (goodIn_ca (goodIn_r _ [457, 282, 6, 283, 8, 458, 459, 460, 12, 461, 288, 289, 16, 17, 127, 41, 362, 406, 407, 408, 115, 409, 117, 367, 368, 369, 370, 371, 372, 373, 374, 118, 119, 120, 121, 122, 255, 256, 257, 258, 462, 463, 464, 465, 466, 467, 468, 469, 473, 472] (by decide +kernel) (by decide +kernel)) (goodIn_sub (fun _ h => List.mem_cons_of_mem _ (List.mem_append_right _ h)) (by decide +kernel))) (goodIn_sub (fun _ h => List.mem_cons_of_mem _ (List.mem_append_left _ (List.mem_append_right _ h))) (by decide +kernel))
set_option maxRecDepth 20000 in
theorem gL_call_L_tryBack : GoodIn wsL_call (va_wsS RL 145 yL_tryBack wsL_tryBack) := goodIn_app (goodIn_of _ (by decide +kernel)) ggL_call_L_tryBack
theorem dL_call_0 : decode cL_call 0 = .ok (.iload_n 1, 1) := by decide +kernel
theorem dL_call_1 : decode cL_call 1 = .ok (.tableswitch 192 0 16 #[83, 89, 94, 100, 107, 114, 121, 127, 133, 139, 148, 154, 160, 166, 171, 177, 186], 83) := by decide +kernel
theorem dL_call_84 : decode cL_call 84 = .ok (.aload_n 0, 1) := by decide +kernel
theorem dL_call_85 : decode cL_call 85 = .ok (.iload_n 2, 1) := by decide +kernel
theorem dL_call_86 : decode cL_call 86 = .ok (.invokestatic 88, 3) := by decide +kernel
theorem dL_call_89 : decode cL_call 89 = .ok (.ireturn, 1) := by decide +kernel
theorem dL_call_90 : decode cL_call 90 = .ok (.aload_n 0, 1) := by decide +kernel
theorem dL_call_95 : decode cL_call 95 = .ok (.aload_n 0, 1) := by decide +kernel
theorem dL_call_96 : decode cL_call 96 = .ok (.iload_n 2, 1) := by decide +kernel
theorem dL_call_97 : decode cL_call 97 = .ok (.invokestatic 98, 3) := by decide +kernel
theorem dL_call_100 : decode cL_call 100 = .ok (.ireturn, 1) := by decide +kernel
theorem dL_call_101 : decode cL_call 101 = .ok (.aload_n 0, 1) := by decide +kernel
theorem dL_call_102 : decode cL_call 102 = .ok (.iload_n 2, 1) := by decide +kernel
theorem dL_call_103 : decode cL_call 103 = .ok (.iload_n 3, 1) := by decide +kernel
theorem dL_call_104 : decode cL_call 104 = .ok (.invokestatic 101, 3) := by decide +kernel
theorem dL_call_107 : decode cL_call 107 = .ok (.ireturn, 1) := by decide +kernel
theorem dL_call_108 : decode cL_call 108 = .ok (.aload_n 0, 1) := by decide +kernel
theorem dL_call_109 : decode cL_call 109 = .ok (.iload_n 2, 1) := by decide +kernel
theorem dL_call_110 : decode cL_call 110 = .ok (.iload_n 3, 1) := by decide +kernel
theorem dL_call_111 : decode cL_call 111 = .ok (.invokestatic 105, 3) := by decide +kernel
theorem dL_call_114 : decode cL_call 114 = .ok (.ireturn, 1) := by decide +kernel
theorem dL_call_115 : decode cL_call 115 = .ok (.aload_n 0, 1) := by decide +kernel
theorem dL_call_116 : decode cL_call 116 = .ok (.iload_n 2, 1) := by decide +kernel
theorem dL_call_117 : decode cL_call 117 = .ok (.iload_n 3, 1) := by decide +kernel
theorem dL_call_118 : decode cL_call 118 = .ok (.invokestatic 108, 3) := by decide +kernel
theorem dL_call_121 : decode cL_call 121 = .ok (.ireturn, 1) := by decide +kernel
theorem dL_call_122 : decode cL_call 122 = .ok (.aload_n 0, 1) := by decide +kernel
theorem dL_call_123 : decode cL_call 123 = .ok (.iload_n 2, 1) := by decide +kernel
theorem dL_call_124 : decode cL_call 124 = .ok (.invokestatic 111, 3) := by decide +kernel
theorem dL_call_127 : decode cL_call 127 = .ok (.ireturn, 1) := by decide +kernel
theorem dL_call_128 : decode cL_call 128 = .ok (.aload_n 0, 1) := by decide +kernel
theorem dL_call_129 : decode cL_call 129 = .ok (.iload_n 2, 1) := by decide +kernel
theorem dL_call_130 : decode cL_call 130 = .ok (.invokestatic 114, 3) := by decide +kernel
theorem dL_call_133 : decode cL_call 133 = .ok (.ireturn, 1) := by decide +kernel
theorem dL_call_134 : decode cL_call 134 = .ok (.aload_n 0, 1) := by decide +kernel
theorem dL_call_135 : decode cL_call 135 = .ok (.iload_n 2, 1) := by decide +kernel
theorem dL_call_136 : decode cL_call 136 = .ok (.invokestatic 117, 3) := by decide +kernel
theorem dL_call_139 : decode cL_call 139 = .ok (.ireturn, 1) := by decide +kernel
theorem dL_call_140 : decode cL_call 140 = .ok (.aload_n 0, 1) := by decide +kernel
theorem dL_call_141 : decode cL_call 141 = .ok (.iload_n 2, 1) := by decide +kernel
theorem dL_call_142 : decode cL_call 142 = .ok (.iload_n 3, 1) := by decide +kernel
theorem dL_call_143 : decode cL_call 143 = .ok (.iload 4, 2) := by decide +kernel
theorem dL_call_145 : decode cL_call 145 = .ok (.invokestatic 120, 3) := by decide +kernel
theorem dL_call_148 : decode cL_call 148 = .ok (.ireturn, 1) := by decide +kernel
theorem dL_call_149 : decode cL_call 149 = .ok (.aload_n 0, 1) := by decide +kernel
theorem dL_call_150 : decode cL_call 150 = .ok (.iload_n 2, 1) := by decide +kernel
theorem dL_call_151 : decode cL_call 151 = .ok (.invokestatic 124, 3) := by decide +kernel
theorem dL_call_154 : decode cL_call 154 = .ok (.ireturn, 1) := by decide +kernel
theorem dL_call_155 : decode cL_call 155 = .ok (.aload_n 0, 1) := by decide +kernel
theorem dL_call_156 : decode cL_call 156 = .ok (.iload_n 2, 1) := by decide +kernel
theorem dL_call_157 : decode cL_call 157 = .ok (.invokestatic 127, 3) := by decide +kernel
theorem dL_call_160 : decode cL_call 160 = .ok (.ireturn, 1) := by decide +kernel
theorem dL_call_161 : decode cL_call 161 = .ok (.aload_n 0, 1) := by decide +kernel
theorem dL_call_162 : decode cL_call 162 = .ok (.iload_n 2, 1) := by decide +kernel
theorem dL_call_163 : decode cL_call 163 = .ok (.invokestatic 130, 3) := by decide +kernel
theorem dL_call_166 : decode cL_call 166 = .ok (.ireturn, 1) := by decide +kernel
theorem dL_call_167 : decode cL_call 167 = .ok (.aload_n 0, 1) := by decide +kernel
theorem dL_call_168 : decode cL_call 168 = .ok (.invokestatic 133, 3) := by decide +kernel
theorem dL_call_171 : decode cL_call 171 = .ok (.ireturn, 1) := by decide +kernel
theorem dL_call_172 : decode cL_call 172 = .ok (.aload_n 0, 1) := by decide +kernel
theorem dL_call_173 : decode cL_call 173 = .ok (.iload_n 2, 1) := by decide +kernel
theorem dL_call_174 : decode cL_call 174 = .ok (.invokestatic 136, 3) := by decide +kernel
theorem dL_call_177 : decode cL_call 177 = .ok (.ireturn, 1) := by decide +kernel
theorem dL_call_178 : decode cL_call 178 = .ok (.aload_n 0, 1) := by decide +kernel
theorem dL_call_179 : decode cL_call 179 = .ok (.iload_n 2, 1) := by decide +kernel
theorem dL_call_180 : decode cL_call 180 = .ok (.iload_n 3, 1) := by decide +kernel
theorem dL_call_181 : decode cL_call 181 = .ok (.iload 4, 2) := by decide +kernel
theorem dL_call_183 : decode cL_call 183 = .ok (.invokestatic 139, 3) := by decide +kernel
theorem dL_call_186 : decode cL_call 186 = .ok (.ireturn, 1) := by decide +kernel
theorem dL_call_187 : decode cL_call 187 = .ok (.aload_n 0, 1) := by decide +kernel
theorem dL_call_188 : decode cL_call 188 = .ok (.iload_n 2, 1) := by decide +kernel
theorem dL_call_189 : decode cL_call 189 = .ok (.invokestatic 142, 3) := by decide +kernel
theorem dL_call_192 : decode cL_call 192 = .ok (.ireturn, 1) := by decide +kernel
theorem dL_call_193 : decode cL_call 193 = .ok (.aload_n 0, 1) := by decide +kernel
theorem dL_call_194 : decode cL_call 194 = .ok (.iload_n 2, 1) := by decide +kernel
theorem dL_call_195 : decode cL_call 195 = .ok (.invokestatic 145, 3) := by decide +kernel
theorem dL_call_198 : decode cL_call 198 = .ok (.ireturn, 1) := by decide +kernel
theorem dL_thrown_0 : decode cL_thrown 0 = .ok (.iload_n 0, 1) := by decide +kernel
theorem dL_thrown_1 : decode cL_thrown 1 = .ok (.ldc 15, 2) := by decide +kernel
theorem dL_thrown_3 : decode cL_thrown 3 = .ok (.if_icmp .eq 15, 3) := by decide +kernel
theorem dL_thrown_6 : decode cL_thrown 6 = .ok (.iload_n 0, 1) := by decide +kernel
theorem dL_thrown_7 : decode cL_thrown 7 = .ok (.ldc 25, 2) := by decide +kernel
theorem dL_thrown_9 : decode cL_thrown 9 = .ok (.if_icmp .eq 9, 3) := by decide +kernel
theorem dL_thrown_12 : decode cL_thrown 12 = .ok (.iload_n 0, 1) := by decide +kernel
theorem dL_thrown_13 : decode cL_thrown 13 = .ok (.ldc 18, 2) := by decide +kernel
theorem dL_thrown_15 : decode cL_thrown 15 = .ok (.if_icmp .ne 7, 3) := by decide +kernel
theorem dL_thrown_18 : decode cL_thrown 18 = .ok (.iconst 1, 1) := by decide +kernel
theorem dL_thrown_19 : decode cL_thrown 19 = .ok (.goto 4, 3) := by decide +kernel
theorem dL_thrown_22 : decode cL_thrown 22 = .ok (.iconst 0, 1) := by decide +kernel
theorem dL_thrown_23 : decode cL_thrown 23 = .ok (.ireturn, 1) := by decide +kernel
theorem dL_near_0 : decode cL_near 0 = .ok (.iload_n 0, 1) := by decide +kernel
theorem dL_near_1 : decode cL_near 1 = .ok (.bipush 6, 2) := by decide +kernel
theorem dL_near_3 : decode cL_near 3 = .ok (.irem, 1) := by decide +kernel
theorem dL_near_4 : decode cL_near 4 = .ok (.iload_n 1, 1) := by decide +kernel
theorem dL_near_5 : decode cL_near 5 = .ok (.bipush 6, 2) := by decide +kernel
theorem dL_near_7 : decode cL_near 7 = .ok (.irem, 1) := by decide +kernel
theorem dL_near_8 : decode cL_near 8 = .ok (.if_icmp .ne 19, 3) := by decide +kernel
theorem dL_near_11 : decode cL_near 11 = .ok (.iload_n 0, 1) := by decide +kernel
theorem dL_near_12 : decode cL_near 12 = .ok (.iload_n 1, 1) := by decide +kernel
theorem dL_near_13 : decode cL_near 13 = .ok (.isub, 1) := by decide +kernel
theorem dL_near_14 : decode cL_near 14 = .ok (.bipush 6, 2) := by decide +kernel
theorem dL_near_16 : decode cL_near 16 = .ok (.if_icmp .eq 36, 3) := by decide +kernel
theorem dL_near_19 : decode cL_near 19 = .ok (.iload_n 1, 1) := by decide +kernel
theorem dL_near_20 : decode cL_near 20 = .ok (.iload_n 0, 1) := by decide +kernel
theorem dL_near_21 : decode cL_near 21 = .ok (.isub, 1) := by decide +kernel
theorem dL_near_22 : decode cL_near 22 = .ok (.bipush 6, 2) := by decide +kernel
theorem dL_near_24 : decode cL_near 24 = .ok (.if_icmp .eq 28, 3) := by decide +kernel
theorem dL_near_27 : decode cL_near 27 = .ok (.iload_n 0, 1) := by decide +kernel
theorem dL_near_28 : decode cL_near 28 = .ok (.bipush 6, 2) := by decide +kernel
theorem dL_near_30 : decode cL_near 30 = .ok (.idiv, 1) := by decide +kernel
theorem dL_near_31 : decode cL_near 31 = .ok (.iload_n 1, 1) := by decide +kernel
theorem dL_near_32 : decode cL_near 32 = .ok (.bipush 6, 2) := by decide +kernel
theorem dL_near_34 : decode cL_near 34 = .ok (.idiv, 1) := by decide +kernel
theorem dL_near_35 : decode cL_near 35 = .ok (.if_icmp .ne 21, 3) := by decide +kernel
theorem dL_near_38 : decode cL_near 38 = .ok (.iload_n 0, 1) := by decide +kernel
theorem dL_near_39 : decode cL_near 39 = .ok (.iload_n 1, 1) := by decide +kernel
theorem dL_near_40 : decode cL_near 40 = .ok (.isub, 1) := by decide +kernel
theorem dL_near_41 : decode cL_near 41 = .ok (.iconst 1, 1) := by decide +kernel
theorem dL_near_42 : decode cL_near 42 = .ok (.if_icmp .eq 10, 3) := by decide +kernel
theorem dL_near_45 : decode cL_near 45 = .ok (.iload_n 1, 1) := by decide +kernel
theorem dL_near_46 : decode cL_near 46 = .ok (.iload_n 0, 1) := by decide +kernel
theorem dL_near_47 : decode cL_near 47 = .ok (.isub, 1) := by decide +kernel
theorem dL_near_48 : decode cL_near 48 = .ok (.iconst 1, 1) := by decide +kernel
theorem dL_near_49 : decode cL_near 49 = .ok (.if_icmp .ne 7, 3) := by decide +kernel
theorem dL_near_52 : decode cL_near 52 = .ok (.iconst 1, 1) := by decide +kernel
theorem dL_near_53 : decode cL_near 53 = .ok (.goto 4, 3) := by decide +kernel
theorem dL_near_56 : decode cL_near 56 = .ok (.iconst 0, 1) := by decide +kernel
theorem dL_near_57 : decode cL_near 57 = .ok (.ireturn, 1) := by decide +kernel

theorem dX3_remember_0 : decode cX3_remember 0 = .ok (.aload_n 0, 1) := by decide +kernel
theorem dX3_remember_1 : decode cX3_remember 1 = .ok (.aload_n 0, 1) := by decide +kernel
theorem dX3_remember_2 : decode cX3_remember 2 = .ok (.getfield 30, 3) := by decide +kernel
theorem dX3_remember_5 : decode cX3_remember 5 = .ok (.iconst 1, 1) := by decide +kernel
theorem dX3_remember_6 : decode cX3_remember 6 = .ok (.iadd, 1) := by decide +kernel
theorem dX3_remember_7 : decode cX3_remember 7 = .ok (.bipush 14, 2) := by decide +kernel
theorem dX3_remember_9 : decode cX3_remember 9 = .ok (.irem, 1) := by decide +kernel
theorem dX3_remember_10 : decode cX3_remember 10 = .ok (.putfield 30, 3) := by decide +kernel
theorem dX3_remember_13 : decode cX3_remember 13 = .ok (.aload_n 0, 1) := by decide +kernel
theorem dX3_remember_14 : decode cX3_remember 14 = .ok (.getfield 19, 3) := by decide +kernel
theorem dX3_remember_17 : decode cX3_remember 17 = .ok (.aload_n 0, 1) := by decide +kernel
theorem dX3_remember_18 : decode cX3_remember 18 = .ok (.getfield 26, 3) := by decide +kernel
theorem dX3_remember_21 : decode cX3_remember 21 = .ok (.aload_n 0, 1) := by decide +kernel
theorem dX3_remember_22 : decode cX3_remember 22 = .ok (.getfield 30, 3) := by decide +kernel
theorem dX3_remember_25 : decode cX3_remember 25 = .ok (.invokevirtual 223, 3) := by decide +kernel
theorem dX3_remember_28 : decode cX3_remember 28 = .ok (.aload_n 0, 1) := by decide +kernel
theorem dX3_remember_29 : decode cX3_remember 29 = .ok (.getfield 34, 3) := by decide +kernel
theorem dX3_remember_32 : decode cX3_remember 32 = .ok (.bipush 14, 2) := by decide +kernel
theorem dX3_remember_34 : decode cX3_remember 34 = .ok (.if_icmp .ge 13, 3) := by decide +kernel
theorem dX3_remember_37 : decode cX3_remember 37 = .ok (.aload_n 0, 1) := by decide +kernel
theorem dX3_remember_38 : decode cX3_remember 38 = .ok (.dup, 1) := by decide +kernel
theorem dX3_remember_39 : decode cX3_remember 39 = .ok (.getfield 34, 3) := by decide +kernel
theorem dX3_remember_42 : decode cX3_remember 42 = .ok (.iconst 1, 1) := by decide +kernel
theorem dX3_remember_43 : decode cX3_remember 43 = .ok (.iadd, 1) := by decide +kernel
theorem dX3_remember_44 : decode cX3_remember 44 = .ok (.putfield 34, 3) := by decide +kernel
theorem dX3_remember_47 : decode cX3_remember 47 = .ok (.return_, 1) := by decide +kernel
theorem dX3_forgetRemembered_0 : decode cX3_forgetRemembered 0 = .ok (.aload_n 0, 1) := by decide +kernel
theorem dX3_forgetRemembered_1 : decode cX3_forgetRemembered 1 = .ok (.iconst 0, 1) := by decide +kernel
theorem dX3_forgetRemembered_2 : decode cX3_forgetRemembered 2 = .ok (.putfield 34, 3) := by decide +kernel
theorem dX3_forgetRemembered_5 : decode cX3_forgetRemembered 5 = .ok (.return_, 1) := by decide +kernel
set_option maxRecDepth 20000 in
theorem ggX3_goneIn_X0_has : GoodIn wsX3_goneIn wsX0_has := goodIn_r _ [8, 9, 107] (by decide +kernel) (by decide +kernel)
set_option maxRecDepth 20000 in
theorem gX3_goneIn_X0_has : GoodIn wsX3_goneIn (wsV RX3 143 RX0 yX0_has wsX0_has) := goodIn_app (goodIn_of _ (by decide +kernel)) ggX3_goneIn_X0_has
set_option maxRecDepth 20000 in
theorem ggX3_goneIn_X3_ticksUntilGone : GoodIn wsX3_goneIn wsX3_ticksUntilGone := goodIn_r _ [14, 15, 16, 17, 18, 19, 20, 21, 22, 13, 23, 24, 25, 26, 7, 27, 9, 28, 29, 30, 31, 32, 33, 34, 35, 36, 37, 38, 39, 40, 41, 42, 43, 44, 45, 46, 47, 48, 49, 50, 51, 52, 53, 54, 55, 56, 57, 58, 59, 60, 61, 62, 63, 64, 65, 66, 67, 68, 69, 70, 71, 72, 73, 74, 75, 76, 77, 78, 79, 80, 81, 82, 83, 84, 85, 86, 87, 88, 89, 90, 91, 92, 93, 94, 95, 96, 97, 98, 99, 100, 101, 102, 103, 104, 105, 106, 107] (by decide +kernel) (by decide +kernel)
set_option maxRecDepth 20000 in
theorem gX3_goneIn_X3_ticksUntilGone : GoodIn wsX3_goneIn (wsV RX3 226 RX3 yX3_ticksUntilGone wsX3_ticksUntilGone) := goodIn_app (goodIn_of _ (by decide +kernel)) ggX3_goneIn_X3_ticksUntilGone
theorem dX3_goneIn_0 : decode cX3_goneIn 0 = .ok (.aload_n 0, 1) := by decide +kernel
theorem dX3_goneIn_1 : decode cX3_goneIn 1 = .ok (.getfield 19, 3) := by decide +kernel
theorem dX3_goneIn_4 : decode cX3_goneIn 4 = .ok (.iload_n 1, 1) := by decide +kernel
theorem dX3_goneIn_5 : decode cX3_goneIn 5 = .ok (.invokevirtual 143, 3) := by decide +kernel
theorem dX3_goneIn_8 : decode cX3_goneIn 8 = .ok (.ifCond .ne 13, 3) := by decide +kernel
theorem dX3_goneIn_11 : decode cX3_goneIn 11 = .ok (.new 146, 3) := by decide +kernel
theorem dX3_goneIn_14 : decode cX3_goneIn 14 = .ok (.dup, 1) := by decide +kernel
theorem dX3_goneIn_15 : decode cX3_goneIn 15 = .ok (.ldc 148, 2) := by decide +kernel
theorem dX3_goneIn_17 : decode cX3_goneIn 17 = .ok (.invokespecial 150, 3) := by decide +kernel
theorem dX3_goneIn_20 : decode cX3_goneIn 20 = .ok (.athrow, 1) := by decide +kernel
theorem dX3_goneIn_21 : decode cX3_goneIn 21 = .ok (.aload_n 0, 1) := by decide +kernel
theorem dX3_goneIn_22 : decode cX3_goneIn 22 = .ok (.aload_n 0, 1) := by decide +kernel
theorem dX3_goneIn_23 : decode cX3_goneIn 23 = .ok (.getfield 19, 3) := by decide +kernel
theorem dX3_goneIn_26 : decode cX3_goneIn 26 = .ok (.iload_n 1, 1) := by decide +kernel
theorem dX3_goneIn_27 : decode cX3_goneIn 27 = .ok (.invokevirtual 226, 3) := by decide +kernel
theorem dX3_goneIn_30 : decode cX3_goneIn 30 = .ok (.ireturn, 1) := by decide +kernel
set_option maxRecDepth 20000 in
theorem ggX3_throughIn_X3_runAhead : GoodIn wsX3_throughIn wsX3_runAhead := goodIn_r _ [6, 7, 8, 9, 10, 11, 12, 13, 14, 15, 16, 17, 18, 19, 20, 21, 22, 23, 24, 25, 26, 27, 28, 29, 30, 31, 32, 33, 34, 35, 36, 37, 38, 39, 40, 41, 42, 43, 44, 45, 46, 47, 48, 49, 50, 51, 52, 53, 54, 55, 56, 57, 58, 59, 60, 61, 62, 63, 64, 65, 66, 67, 68, 69, 70, 71, 72, 73, 74, 75, 76, 77, 78, 79, 80, 81, 82, 83, 84, 85, 86, 87, 88] (by decide +kernel) (by decide +kernel)
set_option maxRecDepth 20000 in
theorem gX3_throughIn_X3_runAhead : GoodIn wsX3_throughIn (wsV RX3 230 RX3 yX3_runAhead wsX3_runAhead) := goodIn_app (goodIn_of _ (by decide +kernel)) ggX3_throughIn_X3_runAhead
theorem dX3_throughIn_0 : decode cX3_throughIn 0 = .ok (.aload_n 0, 1) := by decide +kernel
theorem dX3_throughIn_1 : decode cX3_throughIn 1 = .ok (.aload_n 0, 1) := by decide +kernel
theorem dX3_throughIn_2 : decode cX3_throughIn 2 = .ok (.getfield 19, 3) := by decide +kernel
theorem dX3_throughIn_5 : decode cX3_throughIn 5 = .ok (.invokevirtual 230, 3) := by decide +kernel
theorem dX3_throughIn_8 : decode cX3_throughIn 8 = .ok (.ireturn, 1) := by decide +kernel
set_option maxRecDepth 20000 in
theorem ggX3_bestRule_X0_copyFrom : GoodIn wsX3_bestRule wsX0_copyFrom := goodIn_r _ [8, 9, 10, 11, 12, 13, 99] (by decide +kernel) (by decide +kernel)
set_option maxRecDepth 20000 in
theorem gX3_bestRule_X0_copyFrom : GoodIn wsX3_bestRule (wsV RX3 234 RX0 yX0_copyFrom wsX0_copyFrom) := goodIn_app (goodIn_of _ (by decide +kernel)) ggX3_bestRule_X0_copyFrom
set_option maxRecDepth 20000 in
theorem ggX3_bestRule_X0_setRule : GoodIn wsX3_bestRule wsX0_setRule := goodIn_r _ [17, 9, 18, 19, 20, 99] (by decide +kernel) (by decide +kernel)
set_option maxRecDepth 20000 in
theorem gX3_bestRule_X0_setRule : GoodIn wsX3_bestRule (wsV RX3 114 RX0 yX0_setRule wsX0_setRule) := goodIn_app (goodIn_of _ (by decide +kernel)) ggX3_bestRule_X0_setRule
set_option maxRecDepth 20000 in
theorem ggX3_bestRule_X3_runAhead : GoodIn wsX3_bestRule wsX3_runAhead := goodIn_r _ [24, 3, 4, 5, 6, 7, 8, 9, 10, 11, 12, 13, 25, 26, 27, 28, 29, 30, 31, 32, 33, 34, 35, 36, 37, 38, 39, 40, 41, 42, 43, 44, 45, 46, 47, 48, 49, 50, 51, 52, 53, 54, 55, 56, 57, 58, 59, 60, 61, 62, 63, 64, 65, 66, 67, 68, 69, 70, 71, 72, 73, 74, 75, 76, 77, 78, 79, 80, 81, 82, 83, 84, 85, 86, 91, 92, 93, 94, 95, 96, 97, 98, 99] (by decide +kernel) (by decide +kernel)
set_option maxRecDepth 20000 in
theorem gX3_bestRule_X3_runAhead : GoodIn wsX3_bestRule (wsV RX3 230 RX3 yX3_runAhead wsX3_runAhead) := goodIn_app (goodIn_of _ (by decide +kernel)) ggX3_bestRule_X3_runAhead
set_option maxRecDepth 20000 in
theorem ggX3_bestRule_X3_noneAsMost : GoodIn wsX3_bestRule wsX3_noneAsMost := goodIn_r _ [89] (by decide +kernel) (by decide +kernel)
set_option maxRecDepth 20000 in
theorem gX3_bestRule_X3_noneAsMost : GoodIn wsX3_bestRule (va_wsS RX3 238 yX3_noneAsMost wsX3_noneAsMost) := goodIn_app (goodIn_of _ (by decide +kernel)) ggX3_bestRule_X3_noneAsMost
set_option maxRecDepth 20000 in
theorem ggX3_bestRule_X0_countWhere : GoodIn wsX3_bestRule wsX0_countWhere := goodIn_r _ [32, 33, 34, 35, 7, 36, 37, 38, 39, 40, 9, 99] (by decide +kernel) (by decide +kernel)
set_option maxRecDepth 20000 in
theorem gX3_bestRule_X0_countWhere : GoodIn wsX3_bestRule (wsV RX3 123 RX0 yX0_countWhere wsX0_countWhere) := goodIn_app (goodIn_of _ (by decide +kernel)) ggX3_bestRule_X0_countWhere
theorem dX3_bestRule_0 : decode cX3_bestRule 0 = .ok (.iconst 0, 1) := by decide +kernel
theorem dX3_bestRule_1 : decode cX3_bestRule 1 = .ok (.istore_n 1, 1) := by decide +kernel
theorem dX3_bestRule_2 : decode cX3_bestRule 2 = .ok (.iconst (-1), 1) := by decide +kernel
theorem dX3_bestRule_3 : decode cX3_bestRule 3 = .ok (.istore_n 2, 1) := by decide +kernel
theorem dX3_bestRule_4 : decode cX3_bestRule 4 = .ok (.iconst (-1), 1) := by decide +kernel
theorem dX3_bestRule_5 : decode cX3_bestRule 5 = .ok (.istore_n 3, 1) := by decide +kernel
theorem dX3_bestRule_6 : decode cX3_bestRule 6 = .ok (.iconst 0, 1) := by decide +kernel
theorem dX3_bestRule_7 : decode cX3_bestRule 7 = .ok (.istore 4, 2) := by decide +kernel
theorem dX3_bestRule_9 : decode cX3_bestRule 9 = .ok (.iload 4, 2) := by decide +kernel
theorem dX3_bestRule_11 : decode cX3_bestRule 11 = .ok (.iconst 3, 1) := by decide +kernel
theorem dX3_bestRule_12 : decode cX3_bestRule 12 = .ok (.if_icmp .ge 80, 3) := by decide +kernel
theorem dX3_bestRule_15 : decode cX3_bestRule 15 = .ok (.aload_n 0, 1) := by decide +kernel
theorem dX3_bestRule_16 : decode cX3_bestRule 16 = .ok (.getfield 41, 3) := by decide +kernel
theorem dX3_bestRule_19 : decode cX3_bestRule 19 = .ok (.aload_n 0, 1) := by decide +kernel
theorem dX3_bestRule_20 : decode cX3_bestRule 20 = .ok (.getfield 19, 3) := by decide +kernel
theorem dX3_bestRule_23 : decode cX3_bestRule 23 = .ok (.invokevirtual 234, 3) := by decide +kernel
theorem dX3_bestRule_26 : decode cX3_bestRule 26 = .ok (.aload_n 0, 1) := by decide +kernel
theorem dX3_bestRule_27 : decode cX3_bestRule 27 = .ok (.getfield 41, 3) := by decide +kernel
theorem dX3_bestRule_30 : decode cX3_bestRule 30 = .ok (.iload 4, 2) := by decide +kernel
theorem dX3_bestRule_32 : decode cX3_bestRule 32 = .ok (.invokevirtual 114, 3) := by decide +kernel
theorem dX3_bestRule_35 : decode cX3_bestRule 35 = .ok (.pop, 1) := by decide +kernel
theorem dX3_bestRule_36 : decode cX3_bestRule 36 = .ok (.aload_n 0, 1) := by decide +kernel
theorem dX3_bestRule_37 : decode cX3_bestRule 37 = .ok (.aload_n 0, 1) := by decide +kernel
theorem dX3_bestRule_38 : decode cX3_bestRule 38 = .ok (.getfield 41, 3) := by decide +kernel
theorem dX3_bestRule_41 : decode cX3_bestRule 41 = .ok (.invokevirtual 230, 3) := by decide +kernel
theorem dX3_bestRule_44 : decode cX3_bestRule 44 = .ok (.invokestatic 238, 3) := by decide +kernel
theorem dX3_bestRule_47 : decode cX3_bestRule 47 = .ok (.istore 5, 2) := by decide +kernel
theorem dX3_bestRule_49 : decode cX3_bestRule 49 = .ok (.aload_n 0, 1) := by decide +kernel
theorem dX3_bestRule_50 : decode cX3_bestRule 50 = .ok (.getfield 44, 3) := by decide +kernel
theorem dX3_bestRule_53 : decode cX3_bestRule 53 = .ok (.iconst 2, 1) := by decide +kernel
theorem dX3_bestRule_54 : decode cX3_bestRule 54 = .ok (.invokevirtual 123, 3) := by decide +kernel
theorem dX3_bestRule_57 : decode cX3_bestRule 57 = .ok (.istore 6, 2) := by decide +kernel
theorem dX3_bestRule_59 : decode cX3_bestRule 59 = .ok (.iload 6, 2) := by decide +kernel
theorem dX3_bestRule_61 : decode cX3_bestRule 61 = .ok (.iload_n 2, 1) := by decide +kernel
theorem dX3_bestRule_62 : decode cX3_bestRule 62 = .ok (.if_icmp .gt 15, 3) := by decide +kernel
theorem dX3_bestRule_65 : decode cX3_bestRule 65 = .ok (.iload 6, 2) := by decide +kernel
theorem dX3_bestRule_67 : decode cX3_bestRule 67 = .ok (.iload_n 2, 1) := by decide +kernel
theorem dX3_bestRule_68 : decode cX3_bestRule 68 = .ok (.if_icmp .ne 18, 3) := by decide +kernel
theorem dX3_bestRule_71 : decode cX3_bestRule 71 = .ok (.iload 5, 2) := by decide +kernel
theorem dX3_bestRule_73 : decode cX3_bestRule 73 = .ok (.iload_n 3, 1) := by decide +kernel
theorem dX3_bestRule_74 : decode cX3_bestRule 74 = .ok (.if_icmp .ge 12, 3) := by decide +kernel
theorem dX3_bestRule_77 : decode cX3_bestRule 77 = .ok (.iload 4, 2) := by decide +kernel
theorem dX3_bestRule_79 : decode cX3_bestRule 79 = .ok (.istore_n 1, 1) := by decide +kernel
theorem dX3_bestRule_80 : decode cX3_bestRule 80 = .ok (.iload 6, 2) := by decide +kernel
theorem dX3_bestRule_82 : decode cX3_bestRule 82 = .ok (.istore_n 2, 1) := by decide +kernel
theorem dX3_bestRule_83 : decode cX3_bestRule 83 = .ok (.iload 5, 2) := by decide +kernel
theorem dX3_bestRule_85 : decode cX3_bestRule 85 = .ok (.istore_n 3, 1) := by decide +kernel
theorem dX3_bestRule_86 : decode cX3_bestRule 86 = .ok (.iinc 4 1, 3) := by decide +kernel
theorem dX3_bestRule_89 : decode cX3_bestRule 89 = .ok (.goto (-80), 3) := by decide +kernel
theorem dX3_bestRule_92 : decode cX3_bestRule 92 = .ok (.iload_n 1, 1) := by decide +kernel
theorem dX3_bestRule_93 : decode cX3_bestRule 93 = .ok (.ireturn, 1) := by decide +kernel
theorem dX3_noneAsMost_0 : decode cX3_noneAsMost 0 = .ok (.iload_n 0, 1) := by decide +kernel
theorem dX3_noneAsMost_1 : decode cX3_noneAsMost 1 = .ok (.iconst (-1), 1) := by decide +kernel
theorem dX3_noneAsMost_2 : decode cX3_noneAsMost 2 = .ok (.if_icmp .ne 9, 3) := by decide +kernel
theorem dX3_noneAsMost_5 : decode cX3_noneAsMost 5 = .ok (.sipush 201, 3) := by decide +kernel
theorem dX3_noneAsMost_8 : decode cX3_noneAsMost 8 = .ok (.goto 4, 3) := by decide +kernel
theorem dX3_noneAsMost_11 : decode cX3_noneAsMost 11 = .ok (.iload_n 0, 1) := by decide +kernel
theorem dX3_noneAsMost_12 : decode cX3_noneAsMost 12 = .ok (.ireturn, 1) := by decide +kernel
set_option maxRecDepth 20000 in
theorem ggX3_bestPull_X3_runAhead : GoodIn wsX3_bestPull wsX3_runAhead := goodIn_r _ [7, 2, 8, 9, 10, 11, 12, 13, 14, 15, 16, 17, 18, 19, 20, 21, 22, 23, 24, 25, 26, 27, 28, 29, 30, 31, 32, 33, 34, 35, 36, 37, 38, 39, 40, 41, 42, 43, 44, 45, 46, 47, 48, 49, 50, 51, 52, 53, 54, 55, 56, 57, 58, 59, 60, 61, 62, 63, 64, 65, 66, 67, 68, 69, 70, 71, 72, 73, 74, 75, 76, 77, 78, 79, 115, 116, 117, 118, 119, 120, 121, 122, 123] (by decide +kernel) (by decide +kernel)
set_option maxRecDepth 20000 in
theorem gX3_bestPull_X3_runAhead : GoodIn wsX3_bestPull (wsV RX3 230 RX3 yX3_runAhead wsX3_runAhead) := goodIn_app (goodIn_of _ (by decide +kernel)) ggX3_bestPull_X3_runAhead
set_option maxRecDepth 20000 in
theorem ggX3_bestPull_X0_goneSet : GoodIn wsX3_bestPull wsX0_goneSet := goodIn_r _ [83, 26, 27, 28, 11, 29, 30, 31, 32, 33, 13, 123] (by decide +kernel) (by decide +kernel)
set_option maxRecDepth 20000 in
theorem gX3_bestPull_X0_goneSet : GoodIn wsX3_bestPull (wsV RX3 241 RX0 yX0_goneSet wsX0_goneSet) := goodIn_app (goodIn_of _ (by decide +kernel)) ggX3_bestPull_X0_goneSet
set_option maxRecDepth 20000 in
theorem ggX3_bestPull_X0_count : GoodIn wsX3_bestPull wsX0_count := goodIn_r _ [87, 13, 123] (by decide +kernel) (by decide +kernel)
set_option maxRecDepth 20000 in
theorem gX3_bestPull_X0_count : GoodIn wsX3_bestPull (wsV RX3 120 RX0 yX0_count wsX0_count) := goodIn_app (goodIn_of _ (by decide +kernel)) ggX3_bestPull_X0_count
set_option maxRecDepth 20000 in
theorem ggX3_bestPull_X0_isUnderWay : GoodIn wsX3_bestPull wsX0_isUnderWay := goodIn_r _ [41, 26, 27, 28, 11, 29, 30, 31, 32, 33, 13, 123] (by decide +kernel) (by decide +kernel)
set_option maxRecDepth 20000 in
theorem gX3_bestPull_X0_isUnderWay : GoodIn wsX3_bestPull (wsV RX3 212 RX0 yX0_isUnderWay wsX0_isUnderWay) := goodIn_app (goodIn_of _ (by decide +kernel)) ggX3_bestPull_X0_isUnderWay
set_option maxRecDepth 20000 in
theorem ggX3_bestPull_X3_goneIfPulled : GoodIn wsX3_bestPull wsX3_goneIfPulled := goodIn_r _ [92, 93, 1, 2, 8, 9, 10, 11, 12, 13, 14, 15, 16, 17, 94, 95, 96, 97, 38, 39, 40, 41, 26, 27, 28, 29, 30, 31, 32, 33, 98, 99, 100, 101, 102, 6, 103, 68, 69, 70, 71, 60, 61, 62, 63, 3, 4, 5, 7, 18, 19, 20, 21, 22, 23, 24, 25, 34, 35, 36, 37, 42, 43, 44, 45, 46, 47, 48, 49, 50, 51, 52, 53, 54, 55, 56, 57, 58, 59, 64, 65, 66, 67, 72, 73, 74, 75, 76, 77, 78, 79, 104, 115, 116, 117, 118, 119, 120, 121, 122, 123] (by decide +kernel) (by decide +kernel)
set_option maxRecDepth 20000 in
theorem gX3_bestPull_X3_goneIfPulled : GoodIn wsX3_bestPull (wsV RX3 244 RX3 yX3_goneIfPulled wsX3_goneIfPulled) := goodIn_app (goodIn_of _ (by decide +kernel)) ggX3_bestPull_X3_goneIfPulled
set_option maxRecDepth 20000 in
theorem ggX3_bestPull_X3_othersIn : GoodIn wsX3_bestPull wsX3_othersIn := goodIn_r _ [107, 108, 109, 110, 111, 112, 113, 114] (by decide +kernel) (by decide +kernel)
set_option maxRecDepth 20000 in
theorem gX3_bestPull_X3_othersIn : GoodIn wsX3_bestPull (va_wsS RX3 247 yX3_othersIn wsX3_othersIn) := goodIn_app (goodIn_of _ (by decide +kernel)) ggX3_bestPull_X3_othersIn
theorem dX3_bestPull_0 : decode cX3_bestPull 0 = .ok (.aload_n 0, 1) := by decide +kernel
theorem dX3_bestPull_1 : decode cX3_bestPull 1 = .ok (.aload_n 0, 1) := by decide +kernel
theorem dX3_bestPull_2 : decode cX3_bestPull 2 = .ok (.getfield 19, 3) := by decide +kernel
theorem dX3_bestPull_5 : decode cX3_bestPull 5 = .ok (.invokevirtual 230, 3) := by decide +kernel
theorem dX3_bestPull_8 : decode cX3_bestPull 8 = .ok (.pop, 1) := by decide +kernel
theorem dX3_bestPull_9 : decode cX3_bestPull 9 = .ok (.aload_n 0, 1) := by decide +kernel
theorem dX3_bestPull_10 : decode cX3_bestPull 10 = .ok (.getfield 44, 3) := by decide +kernel
theorem dX3_bestPull_13 : decode cX3_bestPull 13 = .ok (.invokevirtual 241, 3) := by decide +kernel
theorem dX3_bestPull_16 : decode cX3_bestPull 16 = .ok (.istore_n 1, 1) := by decide +kernel
theorem dX3_bestPull_17 : decode cX3_bestPull 17 = .ok (.iconst (-1), 1) := by decide +kernel
theorem dX3_bestPull_18 : decode cX3_bestPull 18 = .ok (.istore_n 2, 1) := by decide +kernel
theorem dX3_bestPull_19 : decode cX3_bestPull 19 = .ok (.iconst (-1), 1) := by decide +kernel
theorem dX3_bestPull_20 : decode cX3_bestPull 20 = .ok (.istore_n 3, 1) := by decide +kernel
theorem dX3_bestPull_21 : decode cX3_bestPull 21 = .ok (.iconst 0, 1) := by decide +kernel
theorem dX3_bestPull_22 : decode cX3_bestPull 22 = .ok (.istore 4, 2) := by decide +kernel
theorem dX3_bestPull_24 : decode cX3_bestPull 24 = .ok (.iload 4, 2) := by decide +kernel
theorem dX3_bestPull_26 : decode cX3_bestPull 26 = .ok (.aload_n 0, 1) := by decide +kernel
theorem dX3_bestPull_27 : decode cX3_bestPull 27 = .ok (.getfield 19, 3) := by decide +kernel
theorem dX3_bestPull_30 : decode cX3_bestPull 30 = .ok (.invokevirtual 120, 3) := by decide +kernel
theorem dX3_bestPull_33 : decode cX3_bestPull 33 = .ok (.if_icmp .ge 52, 3) := by decide +kernel
theorem dX3_bestPull_36 : decode cX3_bestPull 36 = .ok (.aload_n 0, 1) := by decide +kernel
theorem dX3_bestPull_37 : decode cX3_bestPull 37 = .ok (.getfield 19, 3) := by decide +kernel
theorem dX3_bestPull_40 : decode cX3_bestPull 40 = .ok (.iload 4, 2) := by decide +kernel
theorem dX3_bestPull_42 : decode cX3_bestPull 42 = .ok (.invokevirtual 212, 3) := by decide +kernel
theorem dX3_bestPull_45 : decode cX3_bestPull 45 = .ok (.ifCond .eq 34, 3) := by decide +kernel
theorem dX3_bestPull_48 : decode cX3_bestPull 48 = .ok (.aload_n 0, 1) := by decide +kernel
theorem dX3_bestPull_49 : decode cX3_bestPull 49 = .ok (.iload 4, 2) := by decide +kernel
theorem dX3_bestPull_51 : decode cX3_bestPull 51 = .ok (.invokevirtual 244, 3) := by decide +kernel
theorem dX3_bestPull_54 : decode cX3_bestPull 54 = .ok (.istore 5, 2) := by decide +kernel
theorem dX3_bestPull_56 : decode cX3_bestPull 56 = .ok (.iload 5, 2) := by decide +kernel
theorem dX3_bestPull_58 : decode cX3_bestPull 58 = .ok (.iload_n 1, 1) := by decide +kernel
theorem dX3_bestPull_59 : decode cX3_bestPull 59 = .ok (.iload 4, 2) := by decide +kernel
theorem dX3_bestPull_61 : decode cX3_bestPull 61 = .ok (.invokestatic 247, 3) := by decide +kernel
theorem dX3_bestPull_64 : decode cX3_bestPull 64 = .ok (.if_icmp .le 15, 3) := by decide +kernel
theorem dX3_bestPull_67 : decode cX3_bestPull 67 = .ok (.iload 5, 2) := by decide +kernel
theorem dX3_bestPull_69 : decode cX3_bestPull 69 = .ok (.iload_n 3, 1) := by decide +kernel
theorem dX3_bestPull_70 : decode cX3_bestPull 70 = .ok (.if_icmp .le 9, 3) := by decide +kernel
theorem dX3_bestPull_73 : decode cX3_bestPull 73 = .ok (.iload 4, 2) := by decide +kernel
theorem dX3_bestPull_75 : decode cX3_bestPull 75 = .ok (.istore_n 2, 1) := by decide +kernel
theorem dX3_bestPull_76 : decode cX3_bestPull 76 = .ok (.iload 5, 2) := by decide +kernel
theorem dX3_bestPull_78 : decode cX3_bestPull 78 = .ok (.istore_n 3, 1) := by decide +kernel
theorem dX3_bestPull_79 : decode cX3_bestPull 79 = .ok (.iinc 4 1, 3) := by decide +kernel
theorem dX3_bestPull_82 : decode cX3_bestPull 82 = .ok (.goto (-58), 3) := by decide +kernel
theorem dX3_bestPull_85 : decode cX3_bestPull 85 = .ok (.iload_n 2, 1) := by decide +kernel
theorem dX3_bestPull_86 : decode cX3_bestPull 86 = .ok (.ireturn, 1) := by decide +kernel
set_option maxRecDepth 20000 in
theorem ggX3_goneIfPulled_X0_copyFrom : GoodIn wsX3_goneIfPulled wsX0_copyFrom := goodIn_r _ [8, 9, 10, 11, 12, 13, 100] (by decide +kernel) (by decide +kernel)
set_option maxRecDepth 20000 in
theorem gX3_goneIfPulled_X0_copyFrom : GoodIn wsX3_goneIfPulled (wsV RX3 234 RX0 yX0_copyFrom wsX0_copyFrom) := goodIn_app (goodIn_of _ (by decide +kernel)) ggX3_goneIfPulled_X0_copyFrom
set_option maxRecDepth 20000 in
theorem ggX3_goneIfPulled_X0_pullOut : GoodIn wsX3_goneIfPulled wsX0_pullOut := goodIn_r _ [17, 18, 19, 20, 7, 21, 22, 23, 24, 25, 26, 27, 28, 29, 9, 30, 31, 32, 33, 34, 35, 36, 37, 38, 39, 40, 41, 42, 43, 44, 100] (by decide +kernel) (by decide +kernel)
set_option maxRecDepth 20000 in
theorem gX3_goneIfPulled_X0_pullOut : GoodIn wsX3_goneIfPulled (wsV RX3 117 RX0 yX0_pullOut wsX0_pullOut) := goodIn_app (goodIn_of _ (by decide +kernel)) ggX3_goneIfPulled_X0_pullOut
set_option maxRecDepth 20000 in
theorem ggX3_goneIfPulled_X3_runAhead : GoodIn wsX3_goneIfPulled wsX3_runAhead := goodIn_r _ [48, 3, 4, 5, 6, 7, 8, 9, 10, 11, 12, 13, 49, 50, 51, 52, 53, 54, 55, 56, 22, 23, 24, 25, 26, 27, 28, 29, 57, 58, 59, 60, 18, 19, 20, 21, 61, 62, 63, 64, 65, 66, 67, 68, 69, 70, 71, 72, 73, 74, 75, 76, 77, 78, 41, 42, 43, 44, 79, 80, 81, 82, 37, 38, 39, 40, 83, 84, 85, 86, 87, 88, 89, 90, 92, 93, 94, 95, 96, 97, 98, 99, 100] (by decide +kernel) (by decide +kernel)
set_option maxRecDepth 20000 in
theorem gX3_goneIfPulled_X3_runAhead : GoodIn wsX3_goneIfPulled (wsV RX3 230 RX3 yX3_runAhead wsX3_runAhead) := goodIn_app (goodIn_of _ (by decide +kernel)) ggX3_goneIfPulled_X3_runAhead
set_option maxRecDepth 20000 in
theorem ggX3_goneIfPulled_X0_countWhere : GoodIn wsX3_goneIfPulled wsX0_countWhere := goodIn_r _ [56, 22, 23, 24, 7, 25, 26, 27, 28, 29, 9, 100] (by decide +kernel) (by decide +kernel)
set_option maxRecDepth 20000 in
theorem gX3_goneIfPulled_X0_countWhere : GoodIn wsX3_goneIfPulled (wsV RX3 123 RX0 yX0_countWhere wsX0_countWhere) := goodIn_app (goodIn_of _ (by decide +kernel)) ggX3_goneIfPulled_X0_countWhere
theorem dX3_goneIfPulled_0 : decode cX3_goneIfPulled 0 = .ok (.aload_n 0, 1) := by decide +kernel
theorem dX3_goneIfPulled_1 : decode cX3_goneIfPulled 1 = .ok (.getfield 41, 3) := by decide +kernel
theorem dX3_goneIfPulled_4 : decode cX3_goneIfPulled 4 = .ok (.aload_n 0, 1) := by decide +kernel
theorem dX3_goneIfPulled_5 : decode cX3_goneIfPulled 5 = .ok (.getfield 19, 3) := by decide +kernel
theorem dX3_goneIfPulled_8 : decode cX3_goneIfPulled 8 = .ok (.invokevirtual 234, 3) := by decide +kernel
theorem dX3_goneIfPulled_11 : decode cX3_goneIfPulled 11 = .ok (.aload_n 0, 1) := by decide +kernel
theorem dX3_goneIfPulled_12 : decode cX3_goneIfPulled 12 = .ok (.getfield 41, 3) := by decide +kernel
theorem dX3_goneIfPulled_15 : decode cX3_goneIfPulled 15 = .ok (.iload_n 1, 1) := by decide +kernel
theorem dX3_goneIfPulled_16 : decode cX3_goneIfPulled 16 = .ok (.invokevirtual 117, 3) := by decide +kernel
theorem dX3_goneIfPulled_19 : decode cX3_goneIfPulled 19 = .ok (.pop, 1) := by decide +kernel
theorem dX3_goneIfPulled_20 : decode cX3_goneIfPulled 20 = .ok (.aload_n 0, 1) := by decide +kernel
theorem dX3_goneIfPulled_21 : decode cX3_goneIfPulled 21 = .ok (.aload_n 0, 1) := by decide +kernel
theorem dX3_goneIfPulled_22 : decode cX3_goneIfPulled 22 = .ok (.getfield 41, 3) := by decide +kernel
theorem dX3_goneIfPulled_25 : decode cX3_goneIfPulled 25 = .ok (.invokevirtual 230, 3) := by decide +kernel
theorem dX3_goneIfPulled_28 : decode cX3_goneIfPulled 28 = .ok (.pop, 1) := by decide +kernel
theorem dX3_goneIfPulled_29 : decode cX3_goneIfPulled 29 = .ok (.aload_n 0, 1) := by decide +kernel
theorem dX3_goneIfPulled_30 : decode cX3_goneIfPulled 30 = .ok (.getfield 44, 3) := by decide +kernel
theorem dX3_goneIfPulled_33 : decode cX3_goneIfPulled 33 = .ok (.iconst 2, 1) := by decide +kernel
theorem dX3_goneIfPulled_34 : decode cX3_goneIfPulled 34 = .ok (.invokevirtual 123, 3) := by decide +kernel
theorem dX3_goneIfPulled_37 : decode cX3_goneIfPulled 37 = .ok (.ireturn, 1) := by decide +kernel
set_option maxRecDepth 20000 in
theorem ggX3_othersIn_J6_bitCount_0f7a4 : GoodIn wsX3_othersIn wsJ6_bitCount_0f7a4 := goodIn_r _ [4, 5, 6, 7] (by decide +kernel) (by decide +kernel)
set_option maxRecDepth 20000 in
theorem gX3_othersIn_J6_bitCount_0f7a4 : GoodIn wsX3_othersIn (va_wsS RX3 250 yJ6_bitCount_0f7a4 wsJ6_bitCount_0f7a4) := goodIn_app (goodIn_of _ (by decide +kernel)) ggX3_othersIn_J6_bitCount_0f7a4
theorem dX3_othersIn_0 : decode cX3_othersIn 0 = .ok (.iload_n 0, 1) := by decide +kernel
theorem dX3_othersIn_1 : decode cX3_othersIn 1 = .ok (.iconst 1, 1) := by decide +kernel
theorem dX3_othersIn_2 : decode cX3_othersIn 2 = .ok (.iload_n 1, 1) := by decide +kernel
theorem dX3_othersIn_3 : decode cX3_othersIn 3 = .ok (.ishl, 1) := by decide +kernel
theorem dX3_othersIn_4 : decode cX3_othersIn 4 = .ok (.iconst (-1), 1) := by decide +kernel
theorem dX3_othersIn_5 : decode cX3_othersIn 5 = .ok (.ixor, 1) := by decide +kernel
theorem dX3_othersIn_6 : decode cX3_othersIn 6 = .ok (.iand, 1) := by decide +kernel
theorem dX3_othersIn_7 : decode cX3_othersIn 7 = .ok (.invokestatic 250, 3) := by decide +kernel
theorem dX3_othersIn_10 : decode cX3_othersIn 10 = .ok (.ireturn, 1) := by decide +kernel
set_option maxRecDepth 20000 in
theorem ggX3_ifHatched_X3_isRoom : GoodIn wsX3_ifHatched wsX3_isRoom := goodIn_r _ [10] (by decide +kernel) (by decide +kernel)
set_option maxRecDepth 20000 in
theorem gX3_ifHatched_X3_isRoom : GoodIn wsX3_ifHatched (va_wsS RX3 159 yX3_isRoom wsX3_isRoom) := goodIn_app (goodIn_of _ (by decide +kernel)) ggX3_ifHatched_X3_isRoom
set_option maxRecDepth 20000 in
theorem ggX3_ifHatched_X3_isLength : GoodIn wsX3_ifHatched wsX3_isLength := goodIn_r _ [13] (by decide +kernel) (by decide +kernel)
set_option maxRecDepth 20000 in
theorem gX3_ifHatched_X3_isLength : GoodIn wsX3_ifHatched (va_wsS RX3 186 yX3_isLength wsX3_isLength) := goodIn_app (goodIn_of _ (by decide +kernel)) ggX3_ifHatched_X3_isLength
set_option maxRecDepth 20000 in
theorem ggX3_ifHatched_X0_isFull : GoodIn wsX3_ifHatched wsX0_isFull := goodIn_r _ [18, 19, 125] (by decide +kernel) (by decide +kernel)
set_option maxRecDepth 20000 in
theorem gX3_ifHatched_X0_isFull : GoodIn wsX3_ifHatched (wsV RX3 191 RX0 yX0_isFull wsX0_isFull) := goodIn_app (goodIn_of _ (by decide +kernel)) ggX3_ifHatched_X0_isFull
set_option maxRecDepth 20000 in
theorem ggX3_ifHatched_X0_copyFrom : GoodIn wsX3_ifHatched wsX0_copyFrom := goodIn_r _ [23, 19, 24, 25, 26, 27, 125] (by decide +kernel) (by decide +kernel)
set_option maxRecDepth 20000 in
theorem gX3_ifHatched_X0_copyFrom : GoodIn wsX3_ifHatched (wsV RX3 234 RX0 yX0_copyFrom wsX0_copyFrom) := goodIn_app (goodIn_of _ (by decide +kernel)) ggX3_ifHatched_X0_copyFrom
set_option maxRecDepth 20000 in
theorem ggX3_ifHatched_X0_addCaterpillar : GoodIn wsX3_ifHatched wsX0_addCaterpillar := goodIn_r _ [31, 19, 32, 15, 16, 17, 18, 8, 9, 10, 12, 13, 33, 34, 35, 36, 125] (by decide +kernel) (by decide +kernel)
set_option maxRecDepth 20000 in
theorem gX3_ifHatched_X0_addCaterpillar : GoodIn wsX3_ifHatched (wsV RX3 103 RX0 yX0_addCaterpillar wsX0_addCaterpillar) := goodIn_app (goodIn_of _ (by decide +kernel)) ggX3_ifHatched_X0_addCaterpillar
set_option maxRecDepth 20000 in
theorem ggX3_ifHatched_X0_count : GoodIn wsX3_ifHatched wsX0_count := goodIn_r _ [40, 19, 125] (by decide +kernel) (by decide +kernel)
set_option maxRecDepth 20000 in
theorem gX3_ifHatched_X0_count : GoodIn wsX3_ifHatched (wsV RX3 120 RX0 yX0_count wsX0_count) := goodIn_app (goodIn_of _ (by decide +kernel)) ggX3_ifHatched_X0_count
set_option maxRecDepth 20000 in
theorem ggX3_ifHatched_X3_ticksUntilGone : GoodIn wsX3_ifHatched wsX3_ticksUntilGone := goodIn_r _ [44, 45, 46, 47, 48, 49, 50, 51, 52, 9, 53, 20, 21, 22, 17, 23, 19, 24, 25, 26, 27, 54, 55, 56, 57, 58, 59, 60, 61, 62, 63, 64, 65, 66, 67, 68, 69, 70, 71, 72, 73, 74, 75, 76, 77, 78, 79, 80, 81, 82, 83, 84, 85, 86, 87, 88, 89, 90, 91, 92, 93, 94, 95, 33, 34, 35, 36, 96, 97, 98, 99, 100, 101, 102, 103, 104, 105, 106, 107, 108, 109, 110, 111, 112, 113, 114, 115, 116, 117, 118, 119, 120, 121, 122, 123, 124, 125] (by decide +kernel) (by decide +kernel)
set_option maxRecDepth 20000 in
theorem gX3_ifHatched_X3_ticksUntilGone : GoodIn wsX3_ifHatched (wsV RX3 226 RX3 yX3_ticksUntilGone wsX3_ticksUntilGone) := goodIn_app (goodIn_of _ (by decide +kernel)) ggX3_ifHatched_X3_ticksUntilGone
theorem dX3_ifHatched_0 : decode cX3_ifHatched 0 = .ok (.iload_n 1, 1) := by decide +kernel
theorem dX3_ifHatched_1 : decode cX3_ifHatched 1 = .ok (.invokestatic 159, 3) := by decide +kernel
theorem dX3_ifHatched_4 : decode cX3_ifHatched 4 = .ok (.ifCond .eq 10, 3) := by decide +kernel
theorem dX3_ifHatched_7 : decode cX3_ifHatched 7 = .ok (.iload_n 2, 1) := by decide +kernel
theorem dX3_ifHatched_8 : decode cX3_ifHatched 8 = .ok (.invokestatic 159, 3) := by decide +kernel
theorem dX3_ifHatched_11 : decode cX3_ifHatched 11 = .ok (.ifCond .ne 13, 3) := by decide +kernel
theorem dX3_ifHatched_14 : decode cX3_ifHatched 14 = .ok (.new 146, 3) := by decide +kernel
theorem dX3_ifHatched_17 : decode cX3_ifHatched 17 = .ok (.dup, 1) := by decide +kernel
theorem dX3_ifHatched_18 : decode cX3_ifHatched 18 = .ok (.ldc 162, 2) := by decide +kernel
theorem dX3_ifHatched_20 : decode cX3_ifHatched 20 = .ok (.invokespecial 150, 3) := by decide +kernel
theorem dX3_ifHatched_23 : decode cX3_ifHatched 23 = .ok (.athrow, 1) := by decide +kernel
theorem dX3_ifHatched_24 : decode cX3_ifHatched 24 = .ok (.iload_n 3, 1) := by decide +kernel
theorem dX3_ifHatched_25 : decode cX3_ifHatched 25 = .ok (.invokestatic 186, 3) := by decide +kernel
theorem dX3_ifHatched_28 : decode cX3_ifHatched 28 = .ok (.ifCond .ne 13, 3) := by decide +kernel
theorem dX3_ifHatched_31 : decode cX3_ifHatched 31 = .ok (.new 47, 3) := by decide +kernel
theorem dX3_ifHatched_34 : decode cX3_ifHatched 34 = .ok (.dup, 1) := by decide +kernel
theorem dX3_ifHatched_35 : decode cX3_ifHatched 35 = .ok (.ldc 189, 2) := by decide +kernel
theorem dX3_ifHatched_37 : decode cX3_ifHatched 37 = .ok (.invokespecial 51, 3) := by decide +kernel
theorem dX3_ifHatched_40 : decode cX3_ifHatched 40 = .ok (.athrow, 1) := by decide +kernel
theorem dX3_ifHatched_41 : decode cX3_ifHatched 41 = .ok (.aload_n 0, 1) := by decide +kernel
theorem dX3_ifHatched_42 : decode cX3_ifHatched 42 = .ok (.getfield 19, 3) := by decide +kernel
theorem dX3_ifHatched_45 : decode cX3_ifHatched 45 = .ok (.invokevirtual 191, 3) := by decide +kernel
theorem dX3_ifHatched_48 : decode cX3_ifHatched 48 = .ok (.ifCond .eq 5, 3) := by decide +kernel
theorem dX3_ifHatched_51 : decode cX3_ifHatched 51 = .ok (.iconst (-1), 1) := by decide +kernel
theorem dX3_ifHatched_52 : decode cX3_ifHatched 52 = .ok (.ireturn, 1) := by decide +kernel
theorem dX3_ifHatched_53 : decode cX3_ifHatched 53 = .ok (.aload_n 0, 1) := by decide +kernel
theorem dX3_ifHatched_54 : decode cX3_ifHatched 54 = .ok (.getfield 41, 3) := by decide +kernel
theorem dX3_ifHatched_57 : decode cX3_ifHatched 57 = .ok (.aload_n 0, 1) := by decide +kernel
theorem dX3_ifHatched_58 : decode cX3_ifHatched 58 = .ok (.getfield 19, 3) := by decide +kernel
theorem dX3_ifHatched_61 : decode cX3_ifHatched 61 = .ok (.invokevirtual 234, 3) := by decide +kernel
theorem dX3_ifHatched_64 : decode cX3_ifHatched 64 = .ok (.aload_n 0, 1) := by decide +kernel
theorem dX3_ifHatched_65 : decode cX3_ifHatched 65 = .ok (.getfield 41, 3) := by decide +kernel
theorem dX3_ifHatched_68 : decode cX3_ifHatched 68 = .ok (.iload_n 1, 1) := by decide +kernel
theorem dX3_ifHatched_69 : decode cX3_ifHatched 69 = .ok (.iload_n 2, 1) := by decide +kernel
theorem dX3_ifHatched_70 : decode cX3_ifHatched 70 = .ok (.iload_n 3, 1) := by decide +kernel
theorem dX3_ifHatched_71 : decode cX3_ifHatched 71 = .ok (.invokevirtual 103, 3) := by decide +kernel
theorem dX3_ifHatched_74 : decode cX3_ifHatched 74 = .ok (.pop, 1) := by decide +kernel
theorem dX3_ifHatched_75 : decode cX3_ifHatched 75 = .ok (.aload_n 0, 1) := by decide +kernel
theorem dX3_ifHatched_76 : decode cX3_ifHatched 76 = .ok (.aload_n 0, 1) := by decide +kernel
theorem dX3_ifHatched_77 : decode cX3_ifHatched 77 = .ok (.getfield 41, 3) := by decide +kernel
theorem dX3_ifHatched_80 : decode cX3_ifHatched 80 = .ok (.aload_n 0, 1) := by decide +kernel
theorem dX3_ifHatched_81 : decode cX3_ifHatched 81 = .ok (.getfield 41, 3) := by decide +kernel
theorem dX3_ifHatched_84 : decode cX3_ifHatched 84 = .ok (.invokevirtual 120, 3) := by decide +kernel
theorem dX3_ifHatched_87 : decode cX3_ifHatched 87 = .ok (.iconst 1, 1) := by decide +kernel
theorem dX3_ifHatched_88 : decode cX3_ifHatched 88 = .ok (.isub, 1) := by decide +kernel
theorem dX3_ifHatched_89 : decode cX3_ifHatched 89 = .ok (.invokevirtual 226, 3) := by decide +kernel
theorem dX3_ifHatched_92 : decode cX3_ifHatched 92 = .ok (.ireturn, 1) := by decide +kernel
set_option maxRecDepth 20000 in
theorem ggX3_ticksUntilGone_X3_runAhead : GoodIn wsX3_ticksUntilGone wsX3_runAhead := goodIn_r _ [10, 1, 11, 12, 13, 14, 15, 16, 17, 18, 19, 20, 21, 22, 23, 24, 25, 26, 27, 28, 29, 30, 31, 32, 33, 34, 35, 36, 37, 38, 39, 40, 41, 42, 43, 44, 45, 46, 47, 48, 49, 50, 51, 52, 53, 54, 55, 56, 57, 58, 59, 60, 61, 62, 63, 64, 65, 66, 67, 68, 69, 70, 71, 72, 73, 74, 75, 76, 77, 78, 79, 80, 81, 82, 88, 89, 90, 91, 92, 93, 94, 95, 96] (by decide +kernel) (by decide +kernel)
set_option maxRecDepth 20000 in
theorem gX3_ticksUntilGone_X3_runAhead : GoodIn wsX3_ticksUntilGone (wsV RX3 230 RX3 yX3_runAhead wsX3_runAhead) := goodIn_app (goodIn_of _ (by decide +kernel)) ggX3_ticksUntilGone_X3_runAhead
set_option maxRecDepth 20000 in
theorem ggX3_ticksUntilGone_X0_number : GoodIn wsX3_ticksUntilGone wsX0_number := goodIn_r _ [36, 16, 96] (by decide +kernel) (by decide +kernel)
set_option maxRecDepth 20000 in
theorem gX3_ticksUntilGone_X0_number : GoodIn wsX3_ticksUntilGone (wsV RX3 153 RX0 yX0_number wsX0_number) := goodIn_app (goodIn_of _ (by decide +kernel)) ggX3_ticksUntilGone_X0_number
set_option maxRecDepth 20000 in
theorem ggX3_ticksUntilGone_X0_ticksSoFar : GoodIn wsX3_ticksUntilGone wsX0_ticksSoFar := goodIn_r _ [87, 16, 96] (by decide +kernel) (by decide +kernel)
set_option maxRecDepth 20000 in
theorem gX3_ticksUntilGone_X0_ticksSoFar : GoodIn wsX3_ticksUntilGone (wsV RX3 126 RX0 yX0_ticksSoFar wsX0_ticksSoFar) := goodIn_app (goodIn_of _ (by decide +kernel)) ggX3_ticksUntilGone_X0_ticksSoFar
theorem dX3_ticksUntilGone_0 : decode cX3_ticksUntilGone 0 = .ok (.aload_n 0, 1) := by decide +kernel
theorem dX3_ticksUntilGone_1 : decode cX3_ticksUntilGone 1 = .ok (.aload_n 1, 1) := by decide +kernel
theorem dX3_ticksUntilGone_2 : decode cX3_ticksUntilGone 2 = .ok (.invokevirtual 230, 3) := by decide +kernel
theorem dX3_ticksUntilGone_5 : decode cX3_ticksUntilGone 5 = .ok (.pop, 1) := by decide +kernel
theorem dX3_ticksUntilGone_6 : decode cX3_ticksUntilGone 6 = .ok (.aload_n 0, 1) := by decide +kernel
theorem dX3_ticksUntilGone_7 : decode cX3_ticksUntilGone 7 = .ok (.getfield 44, 3) := by decide +kernel
theorem dX3_ticksUntilGone_10 : decode cX3_ticksUntilGone 10 = .ok (.iload_n 2, 1) := by decide +kernel
theorem dX3_ticksUntilGone_11 : decode cX3_ticksUntilGone 11 = .ok (.iconst 0, 1) := by decide +kernel
theorem dX3_ticksUntilGone_12 : decode cX3_ticksUntilGone 12 = .ok (.invokevirtual 153, 3) := by decide +kernel
theorem dX3_ticksUntilGone_15 : decode cX3_ticksUntilGone 15 = .ok (.iconst 2, 1) := by decide +kernel
theorem dX3_ticksUntilGone_16 : decode cX3_ticksUntilGone 16 = .ok (.if_icmp .eq 5, 3) := by decide +kernel
theorem dX3_ticksUntilGone_19 : decode cX3_ticksUntilGone 19 = .ok (.iconst (-1), 1) := by decide +kernel
theorem dX3_ticksUntilGone_20 : decode cX3_ticksUntilGone 20 = .ok (.ireturn, 1) := by decide +kernel
theorem dX3_ticksUntilGone_21 : decode cX3_ticksUntilGone 21 = .ok (.iconst 0, 1) := by decide +kernel
theorem dX3_ticksUntilGone_22 : decode cX3_ticksUntilGone 22 = .ok (.aload_n 0, 1) := by decide +kernel
theorem dX3_ticksUntilGone_23 : decode cX3_ticksUntilGone 23 = .ok (.getfield 44, 3) := by decide +kernel
theorem dX3_ticksUntilGone_26 : decode cX3_ticksUntilGone 26 = .ok (.iload_n 2, 1) := by decide +kernel
theorem dX3_ticksUntilGone_27 : decode cX3_ticksUntilGone 27 = .ok (.iconst 5, 1) := by decide +kernel
theorem dX3_ticksUntilGone_28 : decode cX3_ticksUntilGone 28 = .ok (.invokevirtual 153, 3) := by decide +kernel
theorem dX3_ticksUntilGone_31 : decode cX3_ticksUntilGone 31 = .ok (.aload_n 1, 1) := by decide +kernel
theorem dX3_ticksUntilGone_32 : decode cX3_ticksUntilGone 32 = .ok (.invokevirtual 126, 3) := by decide +kernel
theorem dX3_ticksUntilGone_35 : decode cX3_ticksUntilGone 35 = .ok (.isub, 1) := by decide +kernel
theorem dX3_ticksUntilGone_36 : decode cX3_ticksUntilGone 36 = .ok (.invokestatic 255, 3) := by decide +kernel
theorem dX3_ticksUntilGone_39 : decode cX3_ticksUntilGone 39 = .ok (.ireturn, 1) := by decide +kernel
set_option maxRecDepth 20000 in
theorem ggX3_runAhead_X0_copyFrom : GoodIn wsX3_runAhead wsX0_copyFrom := goodIn_r _ [6, 7, 8, 9, 10, 11, 82] (by decide +kernel) (by decide +kernel)
set_option maxRecDepth 20000 in
theorem gX3_runAhead_X0_copyFrom : GoodIn wsX3_runAhead (wsV RX3 234 RX0 yX0_copyFrom wsX0_copyFrom) := goodIn_app (goodIn_of _ (by decide +kernel)) ggX3_runAhead_X0_copyFrom
set_option maxRecDepth 20000 in
theorem ggX3_runAhead_X0_isThrough : GoodIn wsX3_runAhead wsX0_isThrough := goodIn_r _ [15, 16, 17, 18, 5, 19, 20, 21, 22, 23, 24, 25, 26, 27, 7, 82] (by decide +kernel) (by decide +kernel)
set_option maxRecDepth 20000 in
theorem gX3_runAhead_X0_isThrough : GoodIn wsX3_runAhead (wsV RX3 260 RX0 yX0_isThrough wsX0_isThrough) := goodIn_app (goodIn_of _ (by decide +kernel)) ggX3_runAhead_X0_isThrough
set_option maxRecDepth 20000 in
theorem ggX3_runAhead_X0_moveAll : GoodIn wsX3_runAhead wsX0_moveAll := goodIn_r _ [31, 7, 32, 33, 34, 5, 35, 20, 21, 22, 23, 24, 25, 26, 27, 36, 37, 38, 39, 40, 41, 42, 43, 44, 45, 46, 47, 48, 49, 50, 51, 52, 53, 54, 55, 56, 57, 58, 59, 60, 61, 62, 63, 64, 65, 66, 67, 68, 69, 70, 71, 72, 73, 82] (by decide +kernel) (by decide +kernel)
set_option maxRecDepth 20000 in
theorem gX3_runAhead_X0_moveAll : GoodIn wsX3_runAhead (wsV RX3 263 RX0 yX0_moveAll wsX0_moveAll) := goodIn_app (goodIn_of _ (by decide +kernel)) ggX3_runAhead_X0_moveAll
theorem dX3_runAhead_0 : decode cX3_runAhead 0 = .ok (.aload_n 0, 1) := by decide +kernel
theorem dX3_runAhead_1 : decode cX3_runAhead 1 = .ok (.getfield 44, 3) := by decide +kernel
theorem dX3_runAhead_4 : decode cX3_runAhead 4 = .ok (.aload_n 1, 1) := by decide +kernel
theorem dX3_runAhead_5 : decode cX3_runAhead 5 = .ok (.invokevirtual 234, 3) := by decide +kernel
theorem dX3_runAhead_8 : decode cX3_runAhead 8 = .ok (.iconst 0, 1) := by decide +kernel
theorem dX3_runAhead_9 : decode cX3_runAhead 9 = .ok (.istore_n 2, 1) := by decide +kernel
theorem dX3_runAhead_10 : decode cX3_runAhead 10 = .ok (.iload_n 2, 1) := by decide +kernel
theorem dX3_runAhead_11 : decode cX3_runAhead 11 = .ok (.sipush 200, 3) := by decide +kernel
theorem dX3_runAhead_14 : decode cX3_runAhead 14 = .ok (.if_icmp .ge 33, 3) := by decide +kernel
theorem dX3_runAhead_17 : decode cX3_runAhead 17 = .ok (.aload_n 0, 1) := by decide +kernel
theorem dX3_runAhead_18 : decode cX3_runAhead 18 = .ok (.getfield 44, 3) := by decide +kernel
theorem dX3_runAhead_21 : decode cX3_runAhead 21 = .ok (.invokevirtual 260, 3) := by decide +kernel
theorem dX3_runAhead_24 : decode cX3_runAhead 24 = .ok (.ifCond .eq 5, 3) := by decide +kernel
theorem dX3_runAhead_27 : decode cX3_runAhead 27 = .ok (.iload_n 2, 1) := by decide +kernel
theorem dX3_runAhead_28 : decode cX3_runAhead 28 = .ok (.ireturn, 1) := by decide +kernel
theorem dX3_runAhead_29 : decode cX3_runAhead 29 = .ok (.aload_n 0, 1) := by decide +kernel
theorem dX3_runAhead_30 : decode cX3_runAhead 30 = .ok (.getfield 44, 3) := by decide +kernel
theorem dX3_runAhead_33 : decode cX3_runAhead 33 = .ok (.invokevirtual 263, 3) := by decide +kernel
theorem dX3_runAhead_36 : decode cX3_runAhead 36 = .ok (.ifCond .ne 5, 3) := by decide +kernel
theorem dX3_runAhead_39 : decode cX3_runAhead 39 = .ok (.iconst (-1), 1) := by decide +kernel
theorem dX3_runAhead_40 : decode cX3_runAhead 40 = .ok (.ireturn, 1) := by decide +kernel
theorem dX3_runAhead_41 : decode cX3_runAhead 41 = .ok (.iinc 2 1, 3) := by decide +kernel
theorem dX3_runAhead_44 : decode cX3_runAhead 44 = .ok (.goto (-34), 3) := by decide +kernel
theorem dX3_runAhead_47 : decode cX3_runAhead 47 = .ok (.aload_n 0, 1) := by decide +kernel
theorem dX3_runAhead_48 : decode cX3_runAhead 48 = .ok (.getfield 44, 3) := by decide +kernel
theorem dX3_runAhead_51 : decode cX3_runAhead 51 = .ok (.invokevirtual 260, 3) := by decide +kernel
theorem dX3_runAhead_54 : decode cX3_runAhead 54 = .ok (.ifCond .eq 9, 3) := by decide +kernel
theorem dX3_runAhead_57 : decode cX3_runAhead 57 = .ok (.sipush 200, 3) := by decide +kernel
theorem dX3_runAhead_60 : decode cX3_runAhead 60 = .ok (.goto 4, 3) := by decide +kernel
theorem dX3_runAhead_63 : decode cX3_runAhead 63 = .ok (.iconst (-1), 1) := by decide +kernel
theorem dX3_runAhead_64 : decode cX3_runAhead 64 = .ok (.ireturn, 1) := by decide +kernel
set_option maxRecDepth 20000 in
theorem ggX3_runScript_X3_withoutGroups : GoodIn wsX3_runScript wsX3_withoutGroups := goodIn_r _ [9, 5] (by decide +kernel) (by decide +kernel)
set_option maxRecDepth 20000 in
theorem gX3_runScript_X3_withoutGroups : GoodIn wsX3_runScript (va_wsS RX3 268 yX3_withoutGroups wsX3_withoutGroups) := goodIn_app (goodIn_of _ (by decide +kernel)) ggX3_runScript_X3_withoutGroups
set_option maxRecDepth 20000 in
theorem ggX3_runScript_X0_copyFrom : GoodIn wsX3_runScript wsX0_copyFrom := goodIn_r _ [14, 15, 16, 17, 18, 19, 164] (by decide +kernel) (by decide +kernel)
set_option maxRecDepth 20000 in
theorem gX3_runScript_X0_copyFrom : GoodIn wsX3_runScript (wsV RX3 234 RX0 yX0_copyFrom wsX0_copyFrom) := goodIn_app (goodIn_of _ (by decide +kernel)) ggX3_runScript_X0_copyFrom
set_option maxRecDepth 20000 in
theorem ggX3_runScript_X3_succeeds : GoodIn wsX3_runScript wsX3_succeeds := goodIn_r _ [23, 24, 3, 25, 26, 27, 28, 29, 13, 30, 31, 8, 32, 33, 34, 35, 36, 15, 37, 38, 39, 40, 41, 42, 43, 44, 45, 46, 47, 48, 49, 50, 51, 52, 53, 54, 55, 56, 57, 58, 59, 60, 61, 62, 63, 64, 65, 66, 67, 68, 69, 70, 71, 72, 73, 74, 75, 76, 77, 78, 79, 80, 81, 82, 83, 84, 85, 86, 87, 88, 89, 90, 91, 92, 93, 94, 95, 96, 97, 98, 99, 100, 101, 102, 103, 104, 105, 106, 107, 108, 109, 110, 111, 112, 113, 114, 115, 116, 117, 118, 119, 120, 121, 122, 123, 124, 125, 126, 127, 128, 129, 130, 131, 132, 133, 134, 135, 136, 137, 138, 139, 140, 141, 142, 143, 10, 11, 12, 14, 16, 17, 18, 19, 144, 145, 146, 147, 148, 149, 150, 151, 152, 153, 154, 155, 156, 157, 158, 159, 160, 161, 162, 163, 164] (by decide +kernel) (by decide +kernel)
set_option maxRecDepth 20000 in
theorem gX3_runScript_X3_succeeds : GoodIn wsX3_runScript (wsV RX3 276 RX3 yX3_succeeds wsX3_succeeds) := goodIn_app (goodIn_of _ (by decide +kernel)) ggX3_runScript_X3_succeeds
theorem dX3_runScript_0 : decode cX3_runScript 0 = .ok (.iload_n 1, 1) := by decide +kernel
theorem dX3_runScript_1 : decode cX3_runScript 1 = .ok (.iconst 1, 1) := by decide +kernel
theorem dX3_runScript_2 : decode cX3_runScript 2 = .ok (.if_icmp .lt 8, 3) := by decide +kernel
theorem dX3_runScript_5 : decode cX3_runScript 5 = .ok (.iload_n 1, 1) := by decide +kernel
theorem dX3_runScript_6 : decode cX3_runScript 6 = .ok (.iconst 3, 1) := by decide +kernel
theorem dX3_runScript_7 : decode cX3_runScript 7 = .ok (.if_icmp .le 14, 3) := by decide +kernel
theorem dX3_runScript_10 : decode cX3_runScript 10 = .ok (.new 47, 3) := by decide +kernel
theorem dX3_runScript_13 : decode cX3_runScript 13 = .ok (.dup, 1) := by decide +kernel
theorem dX3_runScript_14 : decode cX3_runScript 14 = .ok (.ldc_w 266, 3) := by decide +kernel
theorem dX3_runScript_17 : decode cX3_runScript 17 = .ok (.invokespecial 51, 3) := by decide +kernel
theorem dX3_runScript_20 : decode cX3_runScript 20 = .ok (.athrow, 1) := by decide +kernel
theorem dX3_runScript_21 : decode cX3_runScript 21 = .ok (.lload_n 2, 1) := by decide +kernel
theorem dX3_runScript_22 : decode cX3_runScript 22 = .ok (.lconst 0, 1) := by decide +kernel
theorem dX3_runScript_23 : decode cX3_runScript 23 = .ok (.lcmp, 1) := by decide +kernel
theorem dX3_runScript_24 : decode cX3_runScript 24 = .ok (.ifCond .lt 13, 3) := by decide +kernel
theorem dX3_runScript_27 : decode cX3_runScript 27 = .ok (.lload_n 2, 1) := by decide +kernel
theorem dX3_runScript_28 : decode cX3_runScript 28 = .ok (.iload_n 1, 1) := by decide +kernel
theorem dX3_runScript_29 : decode cX3_runScript 29 = .ok (.invokestatic 268, 3) := by decide +kernel
theorem dX3_runScript_32 : decode cX3_runScript 32 = .ok (.lconst 0, 1) := by decide +kernel
theorem dX3_runScript_33 : decode cX3_runScript 33 = .ok (.lcmp, 1) := by decide +kernel
theorem dX3_runScript_34 : decode cX3_runScript 34 = .ok (.ifCond .eq 14, 3) := by decide +kernel
theorem dX3_runScript_37 : decode cX3_runScript 37 = .ok (.new 47, 3) := by decide +kernel
theorem dX3_runScript_40 : decode cX3_runScript 40 = .ok (.dup, 1) := by decide +kernel
theorem dX3_runScript_41 : decode cX3_runScript 41 = .ok (.ldc_w 272, 3) := by decide +kernel
theorem dX3_runScript_44 : decode cX3_runScript 44 = .ok (.invokespecial 51, 3) := by decide +kernel
theorem dX3_runScript_47 : decode cX3_runScript 47 = .ok (.athrow, 1) := by decide +kernel
theorem dX3_runScript_48 : decode cX3_runScript 48 = .ok (.aload_n 0, 1) := by decide +kernel
theorem dX3_runScript_49 : decode cX3_runScript 49 = .ok (.getfield 41, 3) := by decide +kernel
theorem dX3_runScript_52 : decode cX3_runScript 52 = .ok (.aload_n 0, 1) := by decide +kernel
theorem dX3_runScript_53 : decode cX3_runScript 53 = .ok (.getfield 19, 3) := by decide +kernel
theorem dX3_runScript_56 : decode cX3_runScript 56 = .ok (.invokevirtual 234, 3) := by decide +kernel
theorem dX3_runScript_59 : decode cX3_runScript 59 = .ok (.iconst 0, 1) := by decide +kernel
theorem dX3_runScript_60 : decode cX3_runScript 60 = .ok (.istore 4, 2) := by decide +kernel
theorem dX3_runScript_62 : decode cX3_runScript 62 = .ok (.iload 4, 2) := by decide +kernel
theorem dX3_runScript_64 : decode cX3_runScript 64 = .ok (.iload_n 1, 1) := by decide +kernel
theorem dX3_runScript_65 : decode cX3_runScript 65 = .ok (.if_icmp .ge 34, 3) := by decide +kernel
theorem dX3_runScript_68 : decode cX3_runScript 68 = .ok (.aload_n 0, 1) := by decide +kernel
theorem dX3_runScript_69 : decode cX3_runScript 69 = .ok (.lload_n 2, 1) := by decide +kernel
theorem dX3_runScript_70 : decode cX3_runScript 70 = .ok (.iload_n 1, 1) := by decide +kernel
theorem dX3_runScript_71 : decode cX3_runScript 71 = .ok (.iconst 1, 1) := by decide +kernel
theorem dX3_runScript_72 : decode cX3_runScript 72 = .ok (.isub, 1) := by decide +kernel
theorem dX3_runScript_73 : decode cX3_runScript 73 = .ok (.iload 4, 2) := by decide +kernel
theorem dX3_runScript_75 : decode cX3_runScript 75 = .ok (.isub, 1) := by decide +kernel
theorem dX3_runScript_76 : decode cX3_runScript 76 = .ok (.invokestatic 268, 3) := by decide +kernel
theorem dX3_runScript_79 : decode cX3_runScript 79 = .ok (.ldc2_w 274, 3) := by decide +kernel
theorem dX3_runScript_82 : decode cX3_runScript 82 = .ok (.lrem, 1) := by decide +kernel
theorem dX3_runScript_83 : decode cX3_runScript 83 = .ok (.l2i, 1) := by decide +kernel
theorem dX3_runScript_84 : decode cX3_runScript 84 = .ok (.invokevirtual 276, 3) := by decide +kernel
theorem dX3_runScript_87 : decode cX3_runScript 87 = .ok (.ifCond .ne 6, 3) := by decide +kernel
theorem dX3_runScript_90 : decode cX3_runScript 90 = .ok (.iload 4, 2) := by decide +kernel
theorem dX3_runScript_92 : decode cX3_runScript 92 = .ok (.ireturn, 1) := by decide +kernel
theorem dX3_runScript_93 : decode cX3_runScript 93 = .ok (.iinc 4 1, 3) := by decide +kernel
theorem dX3_runScript_96 : decode cX3_runScript 96 = .ok (.goto (-34), 3) := by decide +kernel
theorem dX3_runScript_99 : decode cX3_runScript 99 = .ok (.iconst (-1), 1) := by decide +kernel
theorem dX3_runScript_100 : decode cX3_runScript 100 = .ok (.ireturn, 1) := by decide +kernel
theorem dX3_withoutGroups_0 : decode cX3_withoutGroups 0 = .ok (.lload_n 0, 1) := by decide +kernel
theorem dX3_withoutGroups_1 : decode cX3_withoutGroups 1 = .ok (.lstore_n 3, 1) := by decide +kernel
theorem dX3_withoutGroups_2 : decode cX3_withoutGroups 2 = .ok (.iconst 0, 1) := by decide +kernel
theorem dX3_withoutGroups_3 : decode cX3_withoutGroups 3 = .ok (.istore 5, 2) := by decide +kernel
theorem dX3_withoutGroups_5 : decode cX3_withoutGroups 5 = .ok (.iload 5, 2) := by decide +kernel
theorem dX3_withoutGroups_7 : decode cX3_withoutGroups 7 = .ok (.iload_n 2, 1) := by decide +kernel
theorem dX3_withoutGroups_8 : decode cX3_withoutGroups 8 = .ok (.if_icmp .ge 15, 3) := by decide +kernel
theorem dX3_withoutGroups_11 : decode cX3_withoutGroups 11 = .ok (.lload_n 3, 1) := by decide +kernel
theorem dX3_withoutGroups_12 : decode cX3_withoutGroups 12 = .ok (.ldc2_w 274, 3) := by decide +kernel
theorem dX3_withoutGroups_15 : decode cX3_withoutGroups 15 = .ok (.ldiv, 1) := by decide +kernel
theorem dX3_withoutGroups_16 : decode cX3_withoutGroups 16 = .ok (.lstore_n 3, 1) := by decide +kernel
theorem dX3_withoutGroups_17 : decode cX3_withoutGroups 17 = .ok (.iinc 5 1, 3) := by decide +kernel
theorem dX3_withoutGroups_20 : decode cX3_withoutGroups 20 = .ok (.goto (-15), 3) := by decide +kernel
theorem dX3_withoutGroups_23 : decode cX3_withoutGroups 23 = .ok (.lload_n 3, 1) := by decide +kernel
theorem dX3_withoutGroups_24 : decode cX3_withoutGroups 24 = .ok (.lreturn, 1) := by decide +kernel
set_option maxRecDepth 20000 in
theorem ggX3_succeeds_X0_runTicks : GoodIn wsX3_succeeds wsX0_runTicks := goodIn_r _ [9, 10, 11, 12, 13, 14, 15, 8, 16, 17, 18, 19, 20, 21, 22, 23, 24, 25, 26, 27, 28, 29, 30, 31, 32, 33, 34, 35, 36, 37, 38, 39, 40, 41, 42, 43, 44, 45, 46, 47, 48, 49, 50, 51, 52, 53, 54, 55, 56, 57, 58, 59, 60, 61, 62, 63, 64, 65, 66, 67, 153] (by decide +kernel) (by decide +kernel)
set_option maxRecDepth 20000 in
theorem gX3_succeeds_X0_runTicks : GoodIn wsX3_succeeds (wsV RX3 107 RX0 yX0_runTicks wsX0_runTicks) := goodIn_app (goodIn_of _ (by decide +kernel)) ggX3_succeeds_X0_runTicks
set_option maxRecDepth 20000 in
theorem ggX3_succeeds_X0_addCaterpillar : GoodIn wsX3_succeeds wsX0_addCaterpillar := goodIn_r _ [71, 17, 72, 73, 74, 8, 75, 76, 11, 77, 78, 79, 48, 49, 50, 51, 153] (by decide +kernel) (by decide +kernel)
set_option maxRecDepth 20000 in
theorem gX3_succeeds_X0_addCaterpillar : GoodIn wsX3_succeeds (wsV RX3 103 RX0 yX0_addCaterpillar wsX0_addCaterpillar) := goodIn_app (goodIn_of _ (by decide +kernel)) ggX3_succeeds_X0_addCaterpillar
set_option maxRecDepth 20000 in
theorem ggX3_succeeds_X0_setRule : GoodIn wsX3_succeeds wsX0_setRule := goodIn_r _ [83, 17, 84, 11, 85, 153] (by decide +kernel) (by decide +kernel)
set_option maxRecDepth 20000 in
theorem gX3_succeeds_X0_setRule : GoodIn wsX3_succeeds (wsV RX3 114 RX0 yX0_setRule wsX0_setRule) := goodIn_app (goodIn_of _ (by decide +kernel)) ggX3_succeeds_X0_setRule
set_option maxRecDepth 20000 in
theorem ggX3_succeeds_X0_setShut : GoodIn wsX3_succeeds wsX0_setShut := goodIn_r _ [89, 17, 76, 11, 77, 90, 91, 92, 8, 93, 94, 95, 96, 97, 153] (by decide +kernel) (by decide +kernel)
set_option maxRecDepth 20000 in
theorem gX3_succeeds_X0_setShut : GoodIn wsX3_succeeds (wsV RX3 110 RX0 yX0_setShut wsX0_setShut) := goodIn_app (goodIn_of _ (by decide +kernel)) ggX3_succeeds_X0_setShut
set_option maxRecDepth 20000 in
theorem ggX3_succeeds_X0_pullOut : GoodIn wsX3_succeeds wsX0_pullOut := goodIn_r _ [101, 18, 19, 20, 8, 21, 22, 23, 24, 25, 26, 27, 28, 29, 17, 94, 95, 96, 97, 76, 11, 77, 56, 57, 58, 59, 48, 49, 50, 51, 153] (by decide +kernel) (by decide +kernel)
set_option maxRecDepth 20000 in
theorem gX3_succeeds_X0_pullOut : GoodIn wsX3_succeeds (wsV RX3 117 RX0 yX0_pullOut wsX0_pullOut) := goodIn_app (goodIn_of _ (by decide +kernel)) ggX3_succeeds_X0_pullOut
set_option maxRecDepth 20000 in
theorem ggX3_succeeds_X0_isWhere : GoodIn wsX3_succeeds wsX0_isWhere := goodIn_r _ [25, 26, 27, 28, 8, 29, 17, 153] (by decide +kernel) (by decide +kernel)
set_option maxRecDepth 20000 in
theorem gX3_succeeds_X0_isWhere : GoodIn wsX3_succeeds (wsV RX3 281 RX0 yX0_isWhere wsX0_isWhere) := goodIn_app (goodIn_of _ (by decide +kernel)) ggX3_succeeds_X0_isWhere
set_option maxRecDepth 20000 in
theorem ggX3_succeeds_X0_has : GoodIn wsX3_succeeds wsX0_has := goodIn_r _ [106, 17, 153] (by decide +kernel) (by decide +kernel)
set_option maxRecDepth 20000 in
theorem gX3_succeeds_X0_has : GoodIn wsX3_succeeds (wsV RX3 143 RX0 yX0_has wsX0_has) := goodIn_app (goodIn_of _ (by decide +kernel)) ggX3_succeeds_X0_has
set_option maxRecDepth 20000 in
theorem ggX3_succeeds_X0_takerOf : GoodIn wsX3_succeeds wsX0_takerOf := goodIn_r _ [97, 17, 76, 11, 77, 153] (by decide +kernel) (by decide +kernel)
set_option maxRecDepth 20000 in
theorem gX3_succeeds_X0_takerOf : GoodIn wsX3_succeeds (wsV RX3 166 RX0 yX0_takerOf wsX0_takerOf) := goodIn_app (goodIn_of _ (by decide +kernel)) ggX3_succeeds_X0_takerOf
set_option maxRecDepth 20000 in
theorem ggX3_succeeds_X0_lowestInRing : GoodIn wsX3_succeeds wsX0_lowestInRing := goodIn_r _ [111, 112, 113, 114, 8, 115, 116, 117, 118, 119, 34, 35, 36, 37, 17, 26, 27, 28, 29, 38, 39, 40, 41, 42, 43, 44, 45, 46, 47, 94, 95, 96, 97, 76, 11, 77, 153] (by decide +kernel) (by decide +kernel)
set_option maxRecDepth 20000 in
theorem gX3_succeeds_X0_lowestInRing : GoodIn wsX3_succeeds (wsV RX3 180 RX0 yX0_lowestInRing wsX0_lowestInRing) := goodIn_app (goodIn_of _ (by decide +kernel)) ggX3_succeeds_X0_lowestInRing
set_option maxRecDepth 20000 in
theorem ggX3_succeeds_X3_runAhead : GoodIn wsX3_succeeds wsX3_runAhead := goodIn_r _ [123, 124, 125, 126, 127, 8, 128, 17, 129, 130, 131, 132, 133, 134, 135, 136, 137, 138, 139, 140, 22, 23, 24, 25, 26, 27, 28, 29, 141, 14, 15, 16, 18, 19, 20, 21, 30, 31, 32, 33, 34, 35, 36, 37, 38, 39, 40, 41, 42, 43, 44, 45, 46, 47, 48, 49, 50, 51, 52, 53, 54, 55, 56, 57, 58, 59, 60, 61, 62, 63, 64, 65, 66, 67, 145, 146, 147, 148, 149, 150, 151, 152, 153] (by decide +kernel) (by decide +kernel)
set_option maxRecDepth 20000 in
theorem gX3_succeeds_X3_runAhead : GoodIn wsX3_succeeds (wsV RX3 230 RX3 yX3_runAhead wsX3_runAhead) := goodIn_app (goodIn_of _ (by decide +kernel)) ggX3_succeeds_X3_runAhead
set_option maxRecDepth 20000 in
theorem ggX3_succeeds_X3_isWithin : GoodIn wsX3_succeeds wsX3_isWithin := goodIn_r _ [144] (by decide +kernel) (by decide +kernel)
set_option maxRecDepth 20000 in
theorem gX3_succeeds_X3_isWithin : GoodIn wsX3_succeeds (va_wsS RX3 286 yX3_isWithin wsX3_isWithin) := goodIn_app (goodIn_of _ (by decide +kernel)) ggX3_succeeds_X3_isWithin
theorem dX3_succeeds_0 : decode cX3_succeeds 0 = .ok (.iload_n 1, 1) := by decide +kernel
theorem dX3_succeeds_1 : decode cX3_succeeds 1 = .ok (.sipush 1000, 3) := by decide +kernel
theorem dX3_succeeds_4 : decode cX3_succeeds 4 = .ok (.idiv, 1) := by decide +kernel
theorem dX3_succeeds_5 : decode cX3_succeeds 5 = .ok (.bipush 100, 2) := by decide +kernel
theorem dX3_succeeds_7 : decode cX3_succeeds 7 = .ok (.irem, 1) := by decide +kernel
theorem dX3_succeeds_8 : decode cX3_succeeds 8 = .ok (.istore_n 2, 1) := by decide +kernel
theorem dX3_succeeds_9 : decode cX3_succeeds 9 = .ok (.iload_n 1, 1) := by decide +kernel
theorem dX3_succeeds_10 : decode cX3_succeeds 10 = .ok (.bipush 10, 2) := by decide +kernel
theorem dX3_succeeds_12 : decode cX3_succeeds 12 = .ok (.idiv, 1) := by decide +kernel
theorem dX3_succeeds_13 : decode cX3_succeeds 13 = .ok (.bipush 100, 2) := by decide +kernel
theorem dX3_succeeds_15 : decode cX3_succeeds 15 = .ok (.irem, 1) := by decide +kernel
theorem dX3_succeeds_16 : decode cX3_succeeds 16 = .ok (.istore_n 3, 1) := by decide +kernel
theorem dX3_succeeds_17 : decode cX3_succeeds 17 = .ok (.iload_n 1, 1) := by decide +kernel
theorem dX3_succeeds_18 : decode cX3_succeeds 18 = .ok (.bipush 10, 2) := by decide +kernel
theorem dX3_succeeds_20 : decode cX3_succeeds 20 = .ok (.irem, 1) := by decide +kernel
theorem dX3_succeeds_21 : decode cX3_succeeds 21 = .ok (.istore 4, 2) := by decide +kernel
theorem dX3_succeeds_23 : decode cX3_succeeds 23 = .ok (.iload_n 1, 1) := by decide +kernel
theorem dX3_succeeds_24 : decode cX3_succeeds 24 = .ok (.ldc_w 279, 3) := by decide +kernel
theorem dX3_succeeds_27 : decode cX3_succeeds 27 = .ok (.idiv, 1) := by decide +kernel
theorem dX3_succeeds_28 : decode cX3_succeeds 28 = .ok (.tableswitch 351 1 9 #[52, 82, 94, 122, 160, 188, 228, 263, 315], 52) := by decide +kernel
theorem dX3_succeeds_80 : decode cX3_succeeds 80 = .ok (.iload_n 1, 1) := by decide +kernel
theorem dX3_succeeds_81 : decode cX3_succeeds 81 = .ok (.bipush 100, 2) := by decide +kernel
theorem dX3_succeeds_83 : decode cX3_succeeds 83 = .ok (.idiv, 1) := by decide +kernel
theorem dX3_succeeds_84 : decode cX3_succeeds 84 = .ok (.sipush 1000, 3) := by decide +kernel
theorem dX3_succeeds_87 : decode cX3_succeeds 87 = .ok (.if_icmp .ne 21, 3) := by decide +kernel
theorem dX3_succeeds_90 : decode cX3_succeeds 90 = .ok (.aload_n 0, 1) := by decide +kernel
theorem dX3_succeeds_91 : decode cX3_succeeds 91 = .ok (.getfield 41, 3) := by decide +kernel
theorem dX3_succeeds_94 : decode cX3_succeeds 94 = .ok (.iload_n 1, 1) := by decide +kernel
theorem dX3_succeeds_95 : decode cX3_succeeds 95 = .ok (.bipush 100, 2) := by decide +kernel
theorem dX3_succeeds_97 : decode cX3_succeeds 97 = .ok (.irem, 1) := by decide +kernel
theorem dX3_succeeds_98 : decode cX3_succeeds 98 = .ok (.invokevirtual 107, 3) := by decide +kernel
theorem dX3_succeeds_101 : decode cX3_succeeds 101 = .ok (.ifCond .eq 7, 3) := by decide +kernel
theorem dX3_succeeds_104 : decode cX3_succeeds 104 = .ok (.iconst 1, 1) := by decide +kernel
theorem dX3_succeeds_105 : decode cX3_succeeds 105 = .ok (.goto 4, 3) := by decide +kernel
theorem dX3_succeeds_108 : decode cX3_succeeds 108 = .ok (.iconst 0, 1) := by decide +kernel
theorem dX3_succeeds_109 : decode cX3_succeeds 109 = .ok (.ireturn, 1) := by decide +kernel
theorem dX3_succeeds_110 : decode cX3_succeeds 110 = .ok (.aload_n 0, 1) := by decide +kernel
theorem dX3_succeeds_111 : decode cX3_succeeds 111 = .ok (.getfield 41, 3) := by decide +kernel
theorem dX3_succeeds_114 : decode cX3_succeeds 114 = .ok (.iload_n 2, 1) := by decide +kernel
theorem dX3_succeeds_115 : decode cX3_succeeds 115 = .ok (.iload_n 3, 1) := by decide +kernel
theorem dX3_succeeds_116 : decode cX3_succeeds 116 = .ok (.iload 4, 2) := by decide +kernel
theorem dX3_succeeds_118 : decode cX3_succeeds 118 = .ok (.invokevirtual 103, 3) := by decide +kernel
theorem dX3_succeeds_121 : decode cX3_succeeds 121 = .ok (.ireturn, 1) := by decide +kernel
theorem dX3_succeeds_122 : decode cX3_succeeds 122 = .ok (.iload_n 1, 1) := by decide +kernel
theorem dX3_succeeds_123 : decode cX3_succeeds 123 = .ok (.bipush 10, 2) := by decide +kernel
theorem dX3_succeeds_125 : decode cX3_succeeds 125 = .ok (.idiv, 1) := by decide +kernel
theorem dX3_succeeds_126 : decode cX3_succeeds 126 = .ok (.sipush 30000, 3) := by decide +kernel
theorem dX3_succeeds_129 : decode cX3_succeeds 129 = .ok (.if_icmp .ne 19, 3) := by decide +kernel
theorem dX3_succeeds_132 : decode cX3_succeeds 132 = .ok (.aload_n 0, 1) := by decide +kernel
theorem dX3_succeeds_133 : decode cX3_succeeds 133 = .ok (.getfield 41, 3) := by decide +kernel
theorem dX3_succeeds_136 : decode cX3_succeeds 136 = .ok (.iload 4, 2) := by decide +kernel
theorem dX3_succeeds_138 : decode cX3_succeeds 138 = .ok (.invokevirtual 114, 3) := by decide +kernel
theorem dX3_succeeds_141 : decode cX3_succeeds 141 = .ok (.ifCond .eq 7, 3) := by decide +kernel
theorem dX3_succeeds_144 : decode cX3_succeeds 144 = .ok (.iconst 1, 1) := by decide +kernel
theorem dX3_succeeds_145 : decode cX3_succeeds 145 = .ok (.goto 4, 3) := by decide +kernel
theorem dX3_succeeds_148 : decode cX3_succeeds 148 = .ok (.iconst 0, 1) := by decide +kernel
theorem dX3_succeeds_149 : decode cX3_succeeds 149 = .ok (.ireturn, 1) := by decide +kernel
theorem dX3_succeeds_150 : decode cX3_succeeds 150 = .ok (.iload_n 3, 1) := by decide +kernel
theorem dX3_succeeds_151 : decode cX3_succeeds 151 = .ok (.ifCond .ne 35, 3) := by decide +kernel
theorem dX3_succeeds_154 : decode cX3_succeeds 154 = .ok (.iload 4, 2) := by decide +kernel
theorem dX3_succeeds_156 : decode cX3_succeeds 156 = .ok (.iconst 1, 1) := by decide +kernel
theorem dX3_succeeds_157 : decode cX3_succeeds 157 = .ok (.if_icmp .gt 29, 3) := by decide +kernel
theorem dX3_succeeds_160 : decode cX3_succeeds 160 = .ok (.aload_n 0, 1) := by decide +kernel
theorem dX3_succeeds_161 : decode cX3_succeeds 161 = .ok (.getfield 41, 3) := by decide +kernel
theorem dX3_succeeds_164 : decode cX3_succeeds 164 = .ok (.iload_n 2, 1) := by decide +kernel
theorem dX3_succeeds_165 : decode cX3_succeeds 165 = .ok (.iload 4, 2) := by decide +kernel
theorem dX3_succeeds_167 : decode cX3_succeeds 167 = .ok (.iconst 1, 1) := by decide +kernel
theorem dX3_succeeds_168 : decode cX3_succeeds 168 = .ok (.if_icmp .ne 7, 3) := by decide +kernel
theorem dX3_succeeds_171 : decode cX3_succeeds 171 = .ok (.iconst 1, 1) := by decide +kernel
theorem dX3_succeeds_172 : decode cX3_succeeds 172 = .ok (.goto 4, 3) := by decide +kernel
theorem dX3_succeeds_175 : decode cX3_succeeds 175 = .ok (.iconst 0, 1) := by decide +kernel
theorem dX3_succeeds_176 : decode cX3_succeeds 176 = .ok (.invokevirtual 110, 3) := by decide +kernel
theorem dX3_succeeds_179 : decode cX3_succeeds 179 = .ok (.ifCond .eq 7, 3) := by decide +kernel
theorem dX3_succeeds_182 : decode cX3_succeeds 182 = .ok (.iconst 1, 1) := by decide +kernel
theorem dX3_succeeds_183 : decode cX3_succeeds 183 = .ok (.goto 4, 3) := by decide +kernel
theorem dX3_succeeds_186 : decode cX3_succeeds 186 = .ok (.iconst 0, 1) := by decide +kernel
theorem dX3_succeeds_187 : decode cX3_succeeds 187 = .ok (.ireturn, 1) := by decide +kernel
theorem dX3_succeeds_188 : decode cX3_succeeds 188 = .ok (.iload_n 1, 1) := by decide +kernel
theorem dX3_succeeds_189 : decode cX3_succeeds 189 = .ok (.bipush 10, 2) := by decide +kernel
theorem dX3_succeeds_191 : decode cX3_succeeds 191 = .ok (.idiv, 1) := by decide +kernel
theorem dX3_succeeds_192 : decode cX3_succeeds 192 = .ok (.ldc_w 280, 3) := by decide +kernel
theorem dX3_succeeds_195 : decode cX3_succeeds 195 = .ok (.if_icmp .ne 19, 3) := by decide +kernel
theorem dX3_succeeds_198 : decode cX3_succeeds 198 = .ok (.aload_n 0, 1) := by decide +kernel
theorem dX3_succeeds_199 : decode cX3_succeeds 199 = .ok (.getfield 41, 3) := by decide +kernel
theorem dX3_succeeds_202 : decode cX3_succeeds 202 = .ok (.iload 4, 2) := by decide +kernel
theorem dX3_succeeds_204 : decode cX3_succeeds 204 = .ok (.invokevirtual 117, 3) := by decide +kernel
theorem dX3_succeeds_207 : decode cX3_succeeds 207 = .ok (.ifCond .eq 7, 3) := by decide +kernel
theorem dX3_succeeds_210 : decode cX3_succeeds 210 = .ok (.iconst 1, 1) := by decide +kernel
theorem dX3_succeeds_211 : decode cX3_succeeds 211 = .ok (.goto 4, 3) := by decide +kernel
theorem dX3_succeeds_214 : decode cX3_succeeds 214 = .ok (.iconst 0, 1) := by decide +kernel
theorem dX3_succeeds_215 : decode cX3_succeeds 215 = .ok (.ireturn, 1) := by decide +kernel
theorem dX3_succeeds_216 : decode cX3_succeeds 216 = .ok (.iload_n 1, 1) := by decide +kernel
theorem dX3_succeeds_217 : decode cX3_succeeds 217 = .ok (.sipush 10000, 3) := by decide +kernel
theorem dX3_succeeds_220 : decode cX3_succeeds 220 = .ok (.idiv, 1) := by decide +kernel
theorem dX3_succeeds_221 : decode cX3_succeeds 221 = .ok (.bipush 60, 2) := by decide +kernel
theorem dX3_succeeds_223 : decode cX3_succeeds 223 = .ok (.if_icmp .ne 31, 3) := by decide +kernel
theorem dX3_succeeds_226 : decode cX3_succeeds 226 = .ok (.iload_n 3, 1) := by decide +kernel
theorem dX3_succeeds_227 : decode cX3_succeeds 227 = .ok (.ifCond .ne 27, 3) := by decide +kernel
theorem dX3_succeeds_230 : decode cX3_succeeds 230 = .ok (.aload_n 0, 1) := by decide +kernel
theorem dX3_succeeds_231 : decode cX3_succeeds 231 = .ok (.getfield 41, 3) := by decide +kernel
theorem dX3_succeeds_234 : decode cX3_succeeds 234 = .ok (.iload_n 1, 1) := by decide +kernel
theorem dX3_succeeds_235 : decode cX3_succeeds 235 = .ok (.sipush 1000, 3) := by decide +kernel
theorem dX3_succeeds_238 : decode cX3_succeeds 238 = .ok (.idiv, 1) := by decide +kernel
theorem dX3_succeeds_239 : decode cX3_succeeds 239 = .ok (.bipush 10, 2) := by decide +kernel
theorem dX3_succeeds_241 : decode cX3_succeeds 241 = .ok (.irem, 1) := by decide +kernel
theorem dX3_succeeds_242 : decode cX3_succeeds 242 = .ok (.iload 4, 2) := by decide +kernel
theorem dX3_succeeds_244 : decode cX3_succeeds 244 = .ok (.invokevirtual 281, 3) := by decide +kernel
theorem dX3_succeeds_247 : decode cX3_succeeds 247 = .ok (.ifCond .eq 7, 3) := by decide +kernel
theorem dX3_succeeds_250 : decode cX3_succeeds 250 = .ok (.iconst 1, 1) := by decide +kernel
theorem dX3_succeeds_251 : decode cX3_succeeds 251 = .ok (.goto 4, 3) := by decide +kernel
theorem dX3_succeeds_254 : decode cX3_succeeds 254 = .ok (.iconst 0, 1) := by decide +kernel
theorem dX3_succeeds_255 : decode cX3_succeeds 255 = .ok (.ireturn, 1) := by decide +kernel
theorem dX3_succeeds_256 : decode cX3_succeeds 256 = .ok (.iload_n 3, 1) := by decide +kernel
theorem dX3_succeeds_257 : decode cX3_succeeds 257 = .ok (.ifCond .ne 32, 3) := by decide +kernel
theorem dX3_succeeds_260 : decode cX3_succeeds 260 = .ok (.aload_n 0, 1) := by decide +kernel
theorem dX3_succeeds_261 : decode cX3_succeeds 261 = .ok (.getfield 41, 3) := by decide +kernel
theorem dX3_succeeds_264 : decode cX3_succeeds 264 = .ok (.iload 4, 2) := by decide +kernel
theorem dX3_succeeds_266 : decode cX3_succeeds 266 = .ok (.invokevirtual 143, 3) := by decide +kernel
theorem dX3_succeeds_269 : decode cX3_succeeds 269 = .ok (.ifCond .eq 20, 3) := by decide +kernel
theorem dX3_succeeds_272 : decode cX3_succeeds 272 = .ok (.aload_n 0, 1) := by decide +kernel
theorem dX3_succeeds_273 : decode cX3_succeeds 273 = .ok (.getfield 41, 3) := by decide +kernel
theorem dX3_succeeds_276 : decode cX3_succeeds 276 = .ok (.iload_n 2, 1) := by decide +kernel
theorem dX3_succeeds_277 : decode cX3_succeeds 277 = .ok (.invokevirtual 166, 3) := by decide +kernel
theorem dX3_succeeds_280 : decode cX3_succeeds 280 = .ok (.iload 4, 2) := by decide +kernel
theorem dX3_succeeds_282 : decode cX3_succeeds 282 = .ok (.if_icmp .ne 7, 3) := by decide +kernel
theorem dX3_succeeds_285 : decode cX3_succeeds 285 = .ok (.iconst 1, 1) := by decide +kernel
theorem dX3_succeeds_286 : decode cX3_succeeds 286 = .ok (.goto 4, 3) := by decide +kernel
theorem dX3_succeeds_289 : decode cX3_succeeds 289 = .ok (.iconst 0, 1) := by decide +kernel
theorem dX3_succeeds_290 : decode cX3_succeeds 290 = .ok (.ireturn, 1) := by decide +kernel
theorem dX3_succeeds_291 : decode cX3_succeeds 291 = .ok (.iload_n 1, 1) := by decide +kernel
theorem dX3_succeeds_292 : decode cX3_succeeds 292 = .ok (.bipush 10, 2) := by decide +kernel
theorem dX3_succeeds_294 : decode cX3_succeeds 294 = .ok (.idiv, 1) := by decide +kernel
theorem dX3_succeeds_295 : decode cX3_succeeds 295 = .ok (.ldc_w 285, 3) := by decide +kernel
theorem dX3_succeeds_298 : decode cX3_succeeds 298 = .ok (.if_icmp .ne 43, 3) := by decide +kernel
theorem dX3_succeeds_301 : decode cX3_succeeds 301 = .ok (.iload 4, 2) := by decide +kernel
theorem dX3_succeeds_303 : decode cX3_succeeds 303 = .ok (.iconst 1, 1) := by decide +kernel
theorem dX3_succeeds_304 : decode cX3_succeeds 304 = .ok (.if_icmp .gt 37, 3) := by decide +kernel
theorem dX3_succeeds_307 : decode cX3_succeeds 307 = .ok (.aload_n 0, 1) := by decide +kernel
theorem dX3_succeeds_308 : decode cX3_succeeds 308 = .ok (.getfield 41, 3) := by decide +kernel
theorem dX3_succeeds_311 : decode cX3_succeeds 311 = .ok (.invokevirtual 180, 3) := by decide +kernel
theorem dX3_succeeds_314 : decode cX3_succeeds 314 = .ok (.iconst (-1), 1) := by decide +kernel
theorem dX3_succeeds_315 : decode cX3_succeeds 315 = .ok (.if_icmp .eq 7, 3) := by decide +kernel
theorem dX3_succeeds_318 : decode cX3_succeeds 318 = .ok (.iconst 1, 1) := by decide +kernel
theorem dX3_succeeds_319 : decode cX3_succeeds 319 = .ok (.goto 4, 3) := by decide +kernel
theorem dX3_succeeds_322 : decode cX3_succeeds 322 = .ok (.iconst 0, 1) := by decide +kernel
theorem dX3_succeeds_323 : decode cX3_succeeds 323 = .ok (.iload 4, 2) := by decide +kernel
theorem dX3_succeeds_325 : decode cX3_succeeds 325 = .ok (.iconst 1, 1) := by decide +kernel
theorem dX3_succeeds_326 : decode cX3_succeeds 326 = .ok (.if_icmp .ne 7, 3) := by decide +kernel
theorem dX3_succeeds_329 : decode cX3_succeeds 329 = .ok (.iconst 1, 1) := by decide +kernel
theorem dX3_succeeds_330 : decode cX3_succeeds 330 = .ok (.goto 4, 3) := by decide +kernel
theorem dX3_succeeds_333 : decode cX3_succeeds 333 = .ok (.iconst 0, 1) := by decide +kernel
theorem dX3_succeeds_334 : decode cX3_succeeds 334 = .ok (.if_icmp .ne 7, 3) := by decide +kernel
theorem dX3_succeeds_337 : decode cX3_succeeds 337 = .ok (.iconst 1, 1) := by decide +kernel
theorem dX3_succeeds_338 : decode cX3_succeeds 338 = .ok (.goto 4, 3) := by decide +kernel
theorem dX3_succeeds_341 : decode cX3_succeeds 341 = .ok (.iconst 0, 1) := by decide +kernel
theorem dX3_succeeds_342 : decode cX3_succeeds 342 = .ok (.ireturn, 1) := by decide +kernel
theorem dX3_succeeds_343 : decode cX3_succeeds 343 = .ok (.iload_n 1, 1) := by decide +kernel
theorem dX3_succeeds_344 : decode cX3_succeeds 344 = .ok (.sipush 1000, 3) := by decide +kernel
theorem dX3_succeeds_347 : decode cX3_succeeds 347 = .ok (.idiv, 1) := by decide +kernel
theorem dX3_succeeds_348 : decode cX3_succeeds 348 = .ok (.sipush 900, 3) := by decide +kernel
theorem dX3_succeeds_351 : decode cX3_succeeds 351 = .ok (.if_icmp .ne 26, 3) := by decide +kernel
theorem dX3_succeeds_354 : decode cX3_succeeds 354 = .ok (.aload_n 0, 1) := by decide +kernel
theorem dX3_succeeds_355 : decode cX3_succeeds 355 = .ok (.aload_n 0, 1) := by decide +kernel
theorem dX3_succeeds_356 : decode cX3_succeeds 356 = .ok (.getfield 41, 3) := by decide +kernel
theorem dX3_succeeds_359 : decode cX3_succeeds 359 = .ok (.invokevirtual 230, 3) := by decide +kernel
theorem dX3_succeeds_362 : decode cX3_succeeds 362 = .ok (.iload_n 1, 1) := by decide +kernel
theorem dX3_succeeds_363 : decode cX3_succeeds 363 = .ok (.sipush 1000, 3) := by decide +kernel
theorem dX3_succeeds_366 : decode cX3_succeeds 366 = .ok (.irem, 1) := by decide +kernel
theorem dX3_succeeds_367 : decode cX3_succeeds 367 = .ok (.invokestatic 286, 3) := by decide +kernel
theorem dX3_succeeds_370 : decode cX3_succeeds 370 = .ok (.ifCond .eq 7, 3) := by decide +kernel
theorem dX3_succeeds_373 : decode cX3_succeeds 373 = .ok (.iconst 1, 1) := by decide +kernel
theorem dX3_succeeds_374 : decode cX3_succeeds 374 = .ok (.goto 4, 3) := by decide +kernel
theorem dX3_succeeds_377 : decode cX3_succeeds 377 = .ok (.iconst 0, 1) := by decide +kernel
theorem dX3_succeeds_378 : decode cX3_succeeds 378 = .ok (.ireturn, 1) := by decide +kernel
theorem dX3_succeeds_379 : decode cX3_succeeds 379 = .ok (.iconst 0, 1) := by decide +kernel
theorem dX3_succeeds_380 : decode cX3_succeeds 380 = .ok (.ireturn, 1) := by decide +kernel
theorem dX3_isWithin_0 : decode cX3_isWithin 0 = .ok (.iload_n 0, 1) := by decide +kernel
theorem dX3_isWithin_1 : decode cX3_isWithin 1 = .ok (.iconst (-1), 1) := by decide +kernel
theorem dX3_isWithin_2 : decode cX3_isWithin 2 = .ok (.if_icmp .eq 12, 3) := by decide +kernel
theorem dX3_isWithin_5 : decode cX3_isWithin 5 = .ok (.iload_n 0, 1) := by decide +kernel
theorem dX3_isWithin_6 : decode cX3_isWithin 6 = .ok (.iload_n 1, 1) := by decide +kernel
theorem dX3_isWithin_7 : decode cX3_isWithin 7 = .ok (.if_icmp .gt 7, 3) := by decide +kernel
theorem dX3_isWithin_10 : decode cX3_isWithin 10 = .ok (.iconst 1, 1) := by decide +kernel
theorem dX3_isWithin_11 : decode cX3_isWithin 11 = .ok (.goto 4, 3) := by decide +kernel
theorem dX3_isWithin_14 : decode cX3_isWithin 14 = .ok (.iconst 0, 1) := by decide +kernel
theorem dX3_isWithin_15 : decode cX3_isWithin 15 = .ok (.ireturn, 1) := by decide +kernel
set_option maxRecDepth 20000 in
theorem ggX3_simulate_X0_copyFrom : GoodIn wsX3_simulate wsX0_copyFrom := goodIn_r _ [15, 16, 17, 18, 19, 20, 136] (by decide +kernel) (by decide +kernel)
set_option maxRecDepth 20000 in
theorem gX3_simulate_X0_copyFrom : GoodIn wsX3_simulate (wsV RX3 234 RX0 yX0_copyFrom wsX0_copyFrom) := goodIn_app (goodIn_of _ (by decide +kernel)) ggX3_simulate_X0_copyFrom
set_option maxRecDepth 20000 in
theorem ggX3_simulate_X3_takeTurn : GoodIn wsX3_simulate wsX3_takeTurn := goodIn_r _ [25, 3, 26, 27, 28, 14, 29, 16, 30, 31, 32, 33, 34, 24, 35, 36, 37, 38, 39, 40, 41, 42, 43, 44, 45, 46, 47, 48, 49, 50, 51, 52, 53, 54, 55, 56, 57, 58, 59, 60, 61, 62, 63, 64, 65, 66, 67, 68, 69, 70, 71, 72, 73, 74, 75, 76, 77, 78, 79, 80, 81, 82, 83, 84, 85, 86, 87, 88, 89, 90, 91, 92, 93, 94, 95, 96, 97, 98, 99, 100, 101, 102, 103, 104, 105, 106, 107, 108, 109, 110, 111, 112, 113, 114, 115, 116, 117, 118, 119, 128, 129, 130, 131, 132, 133, 134, 135, 136] (by decide +kernel) (by decide +kernel)
set_option maxRecDepth 20000 in
theorem gX3_simulate_X3_takeTurn : GoodIn wsX3_simulate (wsV RX3 295 RX3 yX3_takeTurn wsX3_takeTurn) := goodIn_app (goodIn_of _ (by decide +kernel)) ggX3_simulate_X3_takeTurn
set_option maxRecDepth 20000 in
theorem ggX3_simulate_X0_waitsSoFar : GoodIn wsX3_simulate wsX0_waitsSoFar := goodIn_r _ [123, 16, 136] (by decide +kernel) (by decide +kernel)
set_option maxRecDepth 20000 in
theorem gX3_simulate_X0_waitsSoFar : GoodIn wsX3_simulate (wsV RX3 138 RX0 yX0_waitsSoFar wsX0_waitsSoFar) := goodIn_app (goodIn_of _ (by decide +kernel)) ggX3_simulate_X0_waitsSoFar
set_option maxRecDepth 20000 in
theorem ggX3_simulate_X0_countWhere : GoodIn wsX3_simulate wsX0_countWhere := goodIn_r _ [127, 68, 69, 70, 14, 71, 72, 73, 74, 75, 16, 136] (by decide +kernel) (by decide +kernel)
set_option maxRecDepth 20000 in
theorem gX3_simulate_X0_countWhere : GoodIn wsX3_simulate (wsV RX3 123 RX0 yX0_countWhere wsX0_countWhere) := goodIn_app (goodIn_of _ (by decide +kernel)) ggX3_simulate_X0_countWhere
theorem dX3_simulate_0 : decode cX3_simulate 0 = .ok (.iload_n 3, 1) := by decide +kernel
theorem dX3_simulate_1 : decode cX3_simulate 1 = .ok (.iconst 1, 1) := by decide +kernel
theorem dX3_simulate_2 : decode cX3_simulate 2 = .ok (.if_icmp .lt 9, 3) := by decide +kernel
theorem dX3_simulate_5 : decode cX3_simulate 5 = .ok (.iload_n 3, 1) := by decide +kernel
theorem dX3_simulate_6 : decode cX3_simulate 6 = .ok (.bipush 60, 2) := by decide +kernel
theorem dX3_simulate_8 : decode cX3_simulate 8 = .ok (.if_icmp .le 14, 3) := by decide +kernel
theorem dX3_simulate_11 : decode cX3_simulate 11 = .ok (.new 47, 3) := by decide +kernel
theorem dX3_simulate_14 : decode cX3_simulate 14 = .ok (.dup, 1) := by decide +kernel
theorem dX3_simulate_15 : decode cX3_simulate 15 = .ok (.ldc_w 289, 3) := by decide +kernel
theorem dX3_simulate_18 : decode cX3_simulate 18 = .ok (.invokespecial 51, 3) := by decide +kernel
theorem dX3_simulate_21 : decode cX3_simulate 21 = .ok (.athrow, 1) := by decide +kernel
theorem dX3_simulate_22 : decode cX3_simulate 22 = .ok (.aload_n 0, 1) := by decide +kernel
theorem dX3_simulate_23 : decode cX3_simulate 23 = .ok (.getfield 41, 3) := by decide +kernel
theorem dX3_simulate_26 : decode cX3_simulate 26 = .ok (.aload_n 0, 1) := by decide +kernel
theorem dX3_simulate_27 : decode cX3_simulate 27 = .ok (.getfield 19, 3) := by decide +kernel
theorem dX3_simulate_30 : decode cX3_simulate 30 = .ok (.invokevirtual 234, 3) := by decide +kernel
theorem dX3_simulate_33 : decode cX3_simulate 33 = .ok (.lload_n 1, 1) := by decide +kernel
theorem dX3_simulate_34 : decode cX3_simulate 34 = .ok (.lstore 4, 2) := by decide +kernel
theorem dX3_simulate_36 : decode cX3_simulate 36 = .ok (.iconst 0, 1) := by decide +kernel
theorem dX3_simulate_37 : decode cX3_simulate 37 = .ok (.istore 6, 2) := by decide +kernel
theorem dX3_simulate_39 : decode cX3_simulate 39 = .ok (.iload 6, 2) := by decide +kernel
theorem dX3_simulate_41 : decode cX3_simulate 41 = .ok (.iload_n 3, 1) := by decide +kernel
theorem dX3_simulate_42 : decode cX3_simulate 42 = .ok (.if_icmp .ge 31, 3) := by decide +kernel
theorem dX3_simulate_45 : decode cX3_simulate 45 = .ok (.lload 4, 2) := by decide +kernel
theorem dX3_simulate_47 : decode cX3_simulate 47 = .ok (.ldc2_w 291, 3) := by decide +kernel
theorem dX3_simulate_50 : decode cX3_simulate 50 = .ok (.lmul, 1) := by decide +kernel
theorem dX3_simulate_51 : decode cX3_simulate 51 = .ok (.ldc2_w 293, 3) := by decide +kernel
theorem dX3_simulate_54 : decode cX3_simulate 54 = .ok (.ladd, 1) := by decide +kernel
theorem dX3_simulate_55 : decode cX3_simulate 55 = .ok (.lstore 4, 2) := by decide +kernel
theorem dX3_simulate_57 : decode cX3_simulate 57 = .ok (.aload_n 0, 1) := by decide +kernel
theorem dX3_simulate_58 : decode cX3_simulate 58 = .ok (.lload 4, 2) := by decide +kernel
theorem dX3_simulate_60 : decode cX3_simulate 60 = .ok (.bipush 33, 2) := by decide +kernel
theorem dX3_simulate_62 : decode cX3_simulate 62 = .ok (.lushr, 1) := by decide +kernel
theorem dX3_simulate_63 : decode cX3_simulate 63 = .ok (.l2i, 1) := by decide +kernel
theorem dX3_simulate_64 : decode cX3_simulate 64 = .ok (.invokevirtual 295, 3) := by decide +kernel
theorem dX3_simulate_67 : decode cX3_simulate 67 = .ok (.iinc 6 1, 3) := by decide +kernel
theorem dX3_simulate_70 : decode cX3_simulate 70 = .ok (.goto (-31), 3) := by decide +kernel
theorem dX3_simulate_73 : decode cX3_simulate 73 = .ok (.aload_n 0, 1) := by decide +kernel
theorem dX3_simulate_74 : decode cX3_simulate 74 = .ok (.getfield 41, 3) := by decide +kernel
theorem dX3_simulate_77 : decode cX3_simulate 77 = .ok (.invokevirtual 138, 3) := by decide +kernel
theorem dX3_simulate_80 : decode cX3_simulate 80 = .ok (.aload_n 0, 1) := by decide +kernel
theorem dX3_simulate_81 : decode cX3_simulate 81 = .ok (.getfield 19, 3) := by decide +kernel
theorem dX3_simulate_84 : decode cX3_simulate 84 = .ok (.invokevirtual 138, 3) := by decide +kernel
theorem dX3_simulate_87 : decode cX3_simulate 87 = .ok (.isub, 1) := by decide +kernel
theorem dX3_simulate_88 : decode cX3_simulate 88 = .ok (.istore 6, 2) := by decide +kernel
theorem dX3_simulate_90 : decode cX3_simulate 90 = .ok (.sipush 1000, 3) := by decide +kernel
theorem dX3_simulate_93 : decode cX3_simulate 93 = .ok (.aload_n 0, 1) := by decide +kernel
theorem dX3_simulate_94 : decode cX3_simulate 94 = .ok (.getfield 41, 3) := by decide +kernel
theorem dX3_simulate_97 : decode cX3_simulate 97 = .ok (.iconst 2, 1) := by decide +kernel
theorem dX3_simulate_98 : decode cX3_simulate 98 = .ok (.invokevirtual 123, 3) := by decide +kernel
theorem dX3_simulate_101 : decode cX3_simulate 101 = .ok (.imul, 1) := by decide +kernel
theorem dX3_simulate_102 : decode cX3_simulate 102 = .ok (.iload 6, 2) := by decide +kernel
theorem dX3_simulate_104 : decode cX3_simulate 104 = .ok (.sipush 999, 3) := by decide +kernel
theorem dX3_simulate_107 : decode cX3_simulate 107 = .ok (.invokestatic 298, 3) := by decide +kernel
theorem dX3_simulate_110 : decode cX3_simulate 110 = .ok (.iadd, 1) := by decide +kernel
theorem dX3_simulate_111 : decode cX3_simulate 111 = .ok (.ireturn, 1) := by decide +kernel
set_option maxRecDepth 20000 in
theorem ggX3_takeTurn_X0_addCaterpillar : GoodIn wsX3_takeTurn wsX0_addCaterpillar := goodIn_r _ [6, 7, 8, 9, 10, 5, 11, 12, 13, 14, 15, 16, 17, 18, 19, 20, 107] (by decide +kernel) (by decide +kernel)
set_option maxRecDepth 20000 in
theorem gX3_takeTurn_X0_addCaterpillar : GoodIn wsX3_takeTurn (wsV RX3 103 RX0 yX0_addCaterpillar wsX0_addCaterpillar) := goodIn_app (goodIn_of _ (by decide +kernel)) ggX3_takeTurn_X0_addCaterpillar
set_option maxRecDepth 20000 in
theorem ggX3_takeTurn_X0_setRule : GoodIn wsX3_takeTurn wsX0_setRule := goodIn_r _ [24, 7, 25, 13, 26, 107] (by decide +kernel) (by decide +kernel)
set_option maxRecDepth 20000 in
theorem gX3_takeTurn_X0_setRule : GoodIn wsX3_takeTurn (wsV RX3 114 RX0 yX0_setRule wsX0_setRule) := goodIn_app (goodIn_of _ (by decide +kernel)) ggX3_takeTurn_X0_setRule
set_option maxRecDepth 20000 in
theorem ggX3_takeTurn_X0_setShut : GoodIn wsX3_takeTurn wsX0_setShut := goodIn_r _ [30, 7, 12, 13, 14, 31, 32, 33, 5, 34, 35, 36, 37, 38, 107] (by decide +kernel) (by decide +kernel)
set_option maxRecDepth 20000 in
theorem gX3_takeTurn_X0_setShut : GoodIn wsX3_takeTurn (wsV RX3 110 RX0 yX0_setShut wsX0_setShut) := goodIn_app (goodIn_of _ (by decide +kernel)) ggX3_takeTurn_X0_setShut
set_option maxRecDepth 20000 in
theorem ggX3_takeTurn_X0_pullOut : GoodIn wsX3_takeTurn wsX0_pullOut := goodIn_r _ [42, 43, 44, 45, 5, 46, 47, 48, 49, 50, 51, 52, 53, 54, 7, 35, 36, 37, 38, 12, 13, 14, 55, 56, 57, 58, 17, 18, 19, 20, 107] (by decide +kernel) (by decide +kernel)
set_option maxRecDepth 20000 in
theorem gX3_takeTurn_X0_pullOut : GoodIn wsX3_takeTurn (wsV RX3 117 RX0 yX0_pullOut wsX0_pullOut) := goodIn_app (goodIn_of _ (by decide +kernel)) ggX3_takeTurn_X0_pullOut
set_option maxRecDepth 20000 in
theorem ggX3_takeTurn_X0_runTicks : GoodIn wsX3_takeTurn wsX0_runTicks := goodIn_r _ [62, 63, 13, 64, 65, 66, 67, 5, 68, 7, 43, 44, 45, 46, 47, 48, 49, 50, 51, 52, 53, 54, 69, 70, 71, 72, 73, 74, 75, 76, 77, 78, 79, 80, 81, 82, 83, 84, 85, 86, 17, 18, 19, 20, 87, 88, 89, 90, 55, 56, 57, 58, 91, 92, 93, 94, 95, 96, 97, 98, 107] (by decide +kernel) (by decide +kernel)
set_option maxRecDepth 20000 in
theorem gX3_takeTurn_X0_runTicks : GoodIn wsX3_takeTurn (wsV RX3 107 RX0 yX0_runTicks wsX0_runTicks) := goodIn_app (goodIn_of _ (by decide +kernel)) ggX3_takeTurn_X0_runTicks
theorem dX3_takeTurn_0 : decode cX3_takeTurn 0 = .ok (.iload_n 1, 1) := by decide +kernel
theorem dX3_takeTurn_1 : decode cX3_takeTurn 1 = .ok (.bipush 8, 2) := by decide +kernel
theorem dX3_takeTurn_3 : decode cX3_takeTurn 3 = .ok (.idiv, 1) := by decide +kernel
theorem dX3_takeTurn_4 : decode cX3_takeTurn 4 = .ok (.istore_n 2, 1) := by decide +kernel
theorem dX3_takeTurn_5 : decode cX3_takeTurn 5 = .ok (.iload_n 1, 1) := by decide +kernel
theorem dX3_takeTurn_6 : decode cX3_takeTurn 6 = .ok (.bipush 8, 2) := by decide +kernel
theorem dX3_takeTurn_8 : decode cX3_takeTurn 8 = .ok (.irem, 1) := by decide +kernel
theorem dX3_takeTurn_9 : decode cX3_takeTurn 9 = .ok (.tableswitch 154 0 4 #[35, 35, 35, 67, 118], 35) := by decide +kernel
theorem dX3_takeTurn_44 : decode cX3_takeTurn 44 = .ok (.aload_n 0, 1) := by decide +kernel
theorem dX3_takeTurn_45 : decode cX3_takeTurn 45 = .ok (.getfield 41, 3) := by decide +kernel
theorem dX3_takeTurn_48 : decode cX3_takeTurn 48 = .ok (.iload_n 2, 1) := by decide +kernel
theorem dX3_takeTurn_49 : decode cX3_takeTurn 49 = .ok (.bipush 36, 2) := by decide +kernel
theorem dX3_takeTurn_51 : decode cX3_takeTurn 51 = .ok (.irem, 1) := by decide +kernel
theorem dX3_takeTurn_52 : decode cX3_takeTurn 52 = .ok (.iload_n 2, 1) := by decide +kernel
theorem dX3_takeTurn_53 : decode cX3_takeTurn 53 = .ok (.bipush 36, 2) := by decide +kernel
theorem dX3_takeTurn_55 : decode cX3_takeTurn 55 = .ok (.idiv, 1) := by decide +kernel
theorem dX3_takeTurn_56 : decode cX3_takeTurn 56 = .ok (.bipush 36, 2) := by decide +kernel
theorem dX3_takeTurn_58 : decode cX3_takeTurn 58 = .ok (.irem, 1) := by decide +kernel
theorem dX3_takeTurn_59 : decode cX3_takeTurn 59 = .ok (.iconst 1, 1) := by decide +kernel
theorem dX3_takeTurn_60 : decode cX3_takeTurn 60 = .ok (.iload_n 2, 1) := by decide +kernel
theorem dX3_takeTurn_61 : decode cX3_takeTurn 61 = .ok (.sipush 1296, 3) := by decide +kernel
theorem dX3_takeTurn_64 : decode cX3_takeTurn 64 = .ok (.idiv, 1) := by decide +kernel
theorem dX3_takeTurn_65 : decode cX3_takeTurn 65 = .ok (.bipush 9, 2) := by decide +kernel
theorem dX3_takeTurn_67 : decode cX3_takeTurn 67 = .ok (.irem, 1) := by decide +kernel
theorem dX3_takeTurn_68 : decode cX3_takeTurn 68 = .ok (.iadd, 1) := by decide +kernel
theorem dX3_takeTurn_69 : decode cX3_takeTurn 69 = .ok (.invokevirtual 103, 3) := by decide +kernel
theorem dX3_takeTurn_72 : decode cX3_takeTurn 72 = .ok (.pop, 1) := by decide +kernel
theorem dX3_takeTurn_73 : decode cX3_takeTurn 73 = .ok (.goto 104, 3) := by decide +kernel
theorem dX3_takeTurn_76 : decode cX3_takeTurn 76 = .ok (.iload_n 2, 1) := by decide +kernel
theorem dX3_takeTurn_77 : decode cX3_takeTurn 77 = .ok (.iconst 4, 1) := by decide +kernel
theorem dX3_takeTurn_78 : decode cX3_takeTurn 78 = .ok (.idiv, 1) := by decide +kernel
theorem dX3_takeTurn_79 : decode cX3_takeTurn 79 = .ok (.iconst 4, 1) := by decide +kernel
theorem dX3_takeTurn_80 : decode cX3_takeTurn 80 = .ok (.irem, 1) := by decide +kernel
theorem dX3_takeTurn_81 : decode cX3_takeTurn 81 = .ok (.ifCond .ne 17, 3) := by decide +kernel
theorem dX3_takeTurn_84 : decode cX3_takeTurn 84 = .ok (.aload_n 0, 1) := by decide +kernel
theorem dX3_takeTurn_85 : decode cX3_takeTurn 85 = .ok (.getfield 41, 3) := by decide +kernel
theorem dX3_takeTurn_88 : decode cX3_takeTurn 88 = .ok (.iload_n 2, 1) := by decide +kernel
theorem dX3_takeTurn_89 : decode cX3_takeTurn 89 = .ok (.iconst 3, 1) := by decide +kernel
theorem dX3_takeTurn_90 : decode cX3_takeTurn 90 = .ok (.irem, 1) := by decide +kernel
theorem dX3_takeTurn_91 : decode cX3_takeTurn 91 = .ok (.invokevirtual 114, 3) := by decide +kernel
theorem dX3_takeTurn_94 : decode cX3_takeTurn 94 = .ok (.pop, 1) := by decide +kernel
theorem dX3_takeTurn_95 : decode cX3_takeTurn 95 = .ok (.goto 82, 3) := by decide +kernel
theorem dX3_takeTurn_98 : decode cX3_takeTurn 98 = .ok (.aload_n 0, 1) := by decide +kernel
theorem dX3_takeTurn_99 : decode cX3_takeTurn 99 = .ok (.getfield 41, 3) := by decide +kernel
theorem dX3_takeTurn_102 : decode cX3_takeTurn 102 = .ok (.iload_n 2, 1) := by decide +kernel
theorem dX3_takeTurn_103 : decode cX3_takeTurn 103 = .ok (.bipush 36, 2) := by decide +kernel
theorem dX3_takeTurn_105 : decode cX3_takeTurn 105 = .ok (.irem, 1) := by decide +kernel
theorem dX3_takeTurn_106 : decode cX3_takeTurn 106 = .ok (.iload_n 2, 1) := by decide +kernel
theorem dX3_takeTurn_107 : decode cX3_takeTurn 107 = .ok (.bipush 64, 2) := by decide +kernel
theorem dX3_takeTurn_109 : decode cX3_takeTurn 109 = .ok (.idiv, 1) := by decide +kernel
theorem dX3_takeTurn_110 : decode cX3_takeTurn 110 = .ok (.iconst 4, 1) := by decide +kernel
theorem dX3_takeTurn_111 : decode cX3_takeTurn 111 = .ok (.irem, 1) := by decide +kernel
theorem dX3_takeTurn_112 : decode cX3_takeTurn 112 = .ok (.ifCond .ne 7, 3) := by decide +kernel
theorem dX3_takeTurn_115 : decode cX3_takeTurn 115 = .ok (.iconst 1, 1) := by decide +kernel
theorem dX3_takeTurn_116 : decode cX3_takeTurn 116 = .ok (.goto 4, 3) := by decide +kernel
theorem dX3_takeTurn_119 : decode cX3_takeTurn 119 = .ok (.iconst 0, 1) := by decide +kernel
theorem dX3_takeTurn_120 : decode cX3_takeTurn 120 = .ok (.invokevirtual 110, 3) := by decide +kernel
theorem dX3_takeTurn_123 : decode cX3_takeTurn 123 = .ok (.pop, 1) := by decide +kernel
theorem dX3_takeTurn_124 : decode cX3_takeTurn 124 = .ok (.goto 53, 3) := by decide +kernel
theorem dX3_takeTurn_127 : decode cX3_takeTurn 127 = .ok (.iload_n 2, 1) := by decide +kernel
theorem dX3_takeTurn_128 : decode cX3_takeTurn 128 = .ok (.bipush 16, 2) := by decide +kernel
theorem dX3_takeTurn_130 : decode cX3_takeTurn 130 = .ok (.idiv, 1) := by decide +kernel
theorem dX3_takeTurn_131 : decode cX3_takeTurn 131 = .ok (.iconst 4, 1) := by decide +kernel
theorem dX3_takeTurn_132 : decode cX3_takeTurn 132 = .ok (.irem, 1) := by decide +kernel
theorem dX3_takeTurn_133 : decode cX3_takeTurn 133 = .ok (.ifCond .ne 18, 3) := by decide +kernel
theorem dX3_takeTurn_136 : decode cX3_takeTurn 136 = .ok (.aload_n 0, 1) := by decide +kernel
theorem dX3_takeTurn_137 : decode cX3_takeTurn 137 = .ok (.getfield 41, 3) := by decide +kernel
theorem dX3_takeTurn_140 : decode cX3_takeTurn 140 = .ok (.iload_n 2, 1) := by decide +kernel
theorem dX3_takeTurn_141 : decode cX3_takeTurn 141 = .ok (.bipush 10, 2) := by decide +kernel
theorem dX3_takeTurn_143 : decode cX3_takeTurn 143 = .ok (.irem, 1) := by decide +kernel
theorem dX3_takeTurn_144 : decode cX3_takeTurn 144 = .ok (.invokevirtual 117, 3) := by decide +kernel
theorem dX3_takeTurn_147 : decode cX3_takeTurn 147 = .ok (.pop, 1) := by decide +kernel
theorem dX3_takeTurn_148 : decode cX3_takeTurn 148 = .ok (.goto 29, 3) := by decide +kernel
theorem dX3_takeTurn_151 : decode cX3_takeTurn 151 = .ok (.aload_n 0, 1) := by decide +kernel
theorem dX3_takeTurn_152 : decode cX3_takeTurn 152 = .ok (.getfield 41, 3) := by decide +kernel
theorem dX3_takeTurn_155 : decode cX3_takeTurn 155 = .ok (.iconst 1, 1) := by decide +kernel
theorem dX3_takeTurn_156 : decode cX3_takeTurn 156 = .ok (.invokevirtual 107, 3) := by decide +kernel
theorem dX3_takeTurn_159 : decode cX3_takeTurn 159 = .ok (.pop, 1) := by decide +kernel
theorem dX3_takeTurn_160 : decode cX3_takeTurn 160 = .ok (.goto 17, 3) := by decide +kernel
theorem dX3_takeTurn_163 : decode cX3_takeTurn 163 = .ok (.aload_n 0, 1) := by decide +kernel
theorem dX3_takeTurn_164 : decode cX3_takeTurn 164 = .ok (.getfield 41, 3) := by decide +kernel
theorem dX3_takeTurn_167 : decode cX3_takeTurn 167 = .ok (.iconst 1, 1) := by decide +kernel
theorem dX3_takeTurn_168 : decode cX3_takeTurn 168 = .ok (.iload_n 2, 1) := by decide +kernel
theorem dX3_takeTurn_169 : decode cX3_takeTurn 169 = .ok (.bipush 12, 2) := by decide +kernel
theorem dX3_takeTurn_171 : decode cX3_takeTurn 171 = .ok (.irem, 1) := by decide +kernel
theorem dX3_takeTurn_172 : decode cX3_takeTurn 172 = .ok (.iadd, 1) := by decide +kernel
theorem dX3_takeTurn_173 : decode cX3_takeTurn 173 = .ok (.invokevirtual 107, 3) := by decide +kernel
theorem dX3_takeTurn_176 : decode cX3_takeTurn 176 = .ok (.pop, 1) := by decide +kernel
theorem dX3_takeTurn_177 : decode cX3_takeTurn 177 = .ok (.return_, 1) := by decide +kernel
set_option maxRecDepth 20000 in
theorem ggX3_save_X0_writeTo : GoodIn wsX3_save wsX0_writeTo := goodIn_r _ [10, 11, 12, 13, 14, 15, 16, 17, 18, 19, 32, 33] (by decide +kernel) (by decide +kernel)
set_option maxRecDepth 20000 in
theorem gX3_save_X0_writeTo : GoodIn wsX3_save (wsV RX3 223 RX0 yX0_writeTo wsX0_writeTo) := goodIn_app (goodIn_of _ (by decide +kernel)) ggX3_save_X0_writeTo
set_option maxRecDepth 20000 in
theorem ggX3_save_X0_ticksSoFar : GoodIn wsX3_save wsX0_ticksSoFar := goodIn_r _ [23, 11, 32] (by decide +kernel) (by decide +kernel)
set_option maxRecDepth 20000 in
theorem gX3_save_X0_ticksSoFar : GoodIn wsX3_save (wsV RX3 126 RX0 yX0_ticksSoFar wsX0_ticksSoFar) := goodIn_app (goodIn_of _ (by decide +kernel)) ggX3_save_X0_ticksSoFar
theorem dX3_save_0 : decode cX3_save 0 = .ok (.iload_n 1, 1) := by decide +kernel
theorem dX3_save_1 : decode cX3_save 1 = .ok (.ifCond .lt 8, 3) := by decide +kernel
theorem dX3_save_4 : decode cX3_save 4 = .ok (.iload_n 1, 1) := by decide +kernel
theorem dX3_save_5 : decode cX3_save 5 = .ok (.iconst 2, 1) := by decide +kernel
theorem dX3_save_6 : decode cX3_save 6 = .ok (.if_icmp .lt 14, 3) := by decide +kernel
theorem dX3_save_9 : decode cX3_save 9 = .ok (.new 146, 3) := by decide +kernel
theorem dX3_save_12 : decode cX3_save 12 = .ok (.dup, 1) := by decide +kernel
theorem dX3_save_13 : decode cX3_save 13 = .ok (.ldc_w 301, 3) := by decide +kernel
theorem dX3_save_16 : decode cX3_save 16 = .ok (.invokespecial 150, 3) := by decide +kernel
theorem dX3_save_19 : decode cX3_save 19 = .ok (.athrow, 1) := by decide +kernel
theorem dX3_save_20 : decode cX3_save 20 = .ok (.aload_n 0, 1) := by decide +kernel
theorem dX3_save_21 : decode cX3_save 21 = .ok (.getfield 19, 3) := by decide +kernel
theorem dX3_save_24 : decode cX3_save 24 = .ok (.aload_n 0, 1) := by decide +kernel
theorem dX3_save_25 : decode cX3_save 25 = .ok (.getfield 26, 3) := by decide +kernel
theorem dX3_save_28 : decode cX3_save 28 = .ok (.bipush 14, 2) := by decide +kernel
theorem dX3_save_30 : decode cX3_save 30 = .ok (.iload_n 1, 1) := by decide +kernel
theorem dX3_save_31 : decode cX3_save 31 = .ok (.iadd, 1) := by decide +kernel
theorem dX3_save_32 : decode cX3_save 32 = .ok (.invokevirtual 223, 3) := by decide +kernel
theorem dX3_save_35 : decode cX3_save 35 = .ok (.aload_n 0, 1) := by decide +kernel
theorem dX3_save_36 : decode cX3_save 36 = .ok (.getfield 37, 3) := by decide +kernel
theorem dX3_save_39 : decode cX3_save 39 = .ok (.iload_n 1, 1) := by decide +kernel
theorem dX3_save_40 : decode cX3_save 40 = .ok (.iconst 1, 1) := by decide +kernel
theorem dX3_save_41 : decode cX3_save 41 = .ok (.bastore, 1) := by decide +kernel
theorem dX3_save_42 : decode cX3_save 42 = .ok (.aload_n 0, 1) := by decide +kernel
theorem dX3_save_43 : decode cX3_save 43 = .ok (.getfield 19, 3) := by decide +kernel
theorem dX3_save_46 : decode cX3_save 46 = .ok (.invokevirtual 126, 3) := by decide +kernel
theorem dX3_save_49 : decode cX3_save 49 = .ok (.ireturn, 1) := by decide +kernel
set_option maxRecDepth 20000 in
theorem ggX3_restore_X0_readFrom : GoodIn wsX3_restore wsX0_readFrom := goodIn_r _ [12, 13, 14, 15, 16, 17, 18, 19, 20, 21, 40, 41] (by decide +kernel) (by decide +kernel)
set_option maxRecDepth 20000 in
theorem gX3_restore_X0_readFrom : GoodIn wsX3_restore (wsV RX3 219 RX0 yX0_readFrom wsX0_readFrom) := goodIn_app (goodIn_of _ (by decide +kernel)) ggX3_restore_X0_readFrom
set_option maxRecDepth 20000 in
theorem ggX3_restore_X3_forgetRemembered : GoodIn wsX3_restore wsX3_forgetRemembered := goodIn_r _ [26, 27, 32, 33, 34, 35, 36, 37, 38, 39] (by decide +kernel) (by decide +kernel)
set_option maxRecDepth 20000 in
theorem gX3_restore_X3_forgetRemembered : GoodIn wsX3_restore (wsV RX3 80 RX3 yX3_forgetRemembered wsX3_forgetRemembered) := goodIn_app (goodIn_of _ (by decide +kernel)) ggX3_restore_X3_forgetRemembered
set_option maxRecDepth 20000 in
theorem ggX3_restore_X0_ticksSoFar : GoodIn wsX3_restore wsX0_ticksSoFar := goodIn_r _ [31, 13, 41] (by decide +kernel) (by decide +kernel)
set_option maxRecDepth 20000 in
theorem gX3_restore_X0_ticksSoFar : GoodIn wsX3_restore (wsV RX3 126 RX0 yX0_ticksSoFar wsX0_ticksSoFar) := goodIn_app (goodIn_of _ (by decide +kernel)) ggX3_restore_X0_ticksSoFar
theorem dX3_restore_0 : decode cX3_restore 0 = .ok (.iload_n 1, 1) := by decide +kernel
theorem dX3_restore_1 : decode cX3_restore 1 = .ok (.ifCond .lt 8, 3) := by decide +kernel
theorem dX3_restore_4 : decode cX3_restore 4 = .ok (.iload_n 1, 1) := by decide +kernel
theorem dX3_restore_5 : decode cX3_restore 5 = .ok (.iconst 2, 1) := by decide +kernel
theorem dX3_restore_6 : decode cX3_restore 6 = .ok (.if_icmp .lt 14, 3) := by decide +kernel
theorem dX3_restore_9 : decode cX3_restore 9 = .ok (.new 146, 3) := by decide +kernel
theorem dX3_restore_12 : decode cX3_restore 12 = .ok (.dup, 1) := by decide +kernel
theorem dX3_restore_13 : decode cX3_restore 13 = .ok (.ldc_w 301, 3) := by decide +kernel
theorem dX3_restore_16 : decode cX3_restore 16 = .ok (.invokespecial 150, 3) := by decide +kernel
theorem dX3_restore_19 : decode cX3_restore 19 = .ok (.athrow, 1) := by decide +kernel
theorem dX3_restore_20 : decode cX3_restore 20 = .ok (.aload_n 0, 1) := by decide +kernel
theorem dX3_restore_21 : decode cX3_restore 21 = .ok (.getfield 37, 3) := by decide +kernel
theorem dX3_restore_24 : decode cX3_restore 24 = .ok (.iload_n 1, 1) := by decide +kernel
theorem dX3_restore_25 : decode cX3_restore 25 = .ok (.baload, 1) := by decide +kernel
theorem dX3_restore_26 : decode cX3_restore 26 = .ok (.ifCond .ne 14, 3) := by decide +kernel
theorem dX3_restore_29 : decode cX3_restore 29 = .ok (.new 58, 3) := by decide +kernel
theorem dX3_restore_32 : decode cX3_restore 32 = .ok (.dup, 1) := by decide +kernel
theorem dX3_restore_33 : decode cX3_restore 33 = .ok (.ldc_w 303, 3) := by decide +kernel
theorem dX3_restore_36 : decode cX3_restore 36 = .ok (.invokespecial 62, 3) := by decide +kernel
theorem dX3_restore_39 : decode cX3_restore 39 = .ok (.athrow, 1) := by decide +kernel
theorem dX3_restore_40 : decode cX3_restore 40 = .ok (.aload_n 0, 1) := by decide +kernel
theorem dX3_restore_41 : decode cX3_restore 41 = .ok (.getfield 19, 3) := by decide +kernel
theorem dX3_restore_44 : decode cX3_restore 44 = .ok (.aload_n 0, 1) := by decide +kernel
theorem dX3_restore_45 : decode cX3_restore 45 = .ok (.getfield 26, 3) := by decide +kernel
theorem dX3_restore_48 : decode cX3_restore 48 = .ok (.bipush 14, 2) := by decide +kernel
theorem dX3_restore_50 : decode cX3_restore 50 = .ok (.iload_n 1, 1) := by decide +kernel
theorem dX3_restore_51 : decode cX3_restore 51 = .ok (.iadd, 1) := by decide +kernel
theorem dX3_restore_52 : decode cX3_restore 52 = .ok (.invokevirtual 219, 3) := by decide +kernel
theorem dX3_restore_55 : decode cX3_restore 55 = .ok (.aload_n 0, 1) := by decide +kernel
theorem dX3_restore_56 : decode cX3_restore 56 = .ok (.invokevirtual 80, 3) := by decide +kernel
theorem dX3_restore_59 : decode cX3_restore 59 = .ok (.aload_n 0, 1) := by decide +kernel
theorem dX3_restore_60 : decode cX3_restore 60 = .ok (.getfield 19, 3) := by decide +kernel
theorem dX3_restore_63 : decode cX3_restore 63 = .ok (.invokevirtual 126, 3) := by decide +kernel
theorem dX3_restore_66 : decode cX3_restore 66 = .ok (.ireturn, 1) := by decide +kernel
theorem dX3_emptySlots_0 : decode cX3_emptySlots 0 = .ok (.iconst 0, 1) := by decide +kernel
theorem dX3_emptySlots_1 : decode cX3_emptySlots 1 = .ok (.istore_n 1, 1) := by decide +kernel
theorem dX3_emptySlots_2 : decode cX3_emptySlots 2 = .ok (.iload_n 1, 1) := by decide +kernel
theorem dX3_emptySlots_3 : decode cX3_emptySlots 3 = .ok (.iconst 2, 1) := by decide +kernel
theorem dX3_emptySlots_4 : decode cX3_emptySlots 4 = .ok (.if_icmp .ge 16, 3) := by decide +kernel
theorem dX3_emptySlots_7 : decode cX3_emptySlots 7 = .ok (.aload_n 0, 1) := by decide +kernel
theorem dX3_emptySlots_8 : decode cX3_emptySlots 8 = .ok (.getfield 37, 3) := by decide +kernel
theorem dX3_emptySlots_11 : decode cX3_emptySlots 11 = .ok (.iload_n 1, 1) := by decide +kernel
theorem dX3_emptySlots_12 : decode cX3_emptySlots 12 = .ok (.iconst 0, 1) := by decide +kernel
theorem dX3_emptySlots_13 : decode cX3_emptySlots 13 = .ok (.bastore, 1) := by decide +kernel
theorem dX3_emptySlots_14 : decode cX3_emptySlots 14 = .ok (.iinc 1 1, 3) := by decide +kernel
theorem dX3_emptySlots_17 : decode cX3_emptySlots 17 = .ok (.goto (-15), 3) := by decide +kernel
theorem dX3_emptySlots_20 : decode cX3_emptySlots 20 = .ok (.return_, 1) := by decide +kernel
theorem dX3_isRoom_0 : decode cX3_isRoom 0 = .ok (.iload_n 0, 1) := by decide +kernel
theorem dX3_isRoom_1 : decode cX3_isRoom 1 = .ok (.ifCond .lt 13, 3) := by decide +kernel
theorem dX3_isRoom_4 : decode cX3_isRoom 4 = .ok (.iload_n 0, 1) := by decide +kernel
theorem dX3_isRoom_5 : decode cX3_isRoom 5 = .ok (.bipush 36, 2) := by decide +kernel
theorem dX3_isRoom_7 : decode cX3_isRoom 7 = .ok (.if_icmp .ge 7, 3) := by decide +kernel
theorem dX3_isRoom_10 : decode cX3_isRoom 10 = .ok (.iconst 1, 1) := by decide +kernel
theorem dX3_isRoom_11 : decode cX3_isRoom 11 = .ok (.goto 4, 3) := by decide +kernel
theorem dX3_isRoom_14 : decode cX3_isRoom 14 = .ok (.iconst 0, 1) := by decide +kernel
theorem dX3_isRoom_15 : decode cX3_isRoom 15 = .ok (.ireturn, 1) := by decide +kernel
theorem dX3_isLength_0 : decode cX3_isLength 0 = .ok (.iload_n 0, 1) := by decide +kernel
theorem dX3_isLength_1 : decode cX3_isLength 1 = .ok (.iconst 1, 1) := by decide +kernel
theorem dX3_isLength_2 : decode cX3_isLength 2 = .ok (.if_icmp .lt 13, 3) := by decide +kernel
theorem dX3_isLength_5 : decode cX3_isLength 5 = .ok (.iload_n 0, 1) := by decide +kernel
theorem dX3_isLength_6 : decode cX3_isLength 6 = .ok (.bipush 9, 2) := by decide +kernel
theorem dX3_isLength_8 : decode cX3_isLength 8 = .ok (.if_icmp .gt 7, 3) := by decide +kernel
theorem dX3_isLength_11 : decode cX3_isLength 11 = .ok (.iconst 1, 1) := by decide +kernel
theorem dX3_isLength_12 : decode cX3_isLength 12 = .ok (.goto 4, 3) := by decide +kernel
theorem dX3_isLength_15 : decode cX3_isLength 15 = .ok (.iconst 0, 1) := by decide +kernel
theorem dX3_isLength_16 : decode cX3_isLength 16 = .ok (.ireturn, 1) := by decide +kernel
theorem dX3_isRule_0 : decode cX3_isRule 0 = .ok (.iload_n 0, 1) := by decide +kernel
theorem dX3_isRule_1 : decode cX3_isRule 1 = .ok (.ifCond .lt 12, 3) := by decide +kernel
theorem dX3_isRule_4 : decode cX3_isRule 4 = .ok (.iload_n 0, 1) := by decide +kernel
theorem dX3_isRule_5 : decode cX3_isRule 5 = .ok (.iconst 3, 1) := by decide +kernel
theorem dX3_isRule_6 : decode cX3_isRule 6 = .ok (.if_icmp .ge 7, 3) := by decide +kernel
theorem dX3_isRule_9 : decode cX3_isRule 9 = .ok (.iconst 1, 1) := by decide +kernel
theorem dX3_isRule_10 : decode cX3_isRule 10 = .ok (.goto 4, 3) := by decide +kernel
theorem dX3_isRule_13 : decode cX3_isRule 13 = .ok (.iconst 0, 1) := by decide +kernel
theorem dX3_isRule_14 : decode cX3_isRule 14 = .ok (.ireturn, 1) := by decide +kernel
theorem dX3_isTicks_0 : decode cX3_isTicks 0 = .ok (.iload_n 0, 1) := by decide +kernel
theorem dX3_isTicks_1 : decode cX3_isTicks 1 = .ok (.iconst 1, 1) := by decide +kernel
theorem dX3_isTicks_2 : decode cX3_isTicks 2 = .ok (.if_icmp .lt 13, 3) := by decide +kernel
theorem dX3_isTicks_5 : decode cX3_isTicks 5 = .ok (.iload_n 0, 1) := by decide +kernel
theorem dX3_isTicks_6 : decode cX3_isTicks 6 = .ok (.bipush 60, 2) := by decide +kernel
theorem dX3_isTicks_8 : decode cX3_isTicks 8 = .ok (.if_icmp .gt 7, 3) := by decide +kernel
theorem dX3_isTicks_11 : decode cX3_isTicks 11 = .ok (.iconst 1, 1) := by decide +kernel
theorem dX3_isTicks_12 : decode cX3_isTicks 12 = .ok (.goto 4, 3) := by decide +kernel
theorem dX3_isTicks_15 : decode cX3_isTicks 15 = .ok (.iconst 0, 1) := by decide +kernel
theorem dX3_isTicks_16 : decode cX3_isTicks 16 = .ok (.ireturn, 1) := by decide +kernel
set_option maxRecDepth 20000 in
theorem ggX4_init_X4_clear : GoodIn wsX4_init wsX4_clear := goodIn_r _ [16] (by decide +kernel) (by decide +kernel)
set_option maxRecDepth 20000 in
theorem gX4_init_X4_clear : GoodIn wsX4_init (va_wsS RX4 32 yX4_clear wsX4_clear) := goodIn_app (goodIn_of _ (by decide +kernel)) ggX4_init_X4_clear
theorem dX4_init_0 : decode cX4_init 0 = .ok (.aload_n 0, 1) := by decide +kernel
theorem dX4_init_1 : decode cX4_init 1 = .ok (.invokespecial 1, 3) := by decide +kernel
theorem dX4_init_4 : decode cX4_init 4 = .ok (.aload_n 0, 1) := by decide +kernel
theorem dX4_init_5 : decode cX4_init 5 = .ok (.bipush 120, 2) := by decide +kernel
theorem dX4_init_7 : decode cX4_init 7 = .ok (.newarray .int, 2) := by decide +kernel
theorem dX4_init_9 : decode cX4_init 9 = .ok (.putfield 7, 3) := by decide +kernel
theorem dX4_init_12 : decode cX4_init 12 = .ok (.aload_n 0, 1) := by decide +kernel
theorem dX4_init_13 : decode cX4_init 13 = .ok (.sipush 220, 3) := by decide +kernel
theorem dX4_init_16 : decode cX4_init 16 = .ok (.newarray .int, 2) := by decide +kernel
theorem dX4_init_18 : decode cX4_init 18 = .ok (.putfield 13, 3) := by decide +kernel
theorem dX4_init_21 : decode cX4_init 21 = .ok (.aload_n 0, 1) := by decide +kernel
theorem dX4_init_22 : decode cX4_init 22 = .ok (.sipush 220, 3) := by decide +kernel
theorem dX4_init_25 : decode cX4_init 25 = .ok (.newarray .int, 2) := by decide +kernel
theorem dX4_init_27 : decode cX4_init 27 = .ok (.putfield 16, 3) := by decide +kernel
theorem dX4_init_30 : decode cX4_init 30 = .ok (.aload_n 0, 1) := by decide +kernel
theorem dX4_init_31 : decode cX4_init 31 = .ok (.sipush 220, 3) := by decide +kernel
theorem dX4_init_34 : decode cX4_init 34 = .ok (.newarray .int, 2) := by decide +kernel
theorem dX4_init_36 : decode cX4_init 36 = .ok (.putfield 19, 3) := by decide +kernel
theorem dX4_init_39 : decode cX4_init 39 = .ok (.aload_n 0, 1) := by decide +kernel
theorem dX4_init_40 : decode cX4_init 40 = .ok (.sipush 3080, 3) := by decide +kernel
theorem dX4_init_43 : decode cX4_init 43 = .ok (.newarray .int, 2) := by decide +kernel
theorem dX4_init_45 : decode cX4_init 45 = .ok (.putfield 22, 3) := by decide +kernel
theorem dX4_init_48 : decode cX4_init 48 = .ok (.aload_n 0, 1) := by decide +kernel
theorem dX4_init_49 : decode cX4_init 49 = .ok (.sipush 440, 3) := by decide +kernel
theorem dX4_init_52 : decode cX4_init 52 = .ok (.newarray .int, 2) := by decide +kernel
theorem dX4_init_54 : decode cX4_init 54 = .ok (.putfield 25, 3) := by decide +kernel
theorem dX4_init_57 : decode cX4_init 57 = .ok (.aload_n 0, 1) := by decide +kernel
theorem dX4_init_58 : decode cX4_init 58 = .ok (.iconst 2, 1) := by decide +kernel
theorem dX4_init_59 : decode cX4_init 59 = .ok (.newarray .boolean, 2) := by decide +kernel
theorem dX4_init_61 : decode cX4_init 61 = .ok (.putfield 28, 3) := by decide +kernel
theorem dX4_init_64 : decode cX4_init 64 = .ok (.aload_n 0, 1) := by decide +kernel
theorem dX4_init_65 : decode cX4_init 65 = .ok (.getfield 13, 3) := by decide +kernel
theorem dX4_init_68 : decode cX4_init 68 = .ok (.invokestatic 32, 3) := by decide +kernel
theorem dX4_init_71 : decode cX4_init 71 = .ok (.return_, 1) := by decide +kernel
theorem dX4_thrown_0 : decode cX4_thrown 0 = .ok (.aload_n 0, 1) := by decide +kernel
theorem dX4_thrown_1 : decode cX4_thrown 1 = .ok (.getfield 36, 3) := by decide +kernel
theorem dX4_thrown_4 : decode cX4_thrown 4 = .ok (.ireturn, 1) := by decide +kernel
theorem dX4_refused_0 : decode cX4_refused 0 = .ok (.aload_n 0, 1) := by decide +kernel
theorem dX4_refused_1 : decode cX4_refused 1 = .ok (.iload_n 1, 1) := by decide +kernel
theorem dX4_refused_2 : decode cX4_refused 2 = .ok (.putfield 36, 3) := by decide +kernel
theorem dX4_refused_5 : decode cX4_refused 5 = .ok (.iload_n 1, 1) := by decide +kernel
theorem dX4_refused_6 : decode cX4_refused 6 = .ok (.ifCond .le 7, 3) := by decide +kernel
theorem dX4_refused_9 : decode cX4_refused 9 = .ok (.iconst 1, 1) := by decide +kernel
theorem dX4_refused_10 : decode cX4_refused 10 = .ok (.goto 4, 3) := by decide +kernel
theorem dX4_refused_13 : decode cX4_refused 13 = .ok (.iconst 0, 1) := by decide +kernel
theorem dX4_refused_14 : decode cX4_refused 14 = .ok (.ireturn, 1) := by decide +kernel
theorem dX4_in_0 : decode cX4_in 0 = .ok (.lload_n 0, 1) := by decide +kernel
theorem dX4_in_1 : decode cX4_in 1 = .ok (.lload_n 2, 1) := by decide +kernel
theorem dX4_in_2 : decode cX4_in 2 = .ok (.lcmp, 1) := by decide +kernel
theorem dX4_in_3 : decode cX4_in 3 = .ok (.ifCond .lt 14, 3) := by decide +kernel
theorem dX4_in_6 : decode cX4_in 6 = .ok (.lload_n 0, 1) := by decide +kernel
theorem dX4_in_7 : decode cX4_in 7 = .ok (.lload 4, 2) := by decide +kernel
theorem dX4_in_9 : decode cX4_in 9 = .ok (.lcmp, 1) := by decide +kernel
theorem dX4_in_10 : decode cX4_in 10 = .ok (.ifCond .gt 7, 3) := by decide +kernel
theorem dX4_in_13 : decode cX4_in 13 = .ok (.iconst 1, 1) := by decide +kernel
theorem dX4_in_14 : decode cX4_in 14 = .ok (.goto 4, 3) := by decide +kernel
theorem dX4_in_17 : decode cX4_in 17 = .ok (.iconst 0, 1) := by decide +kernel
theorem dX4_in_18 : decode cX4_in 18 = .ok (.ireturn, 1) := by decide +kernel
theorem dX4_copyState_0 : decode cX4_copyState 0 = .ok (.iconst 0, 1) := by decide +kernel
theorem dX4_copyState_1 : decode cX4_copyState 1 = .ok (.istore 4, 2) := by decide +kernel
theorem dX4_copyState_3 : decode cX4_copyState 3 = .ok (.iload 4, 2) := by decide +kernel
theorem dX4_copyState_5 : decode cX4_copyState 5 = .ok (.sipush 220, 3) := by decide +kernel
theorem dX4_copyState_8 : decode cX4_copyState 8 = .ok (.if_icmp .ge 21, 3) := by decide +kernel
theorem dX4_copyState_11 : decode cX4_copyState 11 = .ok (.aload_n 2, 1) := by decide +kernel
theorem dX4_copyState_12 : decode cX4_copyState 12 = .ok (.iload_n 3, 1) := by decide +kernel
theorem dX4_copyState_13 : decode cX4_copyState 13 = .ok (.iload 4, 2) := by decide +kernel
theorem dX4_copyState_15 : decode cX4_copyState 15 = .ok (.iadd, 1) := by decide +kernel
theorem dX4_copyState_16 : decode cX4_copyState 16 = .ok (.aload_n 0, 1) := by decide +kernel
theorem dX4_copyState_17 : decode cX4_copyState 17 = .ok (.iload_n 1, 1) := by decide +kernel
theorem dX4_copyState_18 : decode cX4_copyState 18 = .ok (.iload 4, 2) := by decide +kernel
theorem dX4_copyState_20 : decode cX4_copyState 20 = .ok (.iadd, 1) := by decide +kernel
theorem dX4_copyState_21 : decode cX4_copyState 21 = .ok (.iaload, 1) := by decide +kernel
theorem dX4_copyState_22 : decode cX4_copyState 22 = .ok (.iastore, 1) := by decide +kernel
theorem dX4_copyState_23 : decode cX4_copyState 23 = .ok (.iinc 4 1, 3) := by decide +kernel
theorem dX4_copyState_26 : decode cX4_copyState 26 = .ok (.goto (-23), 3) := by decide +kernel
theorem dX4_copyState_29 : decode cX4_copyState 29 = .ok (.return_, 1) := by decide +kernel
theorem dX4_clear_0 : decode cX4_clear 0 = .ok (.iconst 0, 1) := by decide +kernel
theorem dX4_clear_1 : decode cX4_clear 1 = .ok (.istore_n 1, 1) := by decide +kernel
theorem dX4_clear_2 : decode cX4_clear 2 = .ok (.iload_n 1, 1) := by decide +kernel
theorem dX4_clear_3 : decode cX4_clear 3 = .ok (.sipush 220, 3) := by decide +kernel
theorem dX4_clear_6 : decode cX4_clear 6 = .ok (.if_icmp .ge 13, 3) := by decide +kernel
theorem dX4_clear_9 : decode cX4_clear 9 = .ok (.aload_n 0, 1) := by decide +kernel
theorem dX4_clear_10 : decode cX4_clear 10 = .ok (.iload_n 1, 1) := by decide +kernel
theorem dX4_clear_11 : decode cX4_clear 11 = .ok (.iconst 0, 1) := by decide +kernel
theorem dX4_clear_12 : decode cX4_clear 12 = .ok (.iastore, 1) := by decide +kernel
theorem dX4_clear_13 : decode cX4_clear 13 = .ok (.iinc 1 1, 3) := by decide +kernel
theorem dX4_clear_16 : decode cX4_clear 16 = .ok (.goto (-14), 3) := by decide +kernel
theorem dX4_clear_19 : decode cX4_clear 19 = .ok (.return_, 1) := by decide +kernel
theorem dX4_of_0 : decode cX4_of 0 = .ok (.aload_n 0, 1) := by decide +kernel
theorem dX4_of_1 : decode cX4_of 1 = .ok (.bipush 40, 2) := by decide +kernel
theorem dX4_of_3 : decode cX4_of 3 = .ok (.bipush 18, 2) := by decide +kernel
theorem dX4_of_5 : decode cX4_of 5 = .ok (.iload_n 1, 1) := by decide +kernel
theorem dX4_of_6 : decode cX4_of 6 = .ok (.imul, 1) := by decide +kernel
theorem dX4_of_7 : decode cX4_of 7 = .ok (.iadd, 1) := by decide +kernel
theorem dX4_of_8 : decode cX4_of 8 = .ok (.iload_n 2, 1) := by decide +kernel
theorem dX4_of_9 : decode cX4_of 9 = .ok (.iadd, 1) := by decide +kernel
theorem dX4_of_10 : decode cX4_of 10 = .ok (.iaload, 1) := by decide +kernel
theorem dX4_of_11 : decode cX4_of 11 = .ok (.ireturn, 1) := by decide +kernel
theorem dX4_lay_0 : decode cX4_lay 0 = .ok (.aload_n 0, 1) := by decide +kernel
theorem dX4_lay_1 : decode cX4_lay 1 = .ok (.bipush 40, 2) := by decide +kernel
theorem dX4_lay_3 : decode cX4_lay 3 = .ok (.bipush 18, 2) := by decide +kernel
theorem dX4_lay_5 : decode cX4_lay 5 = .ok (.iload_n 1, 1) := by decide +kernel
theorem dX4_lay_6 : decode cX4_lay 6 = .ok (.imul, 1) := by decide +kernel
theorem dX4_lay_7 : decode cX4_lay 7 = .ok (.iadd, 1) := by decide +kernel
theorem dX4_lay_8 : decode cX4_lay 8 = .ok (.iload_n 2, 1) := by decide +kernel
theorem dX4_lay_9 : decode cX4_lay 9 = .ok (.iadd, 1) := by decide +kernel
theorem dX4_lay_10 : decode cX4_lay 10 = .ok (.iload_n 3, 1) := by decide +kernel
theorem dX4_lay_11 : decode cX4_lay 11 = .ok (.iastore, 1) := by decide +kernel
theorem dX4_lay_12 : decode cX4_lay 12 = .ok (.return_, 1) := by decide +kernel
set_option maxRecDepth 20000 in
theorem ggX4_isRoom_X4_in : GoodIn wsX4_isRoom wsX4_in := goodIn_r _ [5] (by decide +kernel) (by decide +kernel)
set_option maxRecDepth 20000 in
theorem gX4_isRoom_X4_in : GoodIn wsX4_isRoom (va_wsS RX4 42 yX4_in wsX4_in) := goodIn_app (goodIn_of _ (by decide +kernel)) ggX4_isRoom_X4_in
theorem dX4_isRoom_0 : decode cX4_isRoom 0 = .ok (.iload_n 0, 1) := by decide +kernel
theorem dX4_isRoom_1 : decode cX4_isRoom 1 = .ok (.i2l, 1) := by decide +kernel
theorem dX4_isRoom_2 : decode cX4_isRoom 2 = .ok (.lconst 0, 1) := by decide +kernel
theorem dX4_isRoom_3 : decode cX4_isRoom 3 = .ok (.ldc2_w 40, 3) := by decide +kernel
theorem dX4_isRoom_6 : decode cX4_isRoom 6 = .ok (.invokestatic 42, 3) := by decide +kernel
theorem dX4_isRoom_9 : decode cX4_isRoom 9 = .ok (.ireturn, 1) := by decide +kernel
set_option maxRecDepth 20000 in
theorem ggX4_isOne_X4_in : GoodIn wsX4_isOne wsX4_in := goodIn_r _ [4] (by decide +kernel) (by decide +kernel)
set_option maxRecDepth 20000 in
theorem gX4_isOne_X4_in : GoodIn wsX4_isOne (va_wsS RX4 42 yX4_in wsX4_in) := goodIn_app (goodIn_of _ (by decide +kernel)) ggX4_isOne_X4_in
theorem dX4_isOne_0 : decode cX4_isOne 0 = .ok (.iload_n 1, 1) := by decide +kernel
theorem dX4_isOne_1 : decode cX4_isOne 1 = .ok (.i2l, 1) := by decide +kernel
theorem dX4_isOne_2 : decode cX4_isOne 2 = .ok (.lconst 0, 1) := by decide +kernel
theorem dX4_isOne_3 : decode cX4_isOne 3 = .ok (.aload_n 0, 1) := by decide +kernel
theorem dX4_isOne_4 : decode cX4_isOne 4 = .ok (.iconst 0, 1) := by decide +kernel
theorem dX4_isOne_5 : decode cX4_isOne 5 = .ok (.iaload, 1) := by decide +kernel
theorem dX4_isOne_6 : decode cX4_isOne 6 = .ok (.iconst 1, 1) := by decide +kernel
theorem dX4_isOne_7 : decode cX4_isOne 7 = .ok (.isub, 1) := by decide +kernel
theorem dX4_isOne_8 : decode cX4_isOne 8 = .ok (.i2l, 1) := by decide +kernel
theorem dX4_isOne_9 : decode cX4_isOne 9 = .ok (.invokestatic 42, 3) := by decide +kernel
theorem dX4_isOne_12 : decode cX4_isOne 12 = .ok (.ireturn, 1) := by decide +kernel
set_option maxRecDepth 20000 in
theorem ggX4_isLength_X4_in : GoodIn wsX4_isLength wsX4_in := goodIn_r _ [5] (by decide +kernel) (by decide +kernel)
set_option maxRecDepth 20000 in
theorem gX4_isLength_X4_in : GoodIn wsX4_isLength (va_wsS RX4 42 yX4_in wsX4_in) := goodIn_app (goodIn_of _ (by decide +kernel)) ggX4_isLength_X4_in
theorem dX4_isLength_0 : decode cX4_isLength 0 = .ok (.iload_n 0, 1) := by decide +kernel
theorem dX4_isLength_1 : decode cX4_isLength 1 = .ok (.i2l, 1) := by decide +kernel
theorem dX4_isLength_2 : decode cX4_isLength 2 = .ok (.lconst 1, 1) := by decide +kernel
theorem dX4_isLength_3 : decode cX4_isLength 3 = .ok (.ldc2_w 46, 3) := by decide +kernel
theorem dX4_isLength_6 : decode cX4_isLength 6 = .ok (.invokestatic 42, 3) := by decide +kernel
theorem dX4_isLength_9 : decode cX4_isLength 9 = .ok (.ireturn, 1) := by decide +kernel
set_option maxRecDepth 20000 in
theorem ggX4_isIn_X4_of : GoodIn wsX4_isIn wsX4_of := goodIn_r _ [4] (by decide +kernel) (by decide +kernel)
set_option maxRecDepth 20000 in
theorem gX4_isIn_X4_of : GoodIn wsX4_isIn (va_wsS RX4 48 yX4_of wsX4_of) := goodIn_app (goodIn_of _ (by decide +kernel)) ggX4_isIn_X4_of
theorem dX4_isIn_0 : decode cX4_isIn 0 = .ok (.aload_n 0, 1) := by decide +kernel
theorem dX4_isIn_1 : decode cX4_isIn 1 = .ok (.iload_n 1, 1) := by decide +kernel
theorem dX4_isIn_2 : decode cX4_isIn 2 = .ok (.iconst 0, 1) := by decide +kernel
theorem dX4_isIn_3 : decode cX4_isIn 3 = .ok (.invokestatic 48, 3) := by decide +kernel
theorem dX4_isIn_6 : decode cX4_isIn 6 = .ok (.iload_n 2, 1) := by decide +kernel
theorem dX4_isIn_7 : decode cX4_isIn 7 = .ok (.if_icmp .ne 7, 3) := by decide +kernel
theorem dX4_isIn_10 : decode cX4_isIn 10 = .ok (.iconst 1, 1) := by decide +kernel
theorem dX4_isIn_11 : decode cX4_isIn 11 = .ok (.goto 4, 3) := by decide +kernel
theorem dX4_isIn_14 : decode cX4_isIn 14 = .ok (.iconst 0, 1) := by decide +kernel
theorem dX4_isIn_15 : decode cX4_isIn 15 = .ok (.ireturn, 1) := by decide +kernel
set_option maxRecDepth 20000 in
theorem ggX4_count_X4_isIn : GoodIn wsX4_count wsX4_isIn := goodIn_r _ [4, 5, 6, 3, 7] (by decide +kernel) (by decide +kernel)
set_option maxRecDepth 20000 in
theorem gX4_count_X4_isIn : GoodIn wsX4_count (va_wsS RX4 52 yX4_isIn wsX4_isIn) := goodIn_app (goodIn_of _ (by decide +kernel)) ggX4_count_X4_isIn
theorem dX4_count_0 : decode cX4_count 0 = .ok (.iconst 0, 1) := by decide +kernel
theorem dX4_count_1 : decode cX4_count 1 = .ok (.istore_n 2, 1) := by decide +kernel
theorem dX4_count_2 : decode cX4_count 2 = .ok (.iconst 0, 1) := by decide +kernel
theorem dX4_count_3 : decode cX4_count 3 = .ok (.istore_n 3, 1) := by decide +kernel
theorem dX4_count_4 : decode cX4_count 4 = .ok (.iload_n 3, 1) := by decide +kernel
theorem dX4_count_5 : decode cX4_count 5 = .ok (.aload_n 0, 1) := by decide +kernel
theorem dX4_count_6 : decode cX4_count 6 = .ok (.iconst 0, 1) := by decide +kernel
theorem dX4_count_7 : decode cX4_count 7 = .ok (.iaload, 1) := by decide +kernel
theorem dX4_count_8 : decode cX4_count 8 = .ok (.if_icmp .ge 26, 3) := by decide +kernel
theorem dX4_count_11 : decode cX4_count 11 = .ok (.iload_n 2, 1) := by decide +kernel
theorem dX4_count_12 : decode cX4_count 12 = .ok (.aload_n 0, 1) := by decide +kernel
theorem dX4_count_13 : decode cX4_count 13 = .ok (.iload_n 3, 1) := by decide +kernel
theorem dX4_count_14 : decode cX4_count 14 = .ok (.iload_n 1, 1) := by decide +kernel
theorem dX4_count_15 : decode cX4_count 15 = .ok (.invokestatic 52, 3) := by decide +kernel
theorem dX4_count_18 : decode cX4_count 18 = .ok (.ifCond .eq 7, 3) := by decide +kernel
theorem dX4_count_21 : decode cX4_count 21 = .ok (.iconst 1, 1) := by decide +kernel
theorem dX4_count_22 : decode cX4_count 22 = .ok (.goto 4, 3) := by decide +kernel
theorem dX4_count_25 : decode cX4_count 25 = .ok (.iconst 0, 1) := by decide +kernel
theorem dX4_count_26 : decode cX4_count 26 = .ok (.iadd, 1) := by decide +kernel
theorem dX4_count_27 : decode cX4_count 27 = .ok (.istore_n 2, 1) := by decide +kernel
theorem dX4_count_28 : decode cX4_count 28 = .ok (.iinc 3 1, 3) := by decide +kernel
theorem dX4_count_31 : decode cX4_count 31 = .ok (.goto (-27), 3) := by decide +kernel
theorem dX4_count_34 : decode cX4_count 34 = .ok (.iload_n 2, 1) := by decide +kernel
theorem dX4_count_35 : decode cX4_count 35 = .ok (.ireturn, 1) := by decide +kernel
theorem dX4_shutOnes_0 : decode cX4_shutOnes 0 = .ok (.iconst 0, 1) := by decide +kernel
theorem dX4_shutOnes_1 : decode cX4_shutOnes 1 = .ok (.istore_n 1, 1) := by decide +kernel
theorem dX4_shutOnes_2 : decode cX4_shutOnes 2 = .ok (.iconst 0, 1) := by decide +kernel
theorem dX4_shutOnes_3 : decode cX4_shutOnes 3 = .ok (.istore_n 2, 1) := by decide +kernel
theorem dX4_shutOnes_4 : decode cX4_shutOnes 4 = .ok (.iload_n 2, 1) := by decide +kernel
theorem dX4_shutOnes_5 : decode cX4_shutOnes 5 = .ok (.bipush 36, 2) := by decide +kernel
theorem dX4_shutOnes_7 : decode cX4_shutOnes 7 = .ok (.if_icmp .ge 17, 3) := by decide +kernel
theorem dX4_shutOnes_10 : decode cX4_shutOnes 10 = .ok (.iload_n 1, 1) := by decide +kernel
theorem dX4_shutOnes_11 : decode cX4_shutOnes 11 = .ok (.aload_n 0, 1) := by decide +kernel
theorem dX4_shutOnes_12 : decode cX4_shutOnes 12 = .ok (.iconst 4, 1) := by decide +kernel
theorem dX4_shutOnes_13 : decode cX4_shutOnes 13 = .ok (.iload_n 2, 1) := by decide +kernel
theorem dX4_shutOnes_14 : decode cX4_shutOnes 14 = .ok (.iadd, 1) := by decide +kernel
theorem dX4_shutOnes_15 : decode cX4_shutOnes 15 = .ok (.iaload, 1) := by decide +kernel
theorem dX4_shutOnes_16 : decode cX4_shutOnes 16 = .ok (.iadd, 1) := by decide +kernel
theorem dX4_shutOnes_17 : decode cX4_shutOnes 17 = .ok (.istore_n 1, 1) := by decide +kernel
theorem dX4_shutOnes_18 : decode cX4_shutOnes 18 = .ok (.iinc 2 1, 3) := by decide +kernel
theorem dX4_shutOnes_21 : decode cX4_shutOnes 21 = .ok (.goto (-17), 3) := by decide +kernel
theorem dX4_shutOnes_24 : decode cX4_shutOnes 24 = .ok (.iload_n 1, 1) := by decide +kernel
theorem dX4_shutOnes_25 : decode cX4_shutOnes 25 = .ok (.ireturn, 1) := by decide +kernel
set_option maxRecDepth 20000 in
theorem ggX4_takenBy_X4_of : GoodIn wsX4_takenBy wsX4_of := goodIn_r _ [4] (by decide +kernel) (by decide +kernel)
set_option maxRecDepth 20000 in
theorem gX4_takenBy_X4_of : GoodIn wsX4_takenBy (va_wsS RX4 48 yX4_of wsX4_of) := goodIn_app (goodIn_of _ (by decide +kernel)) ggX4_takenBy_X4_of
theorem dX4_takenBy_0 : decode cX4_takenBy 0 = .ok (.iconst 0, 1) := by decide +kernel
theorem dX4_takenBy_1 : decode cX4_takenBy 1 = .ok (.istore_n 2, 1) := by decide +kernel
theorem dX4_takenBy_2 : decode cX4_takenBy 2 = .ok (.iload_n 2, 1) := by decide +kernel
theorem dX4_takenBy_3 : decode cX4_takenBy 3 = .ok (.aload_n 0, 1) := by decide +kernel
theorem dX4_takenBy_4 : decode cX4_takenBy 4 = .ok (.iconst 0, 1) := by decide +kernel
theorem dX4_takenBy_5 : decode cX4_takenBy 5 = .ok (.iaload, 1) := by decide +kernel
theorem dX4_takenBy_6 : decode cX4_takenBy 6 = .ok (.if_icmp .ge 42, 3) := by decide +kernel
theorem dX4_takenBy_9 : decode cX4_takenBy 9 = .ok (.iconst 0, 1) := by decide +kernel
theorem dX4_takenBy_10 : decode cX4_takenBy 10 = .ok (.istore_n 3, 1) := by decide +kernel
theorem dX4_takenBy_11 : decode cX4_takenBy 11 = .ok (.iload_n 3, 1) := by decide +kernel
theorem dX4_takenBy_12 : decode cX4_takenBy 12 = .ok (.aload_n 0, 1) := by decide +kernel
theorem dX4_takenBy_13 : decode cX4_takenBy 13 = .ok (.iload_n 2, 1) := by decide +kernel
theorem dX4_takenBy_14 : decode cX4_takenBy 14 = .ok (.iconst 1, 1) := by decide +kernel
theorem dX4_takenBy_15 : decode cX4_takenBy 15 = .ok (.invokestatic 48, 3) := by decide +kernel
theorem dX4_takenBy_18 : decode cX4_takenBy 18 = .ok (.if_icmp .ge 24, 3) := by decide +kernel
theorem dX4_takenBy_21 : decode cX4_takenBy 21 = .ok (.aload_n 0, 1) := by decide +kernel
theorem dX4_takenBy_22 : decode cX4_takenBy 22 = .ok (.iload_n 2, 1) := by decide +kernel
theorem dX4_takenBy_23 : decode cX4_takenBy 23 = .ok (.bipush 9, 2) := by decide +kernel
theorem dX4_takenBy_25 : decode cX4_takenBy 25 = .ok (.iload_n 3, 1) := by decide +kernel
theorem dX4_takenBy_26 : decode cX4_takenBy 26 = .ok (.iadd, 1) := by decide +kernel
theorem dX4_takenBy_27 : decode cX4_takenBy 27 = .ok (.invokestatic 48, 3) := by decide +kernel
theorem dX4_takenBy_30 : decode cX4_takenBy 30 = .ok (.iload_n 1, 1) := by decide +kernel
theorem dX4_takenBy_31 : decode cX4_takenBy 31 = .ok (.if_icmp .ne 5, 3) := by decide +kernel
theorem dX4_takenBy_34 : decode cX4_takenBy 34 = .ok (.iload_n 2, 1) := by decide +kernel
theorem dX4_takenBy_35 : decode cX4_takenBy 35 = .ok (.ireturn, 1) := by decide +kernel
theorem dX4_takenBy_36 : decode cX4_takenBy 36 = .ok (.iinc 3 1, 3) := by decide +kernel
theorem dX4_takenBy_39 : decode cX4_takenBy 39 = .ok (.goto (-28), 3) := by decide +kernel
theorem dX4_takenBy_42 : decode cX4_takenBy 42 = .ok (.iinc 2 1, 3) := by decide +kernel
theorem dX4_takenBy_45 : decode cX4_takenBy 45 = .ok (.goto (-43), 3) := by decide +kernel
theorem dX4_takenBy_48 : decode cX4_takenBy 48 = .ok (.iconst (-1), 1) := by decide +kernel
theorem dX4_takenBy_49 : decode cX4_takenBy 49 = .ok (.ireturn, 1) := by decide +kernel
set_option maxRecDepth 20000 in
theorem ggX4_isFree_X4_takenBy : GoodIn wsX4_isFree wsX4_takenBy := goodIn_r _ [4, 5, 6, 3, 7] (by decide +kernel) (by decide +kernel)
set_option maxRecDepth 20000 in
theorem gX4_isFree_X4_takenBy : GoodIn wsX4_isFree (va_wsS RX4 56 yX4_takenBy wsX4_takenBy) := goodIn_app (goodIn_of _ (by decide +kernel)) ggX4_isFree_X4_takenBy
theorem dX4_isFree_0 : decode cX4_isFree 0 = .ok (.aload_n 0, 1) := by decide +kernel
theorem dX4_isFree_1 : decode cX4_isFree 1 = .ok (.iconst 4, 1) := by decide +kernel
theorem dX4_isFree_2 : decode cX4_isFree 2 = .ok (.iload_n 1, 1) := by decide +kernel
theorem dX4_isFree_3 : decode cX4_isFree 3 = .ok (.iadd, 1) := by decide +kernel
theorem dX4_isFree_4 : decode cX4_isFree 4 = .ok (.iaload, 1) := by decide +kernel
theorem dX4_isFree_5 : decode cX4_isFree 5 = .ok (.ifCond .ne 16, 3) := by decide +kernel
theorem dX4_isFree_8 : decode cX4_isFree 8 = .ok (.aload_n 0, 1) := by decide +kernel
theorem dX4_isFree_9 : decode cX4_isFree 9 = .ok (.iload_n 1, 1) := by decide +kernel
theorem dX4_isFree_10 : decode cX4_isFree 10 = .ok (.invokestatic 56, 3) := by decide +kernel
theorem dX4_isFree_13 : decode cX4_isFree 13 = .ok (.iconst (-1), 1) := by decide +kernel
theorem dX4_isFree_14 : decode cX4_isFree 14 = .ok (.if_icmp .ne 7, 3) := by decide +kernel
theorem dX4_isFree_17 : decode cX4_isFree 17 = .ok (.iconst 1, 1) := by decide +kernel
theorem dX4_isFree_18 : decode cX4_isFree 18 = .ok (.goto 4, 3) := by decide +kernel
theorem dX4_isFree_21 : decode cX4_isFree 21 = .ok (.iconst 0, 1) := by decide +kernel
theorem dX4_isFree_22 : decode cX4_isFree 22 = .ok (.ireturn, 1) := by decide +kernel
theorem dX4_along_0 : decode cX4_along 0 = .ok (.iload_n 2, 1) := by decide +kernel
theorem dX4_along_1 : decode cX4_along 1 = .ok (.ifCond .eq 15, 3) := by decide +kernel
theorem dX4_along_4 : decode cX4_along 4 = .ok (.iload_n 1, 1) := by decide +kernel
theorem dX4_along_5 : decode cX4_along 5 = .ok (.bipush 6, 2) := by decide +kernel
theorem dX4_along_7 : decode cX4_along 7 = .ok (.irem, 1) := by decide +kernel
theorem dX4_along_8 : decode cX4_along 8 = .ok (.iload_n 0, 1) := by decide +kernel
theorem dX4_along_9 : decode cX4_along 9 = .ok (.bipush 6, 2) := by decide +kernel
theorem dX4_along_11 : decode cX4_along 11 = .ok (.irem, 1) := by decide +kernel
theorem dX4_along_12 : decode cX4_along 12 = .ok (.isub, 1) := by decide +kernel
theorem dX4_along_13 : decode cX4_along 13 = .ok (.goto 12, 3) := by decide +kernel
theorem dX4_along_16 : decode cX4_along 16 = .ok (.iload_n 1, 1) := by decide +kernel
theorem dX4_along_17 : decode cX4_along 17 = .ok (.bipush 6, 2) := by decide +kernel
theorem dX4_along_19 : decode cX4_along 19 = .ok (.idiv, 1) := by decide +kernel
theorem dX4_along_20 : decode cX4_along 20 = .ok (.iload_n 0, 1) := by decide +kernel
theorem dX4_along_21 : decode cX4_along 21 = .ok (.bipush 6, 2) := by decide +kernel
theorem dX4_along_23 : decode cX4_along 23 = .ok (.idiv, 1) := by decide +kernel
theorem dX4_along_24 : decode cX4_along 24 = .ok (.isub, 1) := by decide +kernel
theorem dX4_along_25 : decode cX4_along 25 = .ok (.istore_n 3, 1) := by decide +kernel
theorem dX4_along_26 : decode cX4_along 26 = .ok (.iload_n 3, 1) := by decide +kernel
theorem dX4_along_27 : decode cX4_along 27 = .ok (.ifCond .ne 7, 3) := by decide +kernel
theorem dX4_along_30 : decode cX4_along 30 = .ok (.iconst (-1), 1) := by decide +kernel
theorem dX4_along_31 : decode cX4_along 31 = .ok (.goto 25, 3) := by decide +kernel
theorem dX4_along_34 : decode cX4_along 34 = .ok (.iload_n 0, 1) := by decide +kernel
theorem dX4_along_35 : decode cX4_along 35 = .ok (.iload_n 3, 1) := by decide +kernel
theorem dX4_along_36 : decode cX4_along 36 = .ok (.ifCond .le 7, 3) := by decide +kernel
theorem dX4_along_39 : decode cX4_along 39 = .ok (.iconst 1, 1) := by decide +kernel
theorem dX4_along_40 : decode cX4_along 40 = .ok (.goto 4, 3) := by decide +kernel
theorem dX4_along_43 : decode cX4_along 43 = .ok (.iconst (-1), 1) := by decide +kernel
theorem dX4_along_44 : decode cX4_along 44 = .ok (.iload_n 2, 1) := by decide +kernel
theorem dX4_along_45 : decode cX4_along 45 = .ok (.ifCond .eq 7, 3) := by decide +kernel
theorem dX4_along_48 : decode cX4_along 48 = .ok (.iconst 1, 1) := by decide +kernel
theorem dX4_along_49 : decode cX4_along 49 = .ok (.goto 5, 3) := by decide +kernel
theorem dX4_along_52 : decode cX4_along 52 = .ok (.bipush 6, 2) := by decide +kernel
theorem dX4_along_54 : decode cX4_along 54 = .ok (.imul, 1) := by decide +kernel
theorem dX4_along_55 : decode cX4_along 55 = .ok (.iadd, 1) := by decide +kernel
theorem dX4_along_56 : decode cX4_along 56 = .ok (.ireturn, 1) := by decide +kernel
set_option maxRecDepth 20000 in
theorem ggX4_nextRoom_X4_of : GoodIn wsX4_nextRoom wsX4_of := goodIn_r _ [4] (by decide +kernel) (by decide +kernel)
set_option maxRecDepth 20000 in
theorem gX4_nextRoom_X4_of : GoodIn wsX4_nextRoom (va_wsS RX4 48 yX4_of wsX4_of) := goodIn_app (goodIn_of _ (by decide +kernel)) ggX4_nextRoom_X4_of
set_option maxRecDepth 20000 in
theorem ggX4_nextRoom_X4_along : GoodIn wsX4_nextRoom wsX4_along := goodIn_r _ [7] (by decide +kernel) (by decide +kernel)
set_option maxRecDepth 20000 in
theorem gX4_nextRoom_X4_along : GoodIn wsX4_nextRoom (va_wsS RX4 60 yX4_along wsX4_along) := goodIn_app (goodIn_of _ (by decide +kernel)) ggX4_nextRoom_X4_along
set_option maxRecDepth 20000 in
theorem ggX4_nextRoom_X4_isFree : GoodIn wsX4_nextRoom wsX4_isFree := goodIn_r _ [10, 11, 12, 3, 13, 1, 2, 4] (by decide +kernel) (by decide +kernel)
set_option maxRecDepth 20000 in
theorem gX4_nextRoom_X4_isFree : GoodIn wsX4_nextRoom (va_wsS RX4 64 yX4_isFree wsX4_isFree) := goodIn_app (goodIn_of _ (by decide +kernel)) ggX4_nextRoom_X4_isFree
theorem dX4_nextRoom_0 : decode cX4_nextRoom 0 = .ok (.aload_n 0, 1) := by decide +kernel
theorem dX4_nextRoom_1 : decode cX4_nextRoom 1 = .ok (.iload_n 1, 1) := by decide +kernel
theorem dX4_nextRoom_2 : decode cX4_nextRoom 2 = .ok (.bipush 9, 2) := by decide +kernel
theorem dX4_nextRoom_4 : decode cX4_nextRoom 4 = .ok (.invokestatic 48, 3) := by decide +kernel
theorem dX4_nextRoom_7 : decode cX4_nextRoom 7 = .ok (.istore_n 2, 1) := by decide +kernel
theorem dX4_nextRoom_8 : decode cX4_nextRoom 8 = .ok (.iload_n 2, 1) := by decide +kernel
theorem dX4_nextRoom_9 : decode cX4_nextRoom 9 = .ok (.aload_n 0, 1) := by decide +kernel
theorem dX4_nextRoom_10 : decode cX4_nextRoom 10 = .ok (.iload_n 1, 1) := by decide +kernel
theorem dX4_nextRoom_11 : decode cX4_nextRoom 11 = .ok (.bipush 7, 2) := by decide +kernel
theorem dX4_nextRoom_13 : decode cX4_nextRoom 13 = .ok (.invokestatic 48, 3) := by decide +kernel
theorem dX4_nextRoom_16 : decode cX4_nextRoom 16 = .ok (.iconst 1, 1) := by decide +kernel
theorem dX4_nextRoom_17 : decode cX4_nextRoom 17 = .ok (.invokestatic 60, 3) := by decide +kernel
theorem dX4_nextRoom_20 : decode cX4_nextRoom 20 = .ok (.istore_n 3, 1) := by decide +kernel
theorem dX4_nextRoom_21 : decode cX4_nextRoom 21 = .ok (.iload_n 2, 1) := by decide +kernel
theorem dX4_nextRoom_22 : decode cX4_nextRoom 22 = .ok (.aload_n 0, 1) := by decide +kernel
theorem dX4_nextRoom_23 : decode cX4_nextRoom 23 = .ok (.iload_n 1, 1) := by decide +kernel
theorem dX4_nextRoom_24 : decode cX4_nextRoom 24 = .ok (.bipush 7, 2) := by decide +kernel
theorem dX4_nextRoom_26 : decode cX4_nextRoom 26 = .ok (.invokestatic 48, 3) := by decide +kernel
theorem dX4_nextRoom_29 : decode cX4_nextRoom 29 = .ok (.iconst 0, 1) := by decide +kernel
theorem dX4_nextRoom_30 : decode cX4_nextRoom 30 = .ok (.invokestatic 60, 3) := by decide +kernel
theorem dX4_nextRoom_33 : decode cX4_nextRoom 33 = .ok (.istore 4, 2) := by decide +kernel
theorem dX4_nextRoom_35 : decode cX4_nextRoom 35 = .ok (.aload_n 0, 1) := by decide +kernel
theorem dX4_nextRoom_36 : decode cX4_nextRoom 36 = .ok (.iconst 2, 1) := by decide +kernel
theorem dX4_nextRoom_37 : decode cX4_nextRoom 37 = .ok (.iaload, 1) := by decide +kernel
theorem dX4_nextRoom_38 : decode cX4_nextRoom 38 = .ok (.iconst 1, 1) := by decide +kernel
theorem dX4_nextRoom_39 : decode cX4_nextRoom 39 = .ok (.if_icmp .eq 38, 3) := by decide +kernel
theorem dX4_nextRoom_42 : decode cX4_nextRoom 42 = .ok (.aload_n 0, 1) := by decide +kernel
theorem dX4_nextRoom_43 : decode cX4_nextRoom 43 = .ok (.iconst 2, 1) := by decide +kernel
theorem dX4_nextRoom_44 : decode cX4_nextRoom 44 = .ok (.iaload, 1) := by decide +kernel
theorem dX4_nextRoom_45 : decode cX4_nextRoom 45 = .ok (.iconst 2, 1) := by decide +kernel
theorem dX4_nextRoom_46 : decode cX4_nextRoom 46 = .ok (.if_icmp .ne 35, 3) := by decide +kernel
theorem dX4_nextRoom_49 : decode cX4_nextRoom 49 = .ok (.iload_n 3, 1) := by decide +kernel
theorem dX4_nextRoom_50 : decode cX4_nextRoom 50 = .ok (.iconst (-1), 1) := by decide +kernel
theorem dX4_nextRoom_51 : decode cX4_nextRoom 51 = .ok (.if_icmp .eq 11, 3) := by decide +kernel
theorem dX4_nextRoom_54 : decode cX4_nextRoom 54 = .ok (.aload_n 0, 1) := by decide +kernel
theorem dX4_nextRoom_55 : decode cX4_nextRoom 55 = .ok (.iload_n 3, 1) := by decide +kernel
theorem dX4_nextRoom_56 : decode cX4_nextRoom 56 = .ok (.invokestatic 64, 3) := by decide +kernel
theorem dX4_nextRoom_59 : decode cX4_nextRoom 59 = .ok (.ifCond .ne 22, 3) := by decide +kernel
theorem dX4_nextRoom_62 : decode cX4_nextRoom 62 = .ok (.iload 4, 2) := by decide +kernel
theorem dX4_nextRoom_64 : decode cX4_nextRoom 64 = .ok (.iconst (-1), 1) := by decide +kernel
theorem dX4_nextRoom_65 : decode cX4_nextRoom 65 = .ok (.if_icmp .eq 16, 3) := by decide +kernel
theorem dX4_nextRoom_68 : decode cX4_nextRoom 68 = .ok (.aload_n 0, 1) := by decide +kernel
theorem dX4_nextRoom_69 : decode cX4_nextRoom 69 = .ok (.iload 4, 2) := by decide +kernel
theorem dX4_nextRoom_71 : decode cX4_nextRoom 71 = .ok (.invokestatic 64, 3) := by decide +kernel
theorem dX4_nextRoom_74 : decode cX4_nextRoom 74 = .ok (.ifCond .eq 7, 3) := by decide +kernel
theorem dX4_nextRoom_77 : decode cX4_nextRoom 77 = .ok (.iconst 1, 1) := by decide +kernel
theorem dX4_nextRoom_78 : decode cX4_nextRoom 78 = .ok (.goto 4, 3) := by decide +kernel
theorem dX4_nextRoom_81 : decode cX4_nextRoom 81 = .ok (.iconst 0, 1) := by decide +kernel
theorem dX4_nextRoom_82 : decode cX4_nextRoom 82 = .ok (.istore 5, 2) := by decide +kernel
theorem dX4_nextRoom_84 : decode cX4_nextRoom 84 = .ok (.iload 5, 2) := by decide +kernel
theorem dX4_nextRoom_86 : decode cX4_nextRoom 86 = .ok (.ifCond .eq 9, 3) := by decide +kernel
theorem dX4_nextRoom_89 : decode cX4_nextRoom 89 = .ok (.iload 4, 2) := by decide +kernel
theorem dX4_nextRoom_91 : decode cX4_nextRoom 91 = .ok (.iconst (-1), 1) := by decide +kernel
theorem dX4_nextRoom_92 : decode cX4_nextRoom 92 = .ok (.if_icmp .ne 8, 3) := by decide +kernel
theorem dX4_nextRoom_95 : decode cX4_nextRoom 95 = .ok (.iload_n 3, 1) := by decide +kernel
theorem dX4_nextRoom_96 : decode cX4_nextRoom 96 = .ok (.iconst (-1), 1) := by decide +kernel
theorem dX4_nextRoom_97 : decode cX4_nextRoom 97 = .ok (.if_icmp .ne 8, 3) := by decide +kernel
theorem dX4_nextRoom_100 : decode cX4_nextRoom 100 = .ok (.iload 4, 2) := by decide +kernel
theorem dX4_nextRoom_102 : decode cX4_nextRoom 102 = .ok (.goto 4, 3) := by decide +kernel
theorem dX4_nextRoom_105 : decode cX4_nextRoom 105 = .ok (.iload_n 3, 1) := by decide +kernel
theorem dX4_nextRoom_106 : decode cX4_nextRoom 106 = .ok (.ireturn, 1) := by decide +kernel
set_option maxRecDepth 20000 in
theorem ggX4_eats_X4_isIn : GoodIn wsX4_eats wsX4_isIn := goodIn_r _ [4, 5, 6, 3, 7] (by decide +kernel) (by decide +kernel)
set_option maxRecDepth 20000 in
theorem gX4_eats_X4_isIn : GoodIn wsX4_eats (va_wsS RX4 52 yX4_isIn wsX4_isIn) := goodIn_app (goodIn_of _ (by decide +kernel)) ggX4_eats_X4_isIn
set_option maxRecDepth 20000 in
theorem ggX4_eats_X4_of : GoodIn wsX4_eats wsX4_of := goodIn_r _ [7] (by decide +kernel) (by decide +kernel)
set_option maxRecDepth 20000 in
theorem gX4_eats_X4_of : GoodIn wsX4_eats (va_wsS RX4 48 yX4_of wsX4_of) := goodIn_app (goodIn_of _ (by decide +kernel)) ggX4_eats_X4_of
theorem dX4_eats_0 : decode cX4_eats 0 = .ok (.aload_n 0, 1) := by decide +kernel
theorem dX4_eats_1 : decode cX4_eats 1 = .ok (.iload_n 1, 1) := by decide +kernel
theorem dX4_eats_2 : decode cX4_eats 2 = .ok (.iconst 1, 1) := by decide +kernel
theorem dX4_eats_3 : decode cX4_eats 3 = .ok (.invokestatic 52, 3) := by decide +kernel
theorem dX4_eats_6 : decode cX4_eats 6 = .ok (.ifCond .eq 24, 3) := by decide +kernel
theorem dX4_eats_9 : decode cX4_eats 9 = .ok (.aload_n 0, 1) := by decide +kernel
theorem dX4_eats_10 : decode cX4_eats 10 = .ok (.iload_n 1, 1) := by decide +kernel
theorem dX4_eats_11 : decode cX4_eats 11 = .ok (.bipush 9, 2) := by decide +kernel
theorem dX4_eats_13 : decode cX4_eats 13 = .ok (.invokestatic 48, 3) := by decide +kernel
theorem dX4_eats_16 : decode cX4_eats 16 = .ok (.aload_n 0, 1) := by decide +kernel
theorem dX4_eats_17 : decode cX4_eats 17 = .ok (.iload_n 1, 1) := by decide +kernel
theorem dX4_eats_18 : decode cX4_eats 18 = .ok (.bipush 7, 2) := by decide +kernel
theorem dX4_eats_20 : decode cX4_eats 20 = .ok (.invokestatic 48, 3) := by decide +kernel
theorem dX4_eats_23 : decode cX4_eats 23 = .ok (.if_icmp .ne 7, 3) := by decide +kernel
theorem dX4_eats_26 : decode cX4_eats 26 = .ok (.iconst 1, 1) := by decide +kernel
theorem dX4_eats_27 : decode cX4_eats 27 = .ok (.goto 4, 3) := by decide +kernel
theorem dX4_eats_30 : decode cX4_eats 30 = .ok (.iconst 0, 1) := by decide +kernel
theorem dX4_eats_31 : decode cX4_eats 31 = .ok (.ireturn, 1) := by decide +kernel
set_option maxRecDepth 20000 in
theorem ggX4_wants_X4_isIn : GoodIn wsX4_wants wsX4_isIn := goodIn_r _ [4, 5, 6, 3, 7] (by decide +kernel) (by decide +kernel)
set_option maxRecDepth 20000 in
theorem gX4_wants_X4_isIn : GoodIn wsX4_wants (va_wsS RX4 52 yX4_isIn wsX4_isIn) := goodIn_app (goodIn_of _ (by decide +kernel)) ggX4_wants_X4_isIn
set_option maxRecDepth 20000 in
theorem ggX4_wants_X4_of : GoodIn wsX4_wants wsX4_of := goodIn_r _ [7] (by decide +kernel) (by decide +kernel)
set_option maxRecDepth 20000 in
theorem gX4_wants_X4_of : GoodIn wsX4_wants (va_wsS RX4 48 yX4_of wsX4_of) := goodIn_app (goodIn_of _ (by decide +kernel)) ggX4_wants_X4_of
set_option maxRecDepth 20000 in
theorem ggX4_wants_X4_eats : GoodIn wsX4_wants wsX4_eats := goodIn_r _ [10, 1, 2, 3, 4, 5, 6, 7] (by decide +kernel) (by decide +kernel)
set_option maxRecDepth 20000 in
theorem gX4_wants_X4_eats : GoodIn wsX4_wants (va_wsS RX4 68 yX4_eats wsX4_eats) := goodIn_app (goodIn_of _ (by decide +kernel)) ggX4_wants_X4_eats
set_option maxRecDepth 20000 in
theorem ggX4_wants_X4_nextRoom : GoodIn wsX4_wants wsX4_nextRoom := goodIn_r _ [13, 5, 6, 3, 7, 14, 15, 16, 17, 18, 19, 20, 21, 22] (by decide +kernel) (by decide +kernel)
set_option maxRecDepth 20000 in
theorem gX4_wants_X4_nextRoom : GoodIn wsX4_wants (va_wsS RX4 71 yX4_nextRoom wsX4_nextRoom) := goodIn_app (goodIn_of _ (by decide +kernel)) ggX4_wants_X4_nextRoom
theorem dX4_wants_0 : decode cX4_wants 0 = .ok (.aload_n 0, 1) := by decide +kernel
theorem dX4_wants_1 : decode cX4_wants 1 = .ok (.iload_n 1, 1) := by decide +kernel
theorem dX4_wants_2 : decode cX4_wants 2 = .ok (.iconst 0, 1) := by decide +kernel
theorem dX4_wants_3 : decode cX4_wants 3 = .ok (.invokestatic 52, 3) := by decide +kernel
theorem dX4_wants_6 : decode cX4_wants 6 = .ok (.ifCond .eq 13, 3) := by decide +kernel
theorem dX4_wants_9 : decode cX4_wants 9 = .ok (.aload_n 0, 1) := by decide +kernel
theorem dX4_wants_10 : decode cX4_wants 10 = .ok (.iload_n 1, 1) := by decide +kernel
theorem dX4_wants_11 : decode cX4_wants 11 = .ok (.bipush 6, 2) := by decide +kernel
theorem dX4_wants_13 : decode cX4_wants 13 = .ok (.invokestatic 48, 3) := by decide +kernel
theorem dX4_wants_16 : decode cX4_wants 16 = .ok (.goto 29, 3) := by decide +kernel
theorem dX4_wants_19 : decode cX4_wants 19 = .ok (.aload_n 0, 1) := by decide +kernel
theorem dX4_wants_20 : decode cX4_wants 20 = .ok (.iload_n 1, 1) := by decide +kernel
theorem dX4_wants_21 : decode cX4_wants 21 = .ok (.iconst 1, 1) := by decide +kernel
theorem dX4_wants_22 : decode cX4_wants 22 = .ok (.invokestatic 52, 3) := by decide +kernel
theorem dX4_wants_25 : decode cX4_wants 25 = .ok (.ifCond .eq 19, 3) := by decide +kernel
theorem dX4_wants_28 : decode cX4_wants 28 = .ok (.aload_n 0, 1) := by decide +kernel
theorem dX4_wants_29 : decode cX4_wants 29 = .ok (.iload_n 1, 1) := by decide +kernel
theorem dX4_wants_30 : decode cX4_wants 30 = .ok (.invokestatic 68, 3) := by decide +kernel
theorem dX4_wants_33 : decode cX4_wants 33 = .ok (.ifCond .ne 11, 3) := by decide +kernel
theorem dX4_wants_36 : decode cX4_wants 36 = .ok (.aload_n 0, 1) := by decide +kernel
theorem dX4_wants_37 : decode cX4_wants 37 = .ok (.iload_n 1, 1) := by decide +kernel
theorem dX4_wants_38 : decode cX4_wants 38 = .ok (.invokestatic 71, 3) := by decide +kernel
theorem dX4_wants_41 : decode cX4_wants 41 = .ok (.goto 4, 3) := by decide +kernel
theorem dX4_wants_44 : decode cX4_wants 44 = .ok (.iconst (-1), 1) := by decide +kernel
theorem dX4_wants_45 : decode cX4_wants 45 = .ok (.ireturn, 1) := by decide +kernel
set_option maxRecDepth 20000 in
theorem ggX4_blockedBy_X4_wants : GoodIn wsX4_blockedBy wsX4_wants := goodIn_r _ [4, 5, 6, 3, 7, 8, 9, 10, 11, 12, 13, 14, 15, 16, 17, 18, 19, 20, 21, 22, 23, 24, 25] (by decide +kernel) (by decide +kernel)
set_option maxRecDepth 20000 in
theorem gX4_blockedBy_X4_wants : GoodIn wsX4_blockedBy (va_wsS RX4 74 yX4_wants wsX4_wants) := goodIn_app (goodIn_of _ (by decide +kernel)) ggX4_blockedBy_X4_wants
set_option maxRecDepth 20000 in
theorem ggX4_blockedBy_X4_takenBy : GoodIn wsX4_blockedBy wsX4_takenBy := goodIn_r _ [25, 8, 9, 3, 10] (by decide +kernel) (by decide +kernel)
set_option maxRecDepth 20000 in
theorem gX4_blockedBy_X4_takenBy : GoodIn wsX4_blockedBy (va_wsS RX4 56 yX4_takenBy wsX4_takenBy) := goodIn_app (goodIn_of _ (by decide +kernel)) ggX4_blockedBy_X4_takenBy
theorem dX4_blockedBy_0 : decode cX4_blockedBy 0 = .ok (.aload_n 0, 1) := by decide +kernel
theorem dX4_blockedBy_1 : decode cX4_blockedBy 1 = .ok (.iload_n 1, 1) := by decide +kernel
theorem dX4_blockedBy_2 : decode cX4_blockedBy 2 = .ok (.invokestatic 74, 3) := by decide +kernel
theorem dX4_blockedBy_5 : decode cX4_blockedBy 5 = .ok (.istore_n 2, 1) := by decide +kernel
theorem dX4_blockedBy_6 : decode cX4_blockedBy 6 = .ok (.iload_n 2, 1) := by decide +kernel
theorem dX4_blockedBy_7 : decode cX4_blockedBy 7 = .ok (.iconst (-1), 1) := by decide +kernel
theorem dX4_blockedBy_8 : decode cX4_blockedBy 8 = .ok (.if_icmp .ne 7, 3) := by decide +kernel
theorem dX4_blockedBy_11 : decode cX4_blockedBy 11 = .ok (.iconst (-1), 1) := by decide +kernel
theorem dX4_blockedBy_12 : decode cX4_blockedBy 12 = .ok (.goto 8, 3) := by decide +kernel
theorem dX4_blockedBy_15 : decode cX4_blockedBy 15 = .ok (.aload_n 0, 1) := by decide +kernel
theorem dX4_blockedBy_16 : decode cX4_blockedBy 16 = .ok (.iload_n 2, 1) := by decide +kernel
theorem dX4_blockedBy_17 : decode cX4_blockedBy 17 = .ok (.invokestatic 56, 3) := by decide +kernel
theorem dX4_blockedBy_20 : decode cX4_blockedBy 20 = .ok (.ireturn, 1) := by decide +kernel
set_option maxRecDepth 20000 in
theorem ggX4_waits_X4_of : GoodIn wsX4_waits wsX4_of := goodIn_r _ [4] (by decide +kernel) (by decide +kernel)
set_option maxRecDepth 20000 in
theorem gX4_waits_X4_of : GoodIn wsX4_waits (va_wsS RX4 48 yX4_of wsX4_of) := goodIn_app (goodIn_of _ (by decide +kernel)) ggX4_waits_X4_of
set_option maxRecDepth 20000 in
theorem ggX4_waits_X4_lay : GoodIn wsX4_waits wsX4_lay := goodIn_r _ [7] (by decide +kernel) (by decide +kernel)
set_option maxRecDepth 20000 in
theorem gX4_waits_X4_lay : GoodIn wsX4_waits (va_wsS RX4 77 yX4_lay wsX4_lay) := goodIn_app (goodIn_of _ (by decide +kernel)) ggX4_waits_X4_lay
theorem dX4_waits_0 : decode cX4_waits 0 = .ok (.aload_n 0, 1) := by decide +kernel
theorem dX4_waits_1 : decode cX4_waits 1 = .ok (.iload_n 1, 1) := by decide +kernel
theorem dX4_waits_2 : decode cX4_waits 2 = .ok (.iconst 4, 1) := by decide +kernel
theorem dX4_waits_3 : decode cX4_waits 3 = .ok (.aload_n 0, 1) := by decide +kernel
theorem dX4_waits_4 : decode cX4_waits 4 = .ok (.iload_n 1, 1) := by decide +kernel
theorem dX4_waits_5 : decode cX4_waits 5 = .ok (.iconst 4, 1) := by decide +kernel
theorem dX4_waits_6 : decode cX4_waits 6 = .ok (.invokestatic 48, 3) := by decide +kernel
theorem dX4_waits_9 : decode cX4_waits 9 = .ok (.iconst 1, 1) := by decide +kernel
theorem dX4_waits_10 : decode cX4_waits 10 = .ok (.iadd, 1) := by decide +kernel
theorem dX4_waits_11 : decode cX4_waits 11 = .ok (.invokestatic 77, 3) := by decide +kernel
theorem dX4_waits_14 : decode cX4_waits 14 = .ok (.aload_n 0, 1) := by decide +kernel
theorem dX4_waits_15 : decode cX4_waits 15 = .ok (.iconst 3, 1) := by decide +kernel
theorem dX4_waits_16 : decode cX4_waits 16 = .ok (.dup2, 1) := by decide +kernel
theorem dX4_waits_17 : decode cX4_waits 17 = .ok (.iaload, 1) := by decide +kernel
theorem dX4_waits_18 : decode cX4_waits 18 = .ok (.iconst 1, 1) := by decide +kernel
theorem dX4_waits_19 : decode cX4_waits 19 = .ok (.iadd, 1) := by decide +kernel
theorem dX4_waits_20 : decode cX4_waits 20 = .ok (.iastore, 1) := by decide +kernel
theorem dX4_waits_21 : decode cX4_waits 21 = .ok (.return_, 1) := by decide +kernel
set_option maxRecDepth 20000 in
theorem ggX4_goes_X4_of : GoodIn wsX4_goes wsX4_of := goodIn_r _ [4] (by decide +kernel) (by decide +kernel)
set_option maxRecDepth 20000 in
theorem gX4_goes_X4_of : GoodIn wsX4_goes (va_wsS RX4 48 yX4_of wsX4_of) := goodIn_app (goodIn_of _ (by decide +kernel)) ggX4_goes_X4_of
set_option maxRecDepth 20000 in
theorem ggX4_goes_X4_lay : GoodIn wsX4_goes wsX4_lay := goodIn_r _ [7] (by decide +kernel) (by decide +kernel)
set_option maxRecDepth 20000 in
theorem gX4_goes_X4_lay : GoodIn wsX4_goes (va_wsS RX4 77 yX4_lay wsX4_lay) := goodIn_app (goodIn_of _ (by decide +kernel)) ggX4_goes_X4_lay
theorem dX4_goes_0 : decode cX4_goes 0 = .ok (.aload_n 0, 1) := by decide +kernel
theorem dX4_goes_1 : decode cX4_goes 1 = .ok (.iload_n 1, 1) := by decide +kernel
theorem dX4_goes_2 : decode cX4_goes 2 = .ok (.iconst 1, 1) := by decide +kernel
theorem dX4_goes_3 : decode cX4_goes 3 = .ok (.invokestatic 48, 3) := by decide +kernel
theorem dX4_goes_6 : decode cX4_goes 6 = .ok (.bipush 9, 2) := by decide +kernel
theorem dX4_goes_8 : decode cX4_goes 8 = .ok (.if_icmp .ge 12, 3) := by decide +kernel
theorem dX4_goes_11 : decode cX4_goes 11 = .ok (.aload_n 0, 1) := by decide +kernel
theorem dX4_goes_12 : decode cX4_goes 12 = .ok (.iload_n 1, 1) := by decide +kernel
theorem dX4_goes_13 : decode cX4_goes 13 = .ok (.iconst 1, 1) := by decide +kernel
theorem dX4_goes_14 : decode cX4_goes 14 = .ok (.invokestatic 48, 3) := by decide +kernel
theorem dX4_goes_17 : decode cX4_goes 17 = .ok (.goto 5, 3) := by decide +kernel
theorem dX4_goes_20 : decode cX4_goes 20 = .ok (.bipush 8, 2) := by decide +kernel
theorem dX4_goes_22 : decode cX4_goes 22 = .ok (.istore_n 3, 1) := by decide +kernel
theorem dX4_goes_23 : decode cX4_goes 23 = .ok (.iload_n 3, 1) := by decide +kernel
theorem dX4_goes_24 : decode cX4_goes 24 = .ok (.ifCond .le 29, 3) := by decide +kernel
theorem dX4_goes_27 : decode cX4_goes 27 = .ok (.aload_n 0, 1) := by decide +kernel
theorem dX4_goes_28 : decode cX4_goes 28 = .ok (.iload_n 1, 1) := by decide +kernel
theorem dX4_goes_29 : decode cX4_goes 29 = .ok (.bipush 9, 2) := by decide +kernel
theorem dX4_goes_31 : decode cX4_goes 31 = .ok (.iload_n 3, 1) := by decide +kernel
theorem dX4_goes_32 : decode cX4_goes 32 = .ok (.iadd, 1) := by decide +kernel
theorem dX4_goes_33 : decode cX4_goes 33 = .ok (.aload_n 0, 1) := by decide +kernel
theorem dX4_goes_34 : decode cX4_goes 34 = .ok (.iload_n 1, 1) := by decide +kernel
theorem dX4_goes_35 : decode cX4_goes 35 = .ok (.bipush 9, 2) := by decide +kernel
theorem dX4_goes_37 : decode cX4_goes 37 = .ok (.iload_n 3, 1) := by decide +kernel
theorem dX4_goes_38 : decode cX4_goes 38 = .ok (.iadd, 1) := by decide +kernel
theorem dX4_goes_39 : decode cX4_goes 39 = .ok (.iconst 1, 1) := by decide +kernel
theorem dX4_goes_40 : decode cX4_goes 40 = .ok (.isub, 1) := by decide +kernel
theorem dX4_goes_41 : decode cX4_goes 41 = .ok (.invokestatic 48, 3) := by decide +kernel
theorem dX4_goes_44 : decode cX4_goes 44 = .ok (.invokestatic 77, 3) := by decide +kernel
theorem dX4_goes_47 : decode cX4_goes 47 = .ok (.iinc 3 (-1), 3) := by decide +kernel
theorem dX4_goes_50 : decode cX4_goes 50 = .ok (.goto (-27), 3) := by decide +kernel
theorem dX4_goes_53 : decode cX4_goes 53 = .ok (.aload_n 0, 1) := by decide +kernel
theorem dX4_goes_54 : decode cX4_goes 54 = .ok (.iload_n 1, 1) := by decide +kernel
theorem dX4_goes_55 : decode cX4_goes 55 = .ok (.bipush 9, 2) := by decide +kernel
theorem dX4_goes_57 : decode cX4_goes 57 = .ok (.iload_n 2, 1) := by decide +kernel
theorem dX4_goes_58 : decode cX4_goes 58 = .ok (.invokestatic 77, 3) := by decide +kernel
theorem dX4_goes_61 : decode cX4_goes 61 = .ok (.aload_n 0, 1) := by decide +kernel
theorem dX4_goes_62 : decode cX4_goes 62 = .ok (.iload_n 1, 1) := by decide +kernel
theorem dX4_goes_63 : decode cX4_goes 63 = .ok (.iconst 2, 1) := by decide +kernel
theorem dX4_goes_64 : decode cX4_goes 64 = .ok (.invokestatic 48, 3) := by decide +kernel
theorem dX4_goes_67 : decode cX4_goes 67 = .ok (.ifCond .le 31, 3) := by decide +kernel
theorem dX4_goes_70 : decode cX4_goes 70 = .ok (.aload_n 0, 1) := by decide +kernel
theorem dX4_goes_71 : decode cX4_goes 71 = .ok (.iload_n 1, 1) := by decide +kernel
theorem dX4_goes_72 : decode cX4_goes 72 = .ok (.iconst 2, 1) := by decide +kernel
theorem dX4_goes_73 : decode cX4_goes 73 = .ok (.aload_n 0, 1) := by decide +kernel
theorem dX4_goes_74 : decode cX4_goes 74 = .ok (.iload_n 1, 1) := by decide +kernel
theorem dX4_goes_75 : decode cX4_goes 75 = .ok (.iconst 2, 1) := by decide +kernel
theorem dX4_goes_76 : decode cX4_goes 76 = .ok (.invokestatic 48, 3) := by decide +kernel
theorem dX4_goes_79 : decode cX4_goes 79 = .ok (.iconst 1, 1) := by decide +kernel
theorem dX4_goes_80 : decode cX4_goes 80 = .ok (.isub, 1) := by decide +kernel
theorem dX4_goes_81 : decode cX4_goes 81 = .ok (.invokestatic 77, 3) := by decide +kernel
theorem dX4_goes_84 : decode cX4_goes 84 = .ok (.aload_n 0, 1) := by decide +kernel
theorem dX4_goes_85 : decode cX4_goes 85 = .ok (.iload_n 1, 1) := by decide +kernel
theorem dX4_goes_86 : decode cX4_goes 86 = .ok (.iconst 1, 1) := by decide +kernel
theorem dX4_goes_87 : decode cX4_goes 87 = .ok (.aload_n 0, 1) := by decide +kernel
theorem dX4_goes_88 : decode cX4_goes 88 = .ok (.iload_n 1, 1) := by decide +kernel
theorem dX4_goes_89 : decode cX4_goes 89 = .ok (.iconst 1, 1) := by decide +kernel
theorem dX4_goes_90 : decode cX4_goes 90 = .ok (.invokestatic 48, 3) := by decide +kernel
theorem dX4_goes_93 : decode cX4_goes 93 = .ok (.iconst 1, 1) := by decide +kernel
theorem dX4_goes_94 : decode cX4_goes 94 = .ok (.iadd, 1) := by decide +kernel
theorem dX4_goes_95 : decode cX4_goes 95 = .ok (.invokestatic 77, 3) := by decide +kernel
theorem dX4_goes_98 : decode cX4_goes 98 = .ok (.return_, 1) := by decide +kernel
set_option maxRecDepth 20000 in
theorem ggX4_eatsOne_X4_of : GoodIn wsX4_eatsOne wsX4_of := goodIn_r _ [4] (by decide +kernel) (by decide +kernel)
set_option maxRecDepth 20000 in
theorem gX4_eatsOne_X4_of : GoodIn wsX4_eatsOne (va_wsS RX4 48 yX4_of wsX4_of) := goodIn_app (goodIn_of _ (by decide +kernel)) ggX4_eatsOne_X4_of
set_option maxRecDepth 20000 in
theorem ggX4_eatsOne_X4_lay : GoodIn wsX4_eatsOne wsX4_lay := goodIn_r _ [7] (by decide +kernel) (by decide +kernel)
set_option maxRecDepth 20000 in
theorem gX4_eatsOne_X4_lay : GoodIn wsX4_eatsOne (va_wsS RX4 77 yX4_lay wsX4_lay) := goodIn_app (goodIn_of _ (by decide +kernel)) ggX4_eatsOne_X4_lay
theorem dX4_eatsOne_0 : decode cX4_eatsOne 0 = .ok (.aload_n 0, 1) := by decide +kernel
theorem dX4_eatsOne_1 : decode cX4_eatsOne 1 = .ok (.iload_n 1, 1) := by decide +kernel
theorem dX4_eatsOne_2 : decode cX4_eatsOne 2 = .ok (.iconst 3, 1) := by decide +kernel
theorem dX4_eatsOne_3 : decode cX4_eatsOne 3 = .ok (.aload_n 0, 1) := by decide +kernel
theorem dX4_eatsOne_4 : decode cX4_eatsOne 4 = .ok (.iload_n 1, 1) := by decide +kernel
theorem dX4_eatsOne_5 : decode cX4_eatsOne 5 = .ok (.iconst 3, 1) := by decide +kernel
theorem dX4_eatsOne_6 : decode cX4_eatsOne 6 = .ok (.invokestatic 48, 3) := by decide +kernel
theorem dX4_eatsOne_9 : decode cX4_eatsOne 9 = .ok (.iconst 1, 1) := by decide +kernel
theorem dX4_eatsOne_10 : decode cX4_eatsOne 10 = .ok (.iadd, 1) := by decide +kernel
theorem dX4_eatsOne_11 : decode cX4_eatsOne 11 = .ok (.invokestatic 77, 3) := by decide +kernel
theorem dX4_eatsOne_14 : decode cX4_eatsOne 14 = .ok (.aload_n 0, 1) := by decide +kernel
theorem dX4_eatsOne_15 : decode cX4_eatsOne 15 = .ok (.iload_n 1, 1) := by decide +kernel
theorem dX4_eatsOne_16 : decode cX4_eatsOne 16 = .ok (.iconst 2, 1) := by decide +kernel
theorem dX4_eatsOne_17 : decode cX4_eatsOne 17 = .ok (.invokestatic 48, 3) := by decide +kernel
theorem dX4_eatsOne_20 : decode cX4_eatsOne 20 = .ok (.ifCond .le 20, 3) := by decide +kernel
theorem dX4_eatsOne_23 : decode cX4_eatsOne 23 = .ok (.aload_n 0, 1) := by decide +kernel
theorem dX4_eatsOne_24 : decode cX4_eatsOne 24 = .ok (.iload_n 1, 1) := by decide +kernel
theorem dX4_eatsOne_25 : decode cX4_eatsOne 25 = .ok (.iconst 2, 1) := by decide +kernel
theorem dX4_eatsOne_26 : decode cX4_eatsOne 26 = .ok (.aload_n 0, 1) := by decide +kernel
theorem dX4_eatsOne_27 : decode cX4_eatsOne 27 = .ok (.iload_n 1, 1) := by decide +kernel
theorem dX4_eatsOne_28 : decode cX4_eatsOne 28 = .ok (.iconst 2, 1) := by decide +kernel
theorem dX4_eatsOne_29 : decode cX4_eatsOne 29 = .ok (.invokestatic 48, 3) := by decide +kernel
theorem dX4_eatsOne_32 : decode cX4_eatsOne 32 = .ok (.iconst 1, 1) := by decide +kernel
theorem dX4_eatsOne_33 : decode cX4_eatsOne 33 = .ok (.isub, 1) := by decide +kernel
theorem dX4_eatsOne_34 : decode cX4_eatsOne 34 = .ok (.invokestatic 77, 3) := by decide +kernel
theorem dX4_eatsOne_37 : decode cX4_eatsOne 37 = .ok (.goto 17, 3) := by decide +kernel
theorem dX4_eatsOne_40 : decode cX4_eatsOne 40 = .ok (.aload_n 0, 1) := by decide +kernel
theorem dX4_eatsOne_41 : decode cX4_eatsOne 41 = .ok (.iload_n 1, 1) := by decide +kernel
theorem dX4_eatsOne_42 : decode cX4_eatsOne 42 = .ok (.iconst 1, 1) := by decide +kernel
theorem dX4_eatsOne_43 : decode cX4_eatsOne 43 = .ok (.aload_n 0, 1) := by decide +kernel
theorem dX4_eatsOne_44 : decode cX4_eatsOne 44 = .ok (.iload_n 1, 1) := by decide +kernel
theorem dX4_eatsOne_45 : decode cX4_eatsOne 45 = .ok (.iconst 1, 1) := by decide +kernel
theorem dX4_eatsOne_46 : decode cX4_eatsOne 46 = .ok (.invokestatic 48, 3) := by decide +kernel
theorem dX4_eatsOne_49 : decode cX4_eatsOne 49 = .ok (.iconst 1, 1) := by decide +kernel
theorem dX4_eatsOne_50 : decode cX4_eatsOne 50 = .ok (.isub, 1) := by decide +kernel
theorem dX4_eatsOne_51 : decode cX4_eatsOne 51 = .ok (.invokestatic 77, 3) := by decide +kernel
theorem dX4_eatsOne_54 : decode cX4_eatsOne 54 = .ok (.aload_n 0, 1) := by decide +kernel
theorem dX4_eatsOne_55 : decode cX4_eatsOne 55 = .ok (.iload_n 1, 1) := by decide +kernel
theorem dX4_eatsOne_56 : decode cX4_eatsOne 56 = .ok (.iconst 1, 1) := by decide +kernel
theorem dX4_eatsOne_57 : decode cX4_eatsOne 57 = .ok (.invokestatic 48, 3) := by decide +kernel
theorem dX4_eatsOne_60 : decode cX4_eatsOne 60 = .ok (.ifCond .ne 21, 3) := by decide +kernel
theorem dX4_eatsOne_63 : decode cX4_eatsOne 63 = .ok (.aload_n 0, 1) := by decide +kernel
theorem dX4_eatsOne_64 : decode cX4_eatsOne 64 = .ok (.iload_n 1, 1) := by decide +kernel
theorem dX4_eatsOne_65 : decode cX4_eatsOne 65 = .ok (.iconst 0, 1) := by decide +kernel
theorem dX4_eatsOne_66 : decode cX4_eatsOne 66 = .ok (.iconst 2, 1) := by decide +kernel
theorem dX4_eatsOne_67 : decode cX4_eatsOne 67 = .ok (.invokestatic 77, 3) := by decide +kernel
theorem dX4_eatsOne_70 : decode cX4_eatsOne 70 = .ok (.aload_n 0, 1) := by decide +kernel
theorem dX4_eatsOne_71 : decode cX4_eatsOne 71 = .ok (.iload_n 1, 1) := by decide +kernel
theorem dX4_eatsOne_72 : decode cX4_eatsOne 72 = .ok (.iconst 5, 1) := by decide +kernel
theorem dX4_eatsOne_73 : decode cX4_eatsOne 73 = .ok (.aload_n 0, 1) := by decide +kernel
theorem dX4_eatsOne_74 : decode cX4_eatsOne 74 = .ok (.iconst 1, 1) := by decide +kernel
theorem dX4_eatsOne_75 : decode cX4_eatsOne 75 = .ok (.iaload, 1) := by decide +kernel
theorem dX4_eatsOne_76 : decode cX4_eatsOne 76 = .ok (.iconst 1, 1) := by decide +kernel
theorem dX4_eatsOne_77 : decode cX4_eatsOne 77 = .ok (.iadd, 1) := by decide +kernel
theorem dX4_eatsOne_78 : decode cX4_eatsOne 78 = .ok (.invokestatic 77, 3) := by decide +kernel
theorem dX4_eatsOne_81 : decode cX4_eatsOne 81 = .ok (.return_, 1) := by decide +kernel
set_option maxRecDepth 20000 in
theorem ggX4_acts_X4_wants : GoodIn wsX4_acts wsX4_wants := goodIn_r _ [4, 5, 6, 3, 7, 8, 9, 10, 11, 12, 13, 14, 15, 16, 17, 18, 19, 20, 21, 22, 23, 24, 25] (by decide +kernel) (by decide +kernel)
set_option maxRecDepth 20000 in
theorem gX4_acts_X4_wants : GoodIn wsX4_acts (va_wsS RX4 74 yX4_wants wsX4_wants) := goodIn_app (goodIn_of _ (by decide +kernel)) ggX4_acts_X4_wants
set_option maxRecDepth 20000 in
theorem ggX4_acts_X4_eats : GoodIn wsX4_acts wsX4_eats := goodIn_r _ [13, 5, 6, 3, 7, 8, 9, 10] (by decide +kernel) (by decide +kernel)
set_option maxRecDepth 20000 in
theorem gX4_acts_X4_eats : GoodIn wsX4_acts (va_wsS RX4 68 yX4_eats wsX4_eats) := goodIn_app (goodIn_of _ (by decide +kernel)) ggX4_acts_X4_eats
set_option maxRecDepth 20000 in
theorem ggX4_acts_X4_eatsOne : GoodIn wsX4_acts wsX4_eatsOne := goodIn_r _ [28, 8, 9, 3, 10, 29, 30, 31] (by decide +kernel) (by decide +kernel)
set_option maxRecDepth 20000 in
theorem gX4_acts_X4_eatsOne : GoodIn wsX4_acts (va_wsS RX4 81 yX4_eatsOne wsX4_eatsOne) := goodIn_app (goodIn_of _ (by decide +kernel)) ggX4_acts_X4_eatsOne
set_option maxRecDepth 20000 in
theorem ggX4_acts_X4_isFree : GoodIn wsX4_acts wsX4_isFree := goodIn_r _ [22, 23, 24, 3, 25, 8, 9, 10] (by decide +kernel) (by decide +kernel)
set_option maxRecDepth 20000 in
theorem gX4_acts_X4_isFree : GoodIn wsX4_acts (va_wsS RX4 64 yX4_isFree wsX4_isFree) := goodIn_app (goodIn_of _ (by decide +kernel)) ggX4_acts_X4_isFree
set_option maxRecDepth 20000 in
theorem ggX4_acts_X4_goes : GoodIn wsX4_acts wsX4_goes := goodIn_r _ [34, 8, 9, 3, 10, 29, 30, 31] (by decide +kernel) (by decide +kernel)
set_option maxRecDepth 20000 in
theorem gX4_acts_X4_goes : GoodIn wsX4_acts (va_wsS RX4 85 yX4_goes wsX4_goes) := goodIn_app (goodIn_of _ (by decide +kernel)) ggX4_acts_X4_goes
set_option maxRecDepth 20000 in
theorem ggX4_acts_X4_lay : GoodIn wsX4_acts wsX4_lay := goodIn_r _ [31] (by decide +kernel) (by decide +kernel)
set_option maxRecDepth 20000 in
theorem gX4_acts_X4_lay : GoodIn wsX4_acts (va_wsS RX4 77 yX4_lay wsX4_lay) := goodIn_app (goodIn_of _ (by decide +kernel)) ggX4_acts_X4_lay
set_option maxRecDepth 20000 in
theorem ggX4_acts_X4_waits : GoodIn wsX4_acts wsX4_waits := goodIn_r _ [37, 8, 9, 3, 10, 29, 30, 31] (by decide +kernel) (by decide +kernel)
set_option maxRecDepth 20000 in
theorem gX4_acts_X4_waits : GoodIn wsX4_acts (va_wsS RX4 89 yX4_waits wsX4_waits) := goodIn_app (goodIn_of _ (by decide +kernel)) ggX4_acts_X4_waits
theorem dX4_acts_0 : decode cX4_acts 0 = .ok (.aload_n 0, 1) := by decide +kernel
theorem dX4_acts_1 : decode cX4_acts 1 = .ok (.iload_n 1, 1) := by decide +kernel
theorem dX4_acts_2 : decode cX4_acts 2 = .ok (.invokestatic 74, 3) := by decide +kernel
theorem dX4_acts_5 : decode cX4_acts 5 = .ok (.istore_n 2, 1) := by decide +kernel
theorem dX4_acts_6 : decode cX4_acts 6 = .ok (.aload_n 0, 1) := by decide +kernel
theorem dX4_acts_7 : decode cX4_acts 7 = .ok (.iload_n 1, 1) := by decide +kernel
theorem dX4_acts_8 : decode cX4_acts 8 = .ok (.invokestatic 68, 3) := by decide +kernel
theorem dX4_acts_11 : decode cX4_acts 11 = .ok (.ifCond .eq 11, 3) := by decide +kernel
theorem dX4_acts_14 : decode cX4_acts 14 = .ok (.aload_n 0, 1) := by decide +kernel
theorem dX4_acts_15 : decode cX4_acts 15 = .ok (.iload_n 1, 1) := by decide +kernel
theorem dX4_acts_16 : decode cX4_acts 16 = .ok (.invokestatic 81, 3) := by decide +kernel
theorem dX4_acts_19 : decode cX4_acts 19 = .ok (.goto 42, 3) := by decide +kernel
theorem dX4_acts_22 : decode cX4_acts 22 = .ok (.iload_n 2, 1) := by decide +kernel
theorem dX4_acts_23 : decode cX4_acts 23 = .ok (.iconst (-1), 1) := by decide +kernel
theorem dX4_acts_24 : decode cX4_acts 24 = .ok (.if_icmp .eq 27, 3) := by decide +kernel
theorem dX4_acts_27 : decode cX4_acts 27 = .ok (.aload_n 0, 1) := by decide +kernel
theorem dX4_acts_28 : decode cX4_acts 28 = .ok (.iload_n 2, 1) := by decide +kernel
theorem dX4_acts_29 : decode cX4_acts 29 = .ok (.invokestatic 64, 3) := by decide +kernel
theorem dX4_acts_32 : decode cX4_acts 32 = .ok (.ifCond .eq 19, 3) := by decide +kernel
theorem dX4_acts_35 : decode cX4_acts 35 = .ok (.aload_n 0, 1) := by decide +kernel
theorem dX4_acts_36 : decode cX4_acts 36 = .ok (.iload_n 1, 1) := by decide +kernel
theorem dX4_acts_37 : decode cX4_acts 37 = .ok (.iload_n 2, 1) := by decide +kernel
theorem dX4_acts_38 : decode cX4_acts 38 = .ok (.invokestatic 85, 3) := by decide +kernel
theorem dX4_acts_41 : decode cX4_acts 41 = .ok (.aload_n 0, 1) := by decide +kernel
theorem dX4_acts_42 : decode cX4_acts 42 = .ok (.iload_n 1, 1) := by decide +kernel
theorem dX4_acts_43 : decode cX4_acts 43 = .ok (.iconst 0, 1) := by decide +kernel
theorem dX4_acts_44 : decode cX4_acts 44 = .ok (.iconst 1, 1) := by decide +kernel
theorem dX4_acts_45 : decode cX4_acts 45 = .ok (.invokestatic 77, 3) := by decide +kernel
theorem dX4_acts_48 : decode cX4_acts 48 = .ok (.goto 13, 3) := by decide +kernel
theorem dX4_acts_51 : decode cX4_acts 51 = .ok (.iload_n 2, 1) := by decide +kernel
theorem dX4_acts_52 : decode cX4_acts 52 = .ok (.iconst (-1), 1) := by decide +kernel
theorem dX4_acts_53 : decode cX4_acts 53 = .ok (.if_icmp .eq 8, 3) := by decide +kernel
theorem dX4_acts_56 : decode cX4_acts 56 = .ok (.aload_n 0, 1) := by decide +kernel
theorem dX4_acts_57 : decode cX4_acts 57 = .ok (.iload_n 1, 1) := by decide +kernel
theorem dX4_acts_58 : decode cX4_acts 58 = .ok (.invokestatic 89, 3) := by decide +kernel
theorem dX4_acts_61 : decode cX4_acts 61 = .ok (.return_, 1) := by decide +kernel
set_option maxRecDepth 20000 in
theorem ggX4_ticksOn_X4_count : GoodIn wsX4_ticksOn wsX4_count := goodIn_r _ [4, 5, 6, 3, 7, 8, 9, 10] (by decide +kernel) (by decide +kernel)
set_option maxRecDepth 20000 in
theorem gX4_ticksOn_X4_count : GoodIn wsX4_ticksOn (va_wsS RX4 92 yX4_count wsX4_count) := goodIn_app (goodIn_of _ (by decide +kernel)) ggX4_ticksOn_X4_count
set_option maxRecDepth 20000 in
theorem ggX4_ticksOn_X4_acts : GoodIn wsX4_ticksOn wsX4_acts := goodIn_r _ [13, 14, 15, 3, 16, 5, 6, 7, 8, 9, 10, 17, 18, 19, 20, 21, 22, 23, 24, 25, 26, 27, 28, 29, 30, 31, 32, 33, 34, 35, 36, 37, 38, 39, 40, 41, 42, 43] (by decide +kernel) (by decide +kernel)
set_option maxRecDepth 20000 in
theorem gX4_ticksOn_X4_acts : GoodIn wsX4_ticksOn (va_wsS RX4 95 yX4_acts wsX4_acts) := goodIn_app (goodIn_of _ (by decide +kernel)) ggX4_ticksOn_X4_acts
theorem dX4_ticksOn_0 : decode cX4_ticksOn 0 = .ok (.aload_n 0, 1) := by decide +kernel
theorem dX4_ticksOn_1 : decode cX4_ticksOn 1 = .ok (.iconst 2, 1) := by decide +kernel
theorem dX4_ticksOn_2 : decode cX4_ticksOn 2 = .ok (.invokestatic 92, 3) := by decide +kernel
theorem dX4_ticksOn_5 : decode cX4_ticksOn 5 = .ok (.istore_n 2, 1) := by decide +kernel
theorem dX4_ticksOn_6 : decode cX4_ticksOn 6 = .ok (.iconst 0, 1) := by decide +kernel
theorem dX4_ticksOn_7 : decode cX4_ticksOn 7 = .ok (.istore_n 3, 1) := by decide +kernel
theorem dX4_ticksOn_8 : decode cX4_ticksOn 8 = .ok (.iload_n 3, 1) := by decide +kernel
theorem dX4_ticksOn_9 : decode cX4_ticksOn 9 = .ok (.iload_n 1, 1) := by decide +kernel
theorem dX4_ticksOn_10 : decode cX4_ticksOn 10 = .ok (.if_icmp .ge 39, 3) := by decide +kernel
theorem dX4_ticksOn_13 : decode cX4_ticksOn 13 = .ok (.iconst 0, 1) := by decide +kernel
theorem dX4_ticksOn_14 : decode cX4_ticksOn 14 = .ok (.istore 4, 2) := by decide +kernel
theorem dX4_ticksOn_16 : decode cX4_ticksOn 16 = .ok (.iload 4, 2) := by decide +kernel
theorem dX4_ticksOn_18 : decode cX4_ticksOn 18 = .ok (.aload_n 0, 1) := by decide +kernel
theorem dX4_ticksOn_19 : decode cX4_ticksOn 19 = .ok (.iconst 0, 1) := by decide +kernel
theorem dX4_ticksOn_20 : decode cX4_ticksOn 20 = .ok (.iaload, 1) := by decide +kernel
theorem dX4_ticksOn_21 : decode cX4_ticksOn 21 = .ok (.if_icmp .ge 15, 3) := by decide +kernel
theorem dX4_ticksOn_24 : decode cX4_ticksOn 24 = .ok (.aload_n 0, 1) := by decide +kernel
theorem dX4_ticksOn_25 : decode cX4_ticksOn 25 = .ok (.iload 4, 2) := by decide +kernel
theorem dX4_ticksOn_27 : decode cX4_ticksOn 27 = .ok (.invokestatic 95, 3) := by decide +kernel
theorem dX4_ticksOn_30 : decode cX4_ticksOn 30 = .ok (.iinc 4 1, 3) := by decide +kernel
theorem dX4_ticksOn_33 : decode cX4_ticksOn 33 = .ok (.goto (-17), 3) := by decide +kernel
theorem dX4_ticksOn_36 : decode cX4_ticksOn 36 = .ok (.aload_n 0, 1) := by decide +kernel
theorem dX4_ticksOn_37 : decode cX4_ticksOn 37 = .ok (.iconst 1, 1) := by decide +kernel
theorem dX4_ticksOn_38 : decode cX4_ticksOn 38 = .ok (.dup2, 1) := by decide +kernel
theorem dX4_ticksOn_39 : decode cX4_ticksOn 39 = .ok (.iaload, 1) := by decide +kernel
theorem dX4_ticksOn_40 : decode cX4_ticksOn 40 = .ok (.iconst 1, 1) := by decide +kernel
theorem dX4_ticksOn_41 : decode cX4_ticksOn 41 = .ok (.iadd, 1) := by decide +kernel
theorem dX4_ticksOn_42 : decode cX4_ticksOn 42 = .ok (.iastore, 1) := by decide +kernel
theorem dX4_ticksOn_43 : decode cX4_ticksOn 43 = .ok (.iinc 3 1, 3) := by decide +kernel
theorem dX4_ticksOn_46 : decode cX4_ticksOn 46 = .ok (.goto (-38), 3) := by decide +kernel
theorem dX4_ticksOn_49 : decode cX4_ticksOn 49 = .ok (.aload_n 0, 1) := by decide +kernel
theorem dX4_ticksOn_50 : decode cX4_ticksOn 50 = .ok (.iconst 2, 1) := by decide +kernel
theorem dX4_ticksOn_51 : decode cX4_ticksOn 51 = .ok (.invokestatic 92, 3) := by decide +kernel
theorem dX4_ticksOn_54 : decode cX4_ticksOn 54 = .ok (.iload_n 2, 1) := by decide +kernel
theorem dX4_ticksOn_55 : decode cX4_ticksOn 55 = .ok (.isub, 1) := by decide +kernel
theorem dX4_ticksOn_56 : decode cX4_ticksOn 56 = .ok (.ireturn, 1) := by decide +kernel
set_option maxRecDepth 20000 in
theorem ggX4_hatchOn_X4_lay : GoodIn wsX4_hatchOn wsX4_lay := goodIn_r _ [4] (by decide +kernel) (by decide +kernel)
set_option maxRecDepth 20000 in
theorem gX4_hatchOn_X4_lay : GoodIn wsX4_hatchOn (va_wsS RX4 77 yX4_lay wsX4_lay) := goodIn_app (goodIn_of _ (by decide +kernel)) ggX4_hatchOn_X4_lay
theorem dX4_hatchOn_0 : decode cX4_hatchOn 0 = .ok (.aload_n 0, 1) := by decide +kernel
theorem dX4_hatchOn_1 : decode cX4_hatchOn 1 = .ok (.iconst 0, 1) := by decide +kernel
theorem dX4_hatchOn_2 : decode cX4_hatchOn 2 = .ok (.iaload, 1) := by decide +kernel
theorem dX4_hatchOn_3 : decode cX4_hatchOn 3 = .ok (.istore 4, 2) := by decide +kernel
theorem dX4_hatchOn_5 : decode cX4_hatchOn 5 = .ok (.iconst 0, 1) := by decide +kernel
theorem dX4_hatchOn_6 : decode cX4_hatchOn 6 = .ok (.istore 5, 2) := by decide +kernel
theorem dX4_hatchOn_8 : decode cX4_hatchOn 8 = .ok (.iload 5, 2) := by decide +kernel
theorem dX4_hatchOn_10 : decode cX4_hatchOn 10 = .ok (.bipush 18, 2) := by decide +kernel
theorem dX4_hatchOn_12 : decode cX4_hatchOn 12 = .ok (.if_icmp .ge 18, 3) := by decide +kernel
theorem dX4_hatchOn_15 : decode cX4_hatchOn 15 = .ok (.aload_n 0, 1) := by decide +kernel
theorem dX4_hatchOn_16 : decode cX4_hatchOn 16 = .ok (.iload 4, 2) := by decide +kernel
theorem dX4_hatchOn_18 : decode cX4_hatchOn 18 = .ok (.iload 5, 2) := by decide +kernel
theorem dX4_hatchOn_20 : decode cX4_hatchOn 20 = .ok (.iconst 0, 1) := by decide +kernel
theorem dX4_hatchOn_21 : decode cX4_hatchOn 21 = .ok (.invokestatic 77, 3) := by decide +kernel
theorem dX4_hatchOn_24 : decode cX4_hatchOn 24 = .ok (.iinc 5 1, 3) := by decide +kernel
theorem dX4_hatchOn_27 : decode cX4_hatchOn 27 = .ok (.goto (-19), 3) := by decide +kernel
theorem dX4_hatchOn_30 : decode cX4_hatchOn 30 = .ok (.aload_n 0, 1) := by decide +kernel
theorem dX4_hatchOn_31 : decode cX4_hatchOn 31 = .ok (.iload 4, 2) := by decide +kernel
theorem dX4_hatchOn_33 : decode cX4_hatchOn 33 = .ok (.iconst 2, 1) := by decide +kernel
theorem dX4_hatchOn_34 : decode cX4_hatchOn 34 = .ok (.iload_n 3, 1) := by decide +kernel
theorem dX4_hatchOn_35 : decode cX4_hatchOn 35 = .ok (.invokestatic 77, 3) := by decide +kernel
theorem dX4_hatchOn_38 : decode cX4_hatchOn 38 = .ok (.aload_n 0, 1) := by decide +kernel
theorem dX4_hatchOn_39 : decode cX4_hatchOn 39 = .ok (.iload 4, 2) := by decide +kernel
theorem dX4_hatchOn_41 : decode cX4_hatchOn 41 = .ok (.iconst 5, 1) := by decide +kernel
theorem dX4_hatchOn_42 : decode cX4_hatchOn 42 = .ok (.iconst (-1), 1) := by decide +kernel
theorem dX4_hatchOn_43 : decode cX4_hatchOn 43 = .ok (.invokestatic 77, 3) := by decide +kernel
theorem dX4_hatchOn_46 : decode cX4_hatchOn 46 = .ok (.aload_n 0, 1) := by decide +kernel
theorem dX4_hatchOn_47 : decode cX4_hatchOn 47 = .ok (.iload 4, 2) := by decide +kernel
theorem dX4_hatchOn_49 : decode cX4_hatchOn 49 = .ok (.bipush 6, 2) := by decide +kernel
theorem dX4_hatchOn_51 : decode cX4_hatchOn 51 = .ok (.iload_n 1, 1) := by decide +kernel
theorem dX4_hatchOn_52 : decode cX4_hatchOn 52 = .ok (.invokestatic 77, 3) := by decide +kernel
theorem dX4_hatchOn_55 : decode cX4_hatchOn 55 = .ok (.aload_n 0, 1) := by decide +kernel
theorem dX4_hatchOn_56 : decode cX4_hatchOn 56 = .ok (.iload 4, 2) := by decide +kernel
theorem dX4_hatchOn_58 : decode cX4_hatchOn 58 = .ok (.bipush 7, 2) := by decide +kernel
theorem dX4_hatchOn_60 : decode cX4_hatchOn 60 = .ok (.iload_n 2, 1) := by decide +kernel
theorem dX4_hatchOn_61 : decode cX4_hatchOn 61 = .ok (.invokestatic 77, 3) := by decide +kernel
theorem dX4_hatchOn_64 : decode cX4_hatchOn 64 = .ok (.aload_n 0, 1) := by decide +kernel
theorem dX4_hatchOn_65 : decode cX4_hatchOn 65 = .ok (.iload 4, 2) := by decide +kernel
theorem dX4_hatchOn_67 : decode cX4_hatchOn 67 = .ok (.bipush 8, 2) := by decide +kernel
theorem dX4_hatchOn_69 : decode cX4_hatchOn 69 = .ok (.iload_n 3, 1) := by decide +kernel
theorem dX4_hatchOn_70 : decode cX4_hatchOn 70 = .ok (.invokestatic 77, 3) := by decide +kernel
theorem dX4_hatchOn_73 : decode cX4_hatchOn 73 = .ok (.aload_n 0, 1) := by decide +kernel
theorem dX4_hatchOn_74 : decode cX4_hatchOn 74 = .ok (.iconst 0, 1) := by decide +kernel
theorem dX4_hatchOn_75 : decode cX4_hatchOn 75 = .ok (.dup2, 1) := by decide +kernel
theorem dX4_hatchOn_76 : decode cX4_hatchOn 76 = .ok (.iaload, 1) := by decide +kernel
theorem dX4_hatchOn_77 : decode cX4_hatchOn 77 = .ok (.iconst 1, 1) := by decide +kernel
theorem dX4_hatchOn_78 : decode cX4_hatchOn 78 = .ok (.iadd, 1) := by decide +kernel
theorem dX4_hatchOn_79 : decode cX4_hatchOn 79 = .ok (.iastore, 1) := by decide +kernel
theorem dX4_hatchOn_80 : decode cX4_hatchOn 80 = .ok (.iload 4, 2) := by decide +kernel
theorem dX4_hatchOn_82 : decode cX4_hatchOn 82 = .ok (.ireturn, 1) := by decide +kernel
set_option maxRecDepth 20000 in
theorem ggX4_canHatch_X4_isRoom : GoodIn wsX4_canHatch wsX4_isRoom := goodIn_r _ [4, 5, 6, 7, 3, 8] (by decide +kernel) (by decide +kernel)
set_option maxRecDepth 20000 in
theorem gX4_canHatch_X4_isRoom : GoodIn wsX4_canHatch (va_wsS RX4 98 yX4_isRoom wsX4_isRoom) := goodIn_app (goodIn_of _ (by decide +kernel)) ggX4_canHatch_X4_isRoom
set_option maxRecDepth 20000 in
theorem ggX4_canHatch_X4_isLength : GoodIn wsX4_canHatch wsX4_isLength := goodIn_r _ [11, 12, 6, 7, 3, 8] (by decide +kernel) (by decide +kernel)
set_option maxRecDepth 20000 in
theorem gX4_canHatch_X4_isLength : GoodIn wsX4_canHatch (va_wsS RX4 102 yX4_isLength wsX4_isLength) := goodIn_app (goodIn_of _ (by decide +kernel)) ggX4_canHatch_X4_isLength
theorem dX4_canHatch_0 : decode cX4_canHatch 0 = .ok (.iload_n 1, 1) := by decide +kernel
theorem dX4_canHatch_1 : decode cX4_canHatch 1 = .ok (.invokestatic 98, 3) := by decide +kernel
theorem dX4_canHatch_4 : decode cX4_canHatch 4 = .ok (.ifCond .eq 29, 3) := by decide +kernel
theorem dX4_canHatch_7 : decode cX4_canHatch 7 = .ok (.iload_n 2, 1) := by decide +kernel
theorem dX4_canHatch_8 : decode cX4_canHatch 8 = .ok (.invokestatic 98, 3) := by decide +kernel
theorem dX4_canHatch_11 : decode cX4_canHatch 11 = .ok (.ifCond .eq 22, 3) := by decide +kernel
theorem dX4_canHatch_14 : decode cX4_canHatch 14 = .ok (.iload_n 3, 1) := by decide +kernel
theorem dX4_canHatch_15 : decode cX4_canHatch 15 = .ok (.invokestatic 102, 3) := by decide +kernel
theorem dX4_canHatch_18 : decode cX4_canHatch 18 = .ok (.ifCond .eq 15, 3) := by decide +kernel
theorem dX4_canHatch_21 : decode cX4_canHatch 21 = .ok (.aload_n 0, 1) := by decide +kernel
theorem dX4_canHatch_22 : decode cX4_canHatch 22 = .ok (.iconst 0, 1) := by decide +kernel
theorem dX4_canHatch_23 : decode cX4_canHatch 23 = .ok (.iaload, 1) := by decide +kernel
theorem dX4_canHatch_24 : decode cX4_canHatch 24 = .ok (.bipush 10, 2) := by decide +kernel
theorem dX4_canHatch_26 : decode cX4_canHatch 26 = .ok (.if_icmp .ge 7, 3) := by decide +kernel
theorem dX4_canHatch_29 : decode cX4_canHatch 29 = .ok (.iconst 1, 1) := by decide +kernel
theorem dX4_canHatch_30 : decode cX4_canHatch 30 = .ok (.goto 4, 3) := by decide +kernel
theorem dX4_canHatch_33 : decode cX4_canHatch 33 = .ok (.iconst 0, 1) := by decide +kernel
theorem dX4_canHatch_34 : decode cX4_canHatch 34 = .ok (.ireturn, 1) := by decide +kernel
theorem dX4_ruleOn_0 : decode cX4_ruleOn 0 = .ok (.aload_n 0, 1) := by decide +kernel
theorem dX4_ruleOn_1 : decode cX4_ruleOn 1 = .ok (.iconst 2, 1) := by decide +kernel
theorem dX4_ruleOn_2 : decode cX4_ruleOn 2 = .ok (.iaload, 1) := by decide +kernel
theorem dX4_ruleOn_3 : decode cX4_ruleOn 3 = .ok (.istore_n 2, 1) := by decide +kernel
theorem dX4_ruleOn_4 : decode cX4_ruleOn 4 = .ok (.aload_n 0, 1) := by decide +kernel
theorem dX4_ruleOn_5 : decode cX4_ruleOn 5 = .ok (.iconst 2, 1) := by decide +kernel
theorem dX4_ruleOn_6 : decode cX4_ruleOn 6 = .ok (.iload_n 1, 1) := by decide +kernel
theorem dX4_ruleOn_7 : decode cX4_ruleOn 7 = .ok (.iastore, 1) := by decide +kernel
theorem dX4_ruleOn_8 : decode cX4_ruleOn 8 = .ok (.iload_n 2, 1) := by decide +kernel
theorem dX4_ruleOn_9 : decode cX4_ruleOn 9 = .ok (.ireturn, 1) := by decide +kernel
set_option maxRecDepth 20000 in
theorem ggX4_canShut_X4_isRoom : GoodIn wsX4_canShut wsX4_isRoom := goodIn_r _ [4, 5, 6, 7, 3, 8] (by decide +kernel) (by decide +kernel)
set_option maxRecDepth 20000 in
theorem gX4_canShut_X4_isRoom : GoodIn wsX4_canShut (va_wsS RX4 98 yX4_isRoom wsX4_isRoom) := goodIn_app (goodIn_of _ (by decide +kernel)) ggX4_canShut_X4_isRoom
set_option maxRecDepth 20000 in
theorem ggX4_canShut_X4_takenBy : GoodIn wsX4_canShut wsX4_takenBy := goodIn_r _ [11, 12, 13, 3, 14] (by decide +kernel) (by decide +kernel)
set_option maxRecDepth 20000 in
theorem gX4_canShut_X4_takenBy : GoodIn wsX4_canShut (va_wsS RX4 56 yX4_takenBy wsX4_takenBy) := goodIn_app (goodIn_of _ (by decide +kernel)) ggX4_canShut_X4_takenBy
theorem dX4_canShut_0 : decode cX4_canShut 0 = .ok (.iload_n 1, 1) := by decide +kernel
theorem dX4_canShut_1 : decode cX4_canShut 1 = .ok (.invokestatic 98, 3) := by decide +kernel
theorem dX4_canShut_4 : decode cX4_canShut 4 = .ok (.ifCond .eq 20, 3) := by decide +kernel
theorem dX4_canShut_7 : decode cX4_canShut 7 = .ok (.iload_n 2, 1) := by decide +kernel
theorem dX4_canShut_8 : decode cX4_canShut 8 = .ok (.ifCond .eq 12, 3) := by decide +kernel
theorem dX4_canShut_11 : decode cX4_canShut 11 = .ok (.aload_n 0, 1) := by decide +kernel
theorem dX4_canShut_12 : decode cX4_canShut 12 = .ok (.iload_n 1, 1) := by decide +kernel
theorem dX4_canShut_13 : decode cX4_canShut 13 = .ok (.invokestatic 56, 3) := by decide +kernel
theorem dX4_canShut_16 : decode cX4_canShut 16 = .ok (.iconst (-1), 1) := by decide +kernel
theorem dX4_canShut_17 : decode cX4_canShut 17 = .ok (.if_icmp .ne 7, 3) := by decide +kernel
theorem dX4_canShut_20 : decode cX4_canShut 20 = .ok (.iconst 1, 1) := by decide +kernel
theorem dX4_canShut_21 : decode cX4_canShut 21 = .ok (.goto 4, 3) := by decide +kernel
theorem dX4_canShut_24 : decode cX4_canShut 24 = .ok (.iconst 0, 1) := by decide +kernel
theorem dX4_canShut_25 : decode cX4_canShut 25 = .ok (.ireturn, 1) := by decide +kernel
set_option maxRecDepth 20000 in
theorem ggX4_shutOn_X4_shutOnes : GoodIn wsX4_shutOn wsX4_shutOnes := goodIn_r _ [4] (by decide +kernel) (by decide +kernel)
set_option maxRecDepth 20000 in
theorem gX4_shutOn_X4_shutOnes : GoodIn wsX4_shutOn (va_wsS RX4 105 yX4_shutOnes wsX4_shutOnes) := goodIn_app (goodIn_of _ (by decide +kernel)) ggX4_shutOn_X4_shutOnes
theorem dX4_shutOn_0 : decode cX4_shutOn 0 = .ok (.aload_n 0, 1) := by decide +kernel
theorem dX4_shutOn_1 : decode cX4_shutOn 1 = .ok (.iconst 4, 1) := by decide +kernel
theorem dX4_shutOn_2 : decode cX4_shutOn 2 = .ok (.iload_n 1, 1) := by decide +kernel
theorem dX4_shutOn_3 : decode cX4_shutOn 3 = .ok (.iadd, 1) := by decide +kernel
theorem dX4_shutOn_4 : decode cX4_shutOn 4 = .ok (.iload_n 2, 1) := by decide +kernel
theorem dX4_shutOn_5 : decode cX4_shutOn 5 = .ok (.ifCond .eq 7, 3) := by decide +kernel
theorem dX4_shutOn_8 : decode cX4_shutOn 8 = .ok (.iconst 1, 1) := by decide +kernel
theorem dX4_shutOn_9 : decode cX4_shutOn 9 = .ok (.goto 4, 3) := by decide +kernel
theorem dX4_shutOn_12 : decode cX4_shutOn 12 = .ok (.iconst 0, 1) := by decide +kernel
theorem dX4_shutOn_13 : decode cX4_shutOn 13 = .ok (.iastore, 1) := by decide +kernel
theorem dX4_shutOn_14 : decode cX4_shutOn 14 = .ok (.aload_n 0, 1) := by decide +kernel
theorem dX4_shutOn_15 : decode cX4_shutOn 15 = .ok (.invokestatic 105, 3) := by decide +kernel
theorem dX4_shutOn_18 : decode cX4_shutOn 18 = .ok (.ireturn, 1) := by decide +kernel
set_option maxRecDepth 20000 in
theorem ggX4_canPull_X4_isOne : GoodIn wsX4_canPull wsX4_isOne := goodIn_r _ [4, 5, 6, 3, 7] (by decide +kernel) (by decide +kernel)
set_option maxRecDepth 20000 in
theorem gX4_canPull_X4_isOne : GoodIn wsX4_canPull (va_wsS RX4 109 yX4_isOne wsX4_isOne) := goodIn_app (goodIn_of _ (by decide +kernel)) ggX4_canPull_X4_isOne
set_option maxRecDepth 20000 in
theorem ggX4_canPull_X4_of : GoodIn wsX4_canPull wsX4_of := goodIn_r _ [10] (by decide +kernel) (by decide +kernel)
set_option maxRecDepth 20000 in
theorem gX4_canPull_X4_of : GoodIn wsX4_canPull (va_wsS RX4 48 yX4_of wsX4_of) := goodIn_app (goodIn_of _ (by decide +kernel)) ggX4_canPull_X4_of
theorem dX4_canPull_0 : decode cX4_canPull 0 = .ok (.aload_n 0, 1) := by decide +kernel
theorem dX4_canPull_1 : decode cX4_canPull 1 = .ok (.iload_n 1, 1) := by decide +kernel
theorem dX4_canPull_2 : decode cX4_canPull 2 = .ok (.invokestatic 109, 3) := by decide +kernel
theorem dX4_canPull_5 : decode cX4_canPull 5 = .ok (.ifCond .eq 17, 3) := by decide +kernel
theorem dX4_canPull_8 : decode cX4_canPull 8 = .ok (.aload_n 0, 1) := by decide +kernel
theorem dX4_canPull_9 : decode cX4_canPull 9 = .ok (.iload_n 1, 1) := by decide +kernel
theorem dX4_canPull_10 : decode cX4_canPull 10 = .ok (.iconst 0, 1) := by decide +kernel
theorem dX4_canPull_11 : decode cX4_canPull 11 = .ok (.invokestatic 48, 3) := by decide +kernel
theorem dX4_canPull_14 : decode cX4_canPull 14 = .ok (.iconst 2, 1) := by decide +kernel
theorem dX4_canPull_15 : decode cX4_canPull 15 = .ok (.if_icmp .ge 7, 3) := by decide +kernel
theorem dX4_canPull_18 : decode cX4_canPull 18 = .ok (.iconst 1, 1) := by decide +kernel
theorem dX4_canPull_19 : decode cX4_canPull 19 = .ok (.goto 4, 3) := by decide +kernel
theorem dX4_canPull_22 : decode cX4_canPull 22 = .ok (.iconst 0, 1) := by decide +kernel
theorem dX4_canPull_23 : decode cX4_canPull 23 = .ok (.ireturn, 1) := by decide +kernel
set_option maxRecDepth 20000 in
theorem ggX4_pullOn_X4_of : GoodIn wsX4_pullOn wsX4_of := goodIn_r _ [4] (by decide +kernel) (by decide +kernel)
set_option maxRecDepth 20000 in
theorem gX4_pullOn_X4_of : GoodIn wsX4_pullOn (va_wsS RX4 48 yX4_of wsX4_of) := goodIn_app (goodIn_of _ (by decide +kernel)) ggX4_pullOn_X4_of
set_option maxRecDepth 20000 in
theorem ggX4_pullOn_X4_lay : GoodIn wsX4_pullOn wsX4_lay := goodIn_r _ [7] (by decide +kernel) (by decide +kernel)
set_option maxRecDepth 20000 in
theorem gX4_pullOn_X4_lay : GoodIn wsX4_pullOn (va_wsS RX4 77 yX4_lay wsX4_lay) := goodIn_app (goodIn_of _ (by decide +kernel)) ggX4_pullOn_X4_lay
theorem dX4_pullOn_0 : decode cX4_pullOn 0 = .ok (.aload_n 0, 1) := by decide +kernel
theorem dX4_pullOn_1 : decode cX4_pullOn 1 = .ok (.iload_n 1, 1) := by decide +kernel
theorem dX4_pullOn_2 : decode cX4_pullOn 2 = .ok (.iconst 1, 1) := by decide +kernel
theorem dX4_pullOn_3 : decode cX4_pullOn 3 = .ok (.invokestatic 48, 3) := by decide +kernel
theorem dX4_pullOn_6 : decode cX4_pullOn 6 = .ok (.istore_n 2, 1) := by decide +kernel
theorem dX4_pullOn_7 : decode cX4_pullOn 7 = .ok (.aload_n 0, 1) := by decide +kernel
theorem dX4_pullOn_8 : decode cX4_pullOn 8 = .ok (.iload_n 1, 1) := by decide +kernel
theorem dX4_pullOn_9 : decode cX4_pullOn 9 = .ok (.iconst 0, 1) := by decide +kernel
theorem dX4_pullOn_10 : decode cX4_pullOn 10 = .ok (.iconst 3, 1) := by decide +kernel
theorem dX4_pullOn_11 : decode cX4_pullOn 11 = .ok (.invokestatic 77, 3) := by decide +kernel
theorem dX4_pullOn_14 : decode cX4_pullOn 14 = .ok (.aload_n 0, 1) := by decide +kernel
theorem dX4_pullOn_15 : decode cX4_pullOn 15 = .ok (.iload_n 1, 1) := by decide +kernel
theorem dX4_pullOn_16 : decode cX4_pullOn 16 = .ok (.iconst 1, 1) := by decide +kernel
theorem dX4_pullOn_17 : decode cX4_pullOn 17 = .ok (.iconst 0, 1) := by decide +kernel
theorem dX4_pullOn_18 : decode cX4_pullOn 18 = .ok (.invokestatic 77, 3) := by decide +kernel
theorem dX4_pullOn_21 : decode cX4_pullOn 21 = .ok (.aload_n 0, 1) := by decide +kernel
theorem dX4_pullOn_22 : decode cX4_pullOn 22 = .ok (.iload_n 1, 1) := by decide +kernel
theorem dX4_pullOn_23 : decode cX4_pullOn 23 = .ok (.iconst 2, 1) := by decide +kernel
theorem dX4_pullOn_24 : decode cX4_pullOn 24 = .ok (.iconst 0, 1) := by decide +kernel
theorem dX4_pullOn_25 : decode cX4_pullOn 25 = .ok (.invokestatic 77, 3) := by decide +kernel
theorem dX4_pullOn_28 : decode cX4_pullOn 28 = .ok (.iload_n 2, 1) := by decide +kernel
theorem dX4_pullOn_29 : decode cX4_pullOn 29 = .ok (.ireturn, 1) := by decide +kernel
set_option maxRecDepth 20000 in
theorem ggX4_ringOf_X4_blockedBy : GoodIn wsX4_ringOf wsX4_blockedBy := goodIn_r _ [4, 5, 6, 3, 7, 8, 9, 10, 11, 12, 13, 14, 15, 16, 17, 18, 19, 20, 21, 22, 23, 24, 25, 26, 27, 28] (by decide +kernel) (by decide +kernel)
set_option maxRecDepth 20000 in
theorem gX4_ringOf_X4_blockedBy : GoodIn wsX4_ringOf (va_wsS RX4 112 yX4_blockedBy wsX4_blockedBy) := goodIn_app (goodIn_of _ (by decide +kernel)) ggX4_ringOf_X4_blockedBy
theorem dX4_ringOf_0 : decode cX4_ringOf 0 = .ok (.aload_n 0, 1) := by decide +kernel
theorem dX4_ringOf_1 : decode cX4_ringOf 1 = .ok (.iload_n 1, 1) := by decide +kernel
theorem dX4_ringOf_2 : decode cX4_ringOf 2 = .ok (.invokestatic 112, 3) := by decide +kernel
theorem dX4_ringOf_5 : decode cX4_ringOf 5 = .ok (.istore_n 2, 1) := by decide +kernel
theorem dX4_ringOf_6 : decode cX4_ringOf 6 = .ok (.iconst 1, 1) := by decide +kernel
theorem dX4_ringOf_7 : decode cX4_ringOf 7 = .ok (.istore_n 3, 1) := by decide +kernel
theorem dX4_ringOf_8 : decode cX4_ringOf 8 = .ok (.iload_n 2, 1) := by decide +kernel
theorem dX4_ringOf_9 : decode cX4_ringOf 9 = .ok (.iconst (-1), 1) := by decide +kernel
theorem dX4_ringOf_10 : decode cX4_ringOf 10 = .ok (.if_icmp .eq 26, 3) := by decide +kernel
theorem dX4_ringOf_13 : decode cX4_ringOf 13 = .ok (.iload_n 2, 1) := by decide +kernel
theorem dX4_ringOf_14 : decode cX4_ringOf 14 = .ok (.iload_n 1, 1) := by decide +kernel
theorem dX4_ringOf_15 : decode cX4_ringOf 15 = .ok (.if_icmp .eq 21, 3) := by decide +kernel
theorem dX4_ringOf_18 : decode cX4_ringOf 18 = .ok (.iload_n 3, 1) := by decide +kernel
theorem dX4_ringOf_19 : decode cX4_ringOf 19 = .ok (.bipush 10, 2) := by decide +kernel
theorem dX4_ringOf_21 : decode cX4_ringOf 21 = .ok (.if_icmp .gt 15, 3) := by decide +kernel
theorem dX4_ringOf_24 : decode cX4_ringOf 24 = .ok (.aload_n 0, 1) := by decide +kernel
theorem dX4_ringOf_25 : decode cX4_ringOf 25 = .ok (.iload_n 2, 1) := by decide +kernel
theorem dX4_ringOf_26 : decode cX4_ringOf 26 = .ok (.invokestatic 112, 3) := by decide +kernel
theorem dX4_ringOf_29 : decode cX4_ringOf 29 = .ok (.istore_n 2, 1) := by decide +kernel
theorem dX4_ringOf_30 : decode cX4_ringOf 30 = .ok (.iinc 3 1, 3) := by decide +kernel
theorem dX4_ringOf_33 : decode cX4_ringOf 33 = .ok (.goto (-25), 3) := by decide +kernel
theorem dX4_ringOf_36 : decode cX4_ringOf 36 = .ok (.iload_n 2, 1) := by decide +kernel
theorem dX4_ringOf_37 : decode cX4_ringOf 37 = .ok (.iload_n 1, 1) := by decide +kernel
theorem dX4_ringOf_38 : decode cX4_ringOf 38 = .ok (.if_icmp .ne 7, 3) := by decide +kernel
theorem dX4_ringOf_41 : decode cX4_ringOf 41 = .ok (.iload_n 3, 1) := by decide +kernel
theorem dX4_ringOf_42 : decode cX4_ringOf 42 = .ok (.goto 4, 3) := by decide +kernel
theorem dX4_ringOf_45 : decode cX4_ringOf 45 = .ok (.iconst (-1), 1) := by decide +kernel
theorem dX4_ringOf_46 : decode cX4_ringOf 46 = .ok (.ireturn, 1) := by decide +kernel
set_option maxRecDepth 20000 in
theorem ggX4_ringed_X4_ringOf : GoodIn wsX4_ringed wsX4_ringOf := goodIn_r _ [4, 5, 6, 3, 7, 8, 9, 10, 11, 12, 13, 14, 15, 16, 17, 18, 19, 20, 21, 22, 23, 24, 25, 26, 27, 28, 29, 30, 31] (by decide +kernel) (by decide +kernel)
set_option maxRecDepth 20000 in
theorem gX4_ringed_X4_ringOf : GoodIn wsX4_ringed (va_wsS RX4 115 yX4_ringOf wsX4_ringOf) := goodIn_app (goodIn_of _ (by decide +kernel)) ggX4_ringed_X4_ringOf
theorem dX4_ringed_0 : decode cX4_ringed 0 = .ok (.iconst 0, 1) := by decide +kernel
theorem dX4_ringed_1 : decode cX4_ringed 1 = .ok (.istore_n 1, 1) := by decide +kernel
theorem dX4_ringed_2 : decode cX4_ringed 2 = .ok (.iload_n 1, 1) := by decide +kernel
theorem dX4_ringed_3 : decode cX4_ringed 3 = .ok (.aload_n 0, 1) := by decide +kernel
theorem dX4_ringed_4 : decode cX4_ringed 4 = .ok (.iconst 0, 1) := by decide +kernel
theorem dX4_ringed_5 : decode cX4_ringed 5 = .ok (.iaload, 1) := by decide +kernel
theorem dX4_ringed_6 : decode cX4_ringed 6 = .ok (.if_icmp .ge 20, 3) := by decide +kernel
theorem dX4_ringed_9 : decode cX4_ringed 9 = .ok (.aload_n 0, 1) := by decide +kernel
theorem dX4_ringed_10 : decode cX4_ringed 10 = .ok (.iload_n 1, 1) := by decide +kernel
theorem dX4_ringed_11 : decode cX4_ringed 11 = .ok (.invokestatic 115, 3) := by decide +kernel
theorem dX4_ringed_14 : decode cX4_ringed 14 = .ok (.iconst (-1), 1) := by decide +kernel
theorem dX4_ringed_15 : decode cX4_ringed 15 = .ok (.if_icmp .eq 5, 3) := by decide +kernel
theorem dX4_ringed_18 : decode cX4_ringed 18 = .ok (.iload_n 1, 1) := by decide +kernel
theorem dX4_ringed_19 : decode cX4_ringed 19 = .ok (.ireturn, 1) := by decide +kernel
theorem dX4_ringed_20 : decode cX4_ringed 20 = .ok (.iinc 1 1, 3) := by decide +kernel
theorem dX4_ringed_23 : decode cX4_ringed 23 = .ok (.goto (-21), 3) := by decide +kernel
theorem dX4_ringed_26 : decode cX4_ringed 26 = .ok (.iconst (-1), 1) := by decide +kernel
theorem dX4_ringed_27 : decode cX4_ringed 27 = .ok (.ireturn, 1) := by decide +kernel
set_option maxRecDepth 20000 in
theorem ggX4_isThrough_X4_count : GoodIn wsX4_isThrough wsX4_count := goodIn_r _ [4, 5, 6, 3, 7, 8, 9, 10] (by decide +kernel) (by decide +kernel)
set_option maxRecDepth 20000 in
theorem gX4_isThrough_X4_count : GoodIn wsX4_isThrough (va_wsS RX4 92 yX4_count wsX4_count) := goodIn_app (goodIn_of _ (by decide +kernel)) ggX4_isThrough_X4_count
theorem dX4_isThrough_0 : decode cX4_isThrough 0 = .ok (.aload_n 0, 1) := by decide +kernel
theorem dX4_isThrough_1 : decode cX4_isThrough 1 = .ok (.iconst 0, 1) := by decide +kernel
theorem dX4_isThrough_2 : decode cX4_isThrough 2 = .ok (.invokestatic 92, 3) := by decide +kernel
theorem dX4_isThrough_5 : decode cX4_isThrough 5 = .ok (.aload_n 0, 1) := by decide +kernel
theorem dX4_isThrough_6 : decode cX4_isThrough 6 = .ok (.iconst 1, 1) := by decide +kernel
theorem dX4_isThrough_7 : decode cX4_isThrough 7 = .ok (.invokestatic 92, 3) := by decide +kernel
theorem dX4_isThrough_10 : decode cX4_isThrough 10 = .ok (.iadd, 1) := by decide +kernel
theorem dX4_isThrough_11 : decode cX4_isThrough 11 = .ok (.ifCond .ne 7, 3) := by decide +kernel
theorem dX4_isThrough_14 : decode cX4_isThrough 14 = .ok (.iconst 1, 1) := by decide +kernel
theorem dX4_isThrough_15 : decode cX4_isThrough 15 = .ok (.goto 4, 3) := by decide +kernel
theorem dX4_isThrough_18 : decode cX4_isThrough 18 = .ok (.iconst 0, 1) := by decide +kernel
theorem dX4_isThrough_19 : decode cX4_isThrough 19 = .ok (.ireturn, 1) := by decide +kernel
set_option maxRecDepth 20000 in
theorem ggX4_until_X4_isThrough : GoodIn wsX4_until wsX4_isThrough := goodIn_r _ [4, 5, 6, 3, 7, 8, 9, 10, 11, 12, 13] (by decide +kernel) (by decide +kernel)
set_option maxRecDepth 20000 in
theorem gX4_until_X4_isThrough : GoodIn wsX4_until (va_wsS RX4 118 yX4_isThrough wsX4_isThrough) := goodIn_app (goodIn_of _ (by decide +kernel)) ggX4_until_X4_isThrough
set_option maxRecDepth 20000 in
theorem ggX4_until_X4_isIn : GoodIn wsX4_until wsX4_isIn := goodIn_r _ [10, 11, 12, 3, 13] (by decide +kernel) (by decide +kernel)
set_option maxRecDepth 20000 in
theorem gX4_until_X4_isIn : GoodIn wsX4_until (va_wsS RX4 52 yX4_isIn wsX4_isIn) := goodIn_app (goodIn_of _ (by decide +kernel)) ggX4_until_X4_isIn
set_option maxRecDepth 20000 in
theorem ggX4_until_X4_ticksOn : GoodIn wsX4_until wsX4_ticksOn := goodIn_r _ [16, 5, 6, 3, 7, 8, 9, 10, 11, 12, 13, 17, 18, 19, 20, 21, 22, 23, 24, 25, 26, 27, 28, 29, 30, 31, 32, 33, 34, 35, 36, 37, 38, 39, 40, 41, 42, 43, 44, 45, 46, 47, 48, 49] (by decide +kernel) (by decide +kernel)
set_option maxRecDepth 20000 in
theorem gX4_until_X4_ticksOn : GoodIn wsX4_until (va_wsS RX4 122 yX4_ticksOn wsX4_ticksOn) := goodIn_app (goodIn_of _ (by decide +kernel)) ggX4_until_X4_ticksOn
theorem dX4_until_0 : decode cX4_until 0 = .ok (.iconst 0, 1) := by decide +kernel
theorem dX4_until_1 : decode cX4_until 1 = .ok (.istore_n 2, 1) := by decide +kernel
theorem dX4_until_2 : decode cX4_until 2 = .ok (.iload_n 1, 1) := by decide +kernel
theorem dX4_until_3 : decode cX4_until 3 = .ok (.iconst (-1), 1) := by decide +kernel
theorem dX4_until_4 : decode cX4_until 4 = .ok (.if_icmp .ne 10, 3) := by decide +kernel
theorem dX4_until_7 : decode cX4_until 7 = .ok (.aload_n 0, 1) := by decide +kernel
theorem dX4_until_8 : decode cX4_until 8 = .ok (.invokestatic 118, 3) := by decide +kernel
theorem dX4_until_11 : decode cX4_until 11 = .ok (.goto 9, 3) := by decide +kernel
theorem dX4_until_14 : decode cX4_until 14 = .ok (.aload_n 0, 1) := by decide +kernel
theorem dX4_until_15 : decode cX4_until 15 = .ok (.iload_n 1, 1) := by decide +kernel
theorem dX4_until_16 : decode cX4_until 16 = .ok (.iconst 2, 1) := by decide +kernel
theorem dX4_until_17 : decode cX4_until 17 = .ok (.invokestatic 52, 3) := by decide +kernel
theorem dX4_until_20 : decode cX4_until 20 = .ok (.istore_n 3, 1) := by decide +kernel
theorem dX4_until_21 : decode cX4_until 21 = .ok (.iload_n 2, 1) := by decide +kernel
theorem dX4_until_22 : decode cX4_until 22 = .ok (.sipush 200, 3) := by decide +kernel
theorem dX4_until_25 : decode cX4_until 25 = .ok (.if_icmp .ge 38, 3) := by decide +kernel
theorem dX4_until_28 : decode cX4_until 28 = .ok (.iload_n 3, 1) := by decide +kernel
theorem dX4_until_29 : decode cX4_until 29 = .ok (.ifCond .ne 34, 3) := by decide +kernel
theorem dX4_until_32 : decode cX4_until 32 = .ok (.aload_n 0, 1) := by decide +kernel
theorem dX4_until_33 : decode cX4_until 33 = .ok (.iconst 1, 1) := by decide +kernel
theorem dX4_until_34 : decode cX4_until 34 = .ok (.invokestatic 122, 3) := by decide +kernel
theorem dX4_until_37 : decode cX4_until 37 = .ok (.pop, 1) := by decide +kernel
theorem dX4_until_38 : decode cX4_until 38 = .ok (.iinc 2 1, 3) := by decide +kernel
theorem dX4_until_41 : decode cX4_until 41 = .ok (.iload_n 1, 1) := by decide +kernel
theorem dX4_until_42 : decode cX4_until 42 = .ok (.iconst (-1), 1) := by decide +kernel
theorem dX4_until_43 : decode cX4_until 43 = .ok (.if_icmp .ne 10, 3) := by decide +kernel
theorem dX4_until_46 : decode cX4_until 46 = .ok (.aload_n 0, 1) := by decide +kernel
theorem dX4_until_47 : decode cX4_until 47 = .ok (.invokestatic 118, 3) := by decide +kernel
theorem dX4_until_50 : decode cX4_until 50 = .ok (.goto 9, 3) := by decide +kernel
theorem dX4_until_53 : decode cX4_until 53 = .ok (.aload_n 0, 1) := by decide +kernel
theorem dX4_until_54 : decode cX4_until 54 = .ok (.iload_n 1, 1) := by decide +kernel
theorem dX4_until_55 : decode cX4_until 55 = .ok (.iconst 2, 1) := by decide +kernel
theorem dX4_until_56 : decode cX4_until 56 = .ok (.invokestatic 52, 3) := by decide +kernel
theorem dX4_until_59 : decode cX4_until 59 = .ok (.istore_n 3, 1) := by decide +kernel
theorem dX4_until_60 : decode cX4_until 60 = .ok (.goto (-39), 3) := by decide +kernel
theorem dX4_until_63 : decode cX4_until 63 = .ok (.iload_n 3, 1) := by decide +kernel
theorem dX4_until_64 : decode cX4_until 64 = .ok (.ifCond .eq 7, 3) := by decide +kernel
theorem dX4_until_67 : decode cX4_until 67 = .ok (.iload_n 2, 1) := by decide +kernel
theorem dX4_until_68 : decode cX4_until 68 = .ok (.goto 4, 3) := by decide +kernel
theorem dX4_until_71 : decode cX4_until 71 = .ok (.iconst (-1), 1) := by decide +kernel
theorem dX4_until_72 : decode cX4_until 72 = .ok (.ireturn, 1) := by decide +kernel
set_option maxRecDepth 20000 in
theorem ggX4_append_X4_in : GoodIn wsX4_append wsX4_in := goodIn_r _ [7] (by decide +kernel) (by decide +kernel)
set_option maxRecDepth 20000 in
theorem gX4_append_X4_in : GoodIn wsX4_append (va_wsS RX4 42 yX4_in wsX4_in) := goodIn_app (goodIn_of _ (by decide +kernel)) ggX4_append_X4_in
set_option maxRecDepth 20000 in
theorem ggX4_append_X4_refused : GoodIn wsX4_append wsX4_refused := goodIn_r _ [11, 12, 13, 14, 15, 16, 17, 18, 19, 20, 21, 22, 23, 24] (by decide +kernel) (by decide +kernel)
set_option maxRecDepth 20000 in
theorem gX4_append_X4_refused : GoodIn wsX4_append (wsV RX4 130 RX4 yX4_refused wsX4_refused) := goodIn_app (goodIn_of _ (by decide +kernel)) ggX4_append_X4_refused
theorem dX4_append_0 : decode cX4_append 0 = .ok (.aload_n 0, 1) := by decide +kernel
theorem dX4_append_1 : decode cX4_append 1 = .ok (.iload_n 1, 1) := by decide +kernel
theorem dX4_append_2 : decode cX4_append 2 = .ok (.i2l, 1) := by decide +kernel
theorem dX4_append_3 : decode cX4_append 3 = .ok (.lconst 0, 1) := by decide +kernel
theorem dX4_append_4 : decode cX4_append 4 = .ok (.ldc2_w 125, 3) := by decide +kernel
theorem dX4_append_7 : decode cX4_append 7 = .ok (.invokestatic 42, 3) := by decide +kernel
theorem dX4_append_10 : decode cX4_append 10 = .ok (.ifCond .ne 7, 3) := by decide +kernel
theorem dX4_append_13 : decode cX4_append 13 = .ok (.iconst 1, 1) := by decide +kernel
theorem dX4_append_14 : decode cX4_append 14 = .ok (.goto 17, 3) := by decide +kernel
theorem dX4_append_17 : decode cX4_append 17 = .ok (.aload_n 0, 1) := by decide +kernel
theorem dX4_append_18 : decode cX4_append 18 = .ok (.getfield 127, 3) := by decide +kernel
theorem dX4_append_21 : decode cX4_append 21 = .ok (.bipush 120, 2) := by decide +kernel
theorem dX4_append_23 : decode cX4_append 23 = .ok (.if_icmp .ne 7, 3) := by decide +kernel
theorem dX4_append_26 : decode cX4_append 26 = .ok (.iconst 2, 1) := by decide +kernel
theorem dX4_append_27 : decode cX4_append 27 = .ok (.goto 4, 3) := by decide +kernel
theorem dX4_append_30 : decode cX4_append 30 = .ok (.iconst 0, 1) := by decide +kernel
theorem dX4_append_31 : decode cX4_append 31 = .ok (.invokevirtual 130, 3) := by decide +kernel
theorem dX4_append_34 : decode cX4_append 34 = .ok (.ifCond .eq 5, 3) := by decide +kernel
theorem dX4_append_37 : decode cX4_append 37 = .ok (.iconst 0, 1) := by decide +kernel
theorem dX4_append_38 : decode cX4_append 38 = .ok (.ireturn, 1) := by decide +kernel
theorem dX4_append_39 : decode cX4_append 39 = .ok (.aload_n 0, 1) := by decide +kernel
theorem dX4_append_40 : decode cX4_append 40 = .ok (.getfield 7, 3) := by decide +kernel
theorem dX4_append_43 : decode cX4_append 43 = .ok (.aload_n 0, 1) := by decide +kernel
theorem dX4_append_44 : decode cX4_append 44 = .ok (.getfield 127, 3) := by decide +kernel
theorem dX4_append_47 : decode cX4_append 47 = .ok (.iload_n 1, 1) := by decide +kernel
theorem dX4_append_48 : decode cX4_append 48 = .ok (.iastore, 1) := by decide +kernel
theorem dX4_append_49 : decode cX4_append 49 = .ok (.aload_n 0, 1) := by decide +kernel
theorem dX4_append_50 : decode cX4_append 50 = .ok (.dup, 1) := by decide +kernel
theorem dX4_append_51 : decode cX4_append 51 = .ok (.getfield 127, 3) := by decide +kernel
theorem dX4_append_54 : decode cX4_append 54 = .ok (.iconst 1, 1) := by decide +kernel
theorem dX4_append_55 : decode cX4_append 55 = .ok (.iadd, 1) := by decide +kernel
theorem dX4_append_56 : decode cX4_append 56 = .ok (.putfield 127, 3) := by decide +kernel
theorem dX4_append_59 : decode cX4_append 59 = .ok (.aload_n 0, 1) := by decide +kernel
theorem dX4_append_60 : decode cX4_append 60 = .ok (.getfield 127, 3) := by decide +kernel
theorem dX4_append_63 : decode cX4_append 63 = .ok (.ireturn, 1) := by decide +kernel
theorem dX4_clearText_0 : decode cX4_clearText 0 = .ok (.aload_n 0, 1) := by decide +kernel
theorem dX4_clearText_1 : decode cX4_clearText 1 = .ok (.iconst 0, 1) := by decide +kernel
theorem dX4_clearText_2 : decode cX4_clearText 2 = .ok (.putfield 36, 3) := by decide +kernel
theorem dX4_clearText_5 : decode cX4_clearText 5 = .ok (.aload_n 0, 1) := by decide +kernel
theorem dX4_clearText_6 : decode cX4_clearText 6 = .ok (.getfield 127, 3) := by decide +kernel
theorem dX4_clearText_9 : decode cX4_clearText 9 = .ok (.istore_n 1, 1) := by decide +kernel
theorem dX4_clearText_10 : decode cX4_clearText 10 = .ok (.aload_n 0, 1) := by decide +kernel
theorem dX4_clearText_11 : decode cX4_clearText 11 = .ok (.iconst 0, 1) := by decide +kernel
theorem dX4_clearText_12 : decode cX4_clearText 12 = .ok (.putfield 127, 3) := by decide +kernel
theorem dX4_clearText_15 : decode cX4_clearText 15 = .ok (.iload_n 1, 1) := by decide +kernel
theorem dX4_clearText_16 : decode cX4_clearText 16 = .ok (.ireturn, 1) := by decide +kernel
set_option maxRecDepth 20000 in
theorem ggX4_figures_X4_in : GoodIn wsX4_figures wsX4_in := goodIn_r _ [8] (by decide +kernel) (by decide +kernel)
set_option maxRecDepth 20000 in
theorem gX4_figures_X4_in : GoodIn wsX4_figures (va_wsS RX4 42 yX4_in wsX4_in) := goodIn_app (goodIn_of _ (by decide +kernel)) ggX4_figures_X4_in
theorem dX4_figures_0 : decode cX4_figures 0 = .ok (.iconst 0, 1) := by decide +kernel
theorem dX4_figures_1 : decode cX4_figures 1 = .ok (.istore 5, 2) := by decide +kernel
theorem dX4_figures_3 : decode cX4_figures 3 = .ok (.iload_n 2, 1) := by decide +kernel
theorem dX4_figures_4 : decode cX4_figures 4 = .ok (.iconst 2, 1) := by decide +kernel
theorem dX4_figures_5 : decode cX4_figures 5 = .ok (.if_icmp .ne 8, 3) := by decide +kernel
theorem dX4_figures_8 : decode cX4_figures 8 = .ok (.bipush 10, 2) := by decide +kernel
theorem dX4_figures_10 : decode cX4_figures 10 = .ok (.goto 4, 3) := by decide +kernel
theorem dX4_figures_13 : decode cX4_figures 13 = .ok (.iconst 1, 1) := by decide +kernel
theorem dX4_figures_14 : decode cX4_figures 14 = .ok (.istore 6, 2) := by decide +kernel
theorem dX4_figures_16 : decode cX4_figures 16 = .ok (.iload 6, 2) := by decide +kernel
theorem dX4_figures_18 : decode cX4_figures 18 = .ok (.ifCond .le 104, 3) := by decide +kernel
theorem dX4_figures_21 : decode cX4_figures 21 = .ok (.iload_n 1, 1) := by decide +kernel
theorem dX4_figures_22 : decode cX4_figures 22 = .ok (.iconst (-1), 1) := by decide +kernel
theorem dX4_figures_23 : decode cX4_figures 23 = .ok (.if_icmp .eq 99, 3) := by decide +kernel
theorem dX4_figures_26 : decode cX4_figures 26 = .ok (.aload_n 0, 1) := by decide +kernel
theorem dX4_figures_27 : decode cX4_figures 27 = .ok (.getfield 133, 3) := by decide +kernel
theorem dX4_figures_30 : decode cX4_figures 30 = .ok (.aload_n 0, 1) := by decide +kernel
theorem dX4_figures_31 : decode cX4_figures 31 = .ok (.getfield 127, 3) := by decide +kernel
theorem dX4_figures_34 : decode cX4_figures 34 = .ok (.if_icmp .ge 18, 3) := by decide +kernel
theorem dX4_figures_37 : decode cX4_figures 37 = .ok (.aload_n 0, 1) := by decide +kernel
theorem dX4_figures_38 : decode cX4_figures 38 = .ok (.getfield 7, 3) := by decide +kernel
theorem dX4_figures_41 : decode cX4_figures 41 = .ok (.aload_n 0, 1) := by decide +kernel
theorem dX4_figures_42 : decode cX4_figures 42 = .ok (.getfield 133, 3) := by decide +kernel
theorem dX4_figures_45 : decode cX4_figures 45 = .ok (.iaload, 1) := by decide +kernel
theorem dX4_figures_46 : decode cX4_figures 46 = .ok (.bipush 48, 2) := by decide +kernel
theorem dX4_figures_48 : decode cX4_figures 48 = .ok (.isub, 1) := by decide +kernel
theorem dX4_figures_49 : decode cX4_figures 49 = .ok (.goto 4, 3) := by decide +kernel
theorem dX4_figures_52 : decode cX4_figures 52 = .ok (.iconst (-1), 1) := by decide +kernel
theorem dX4_figures_53 : decode cX4_figures 53 = .ok (.istore 7, 2) := by decide +kernel
theorem dX4_figures_55 : decode cX4_figures 55 = .ok (.iload 5, 2) := by decide +kernel
theorem dX4_figures_57 : decode cX4_figures 57 = .ok (.iload 7, 2) := by decide +kernel
theorem dX4_figures_59 : decode cX4_figures 59 = .ok (.iload 6, 2) := by decide +kernel
theorem dX4_figures_61 : decode cX4_figures 61 = .ok (.imul, 1) := by decide +kernel
theorem dX4_figures_62 : decode cX4_figures 62 = .ok (.iadd, 1) := by decide +kernel
theorem dX4_figures_63 : decode cX4_figures 63 = .ok (.istore 8, 2) := by decide +kernel
theorem dX4_figures_65 : decode cX4_figures 65 = .ok (.iload 7, 2) := by decide +kernel
theorem dX4_figures_67 : decode cX4_figures 67 = .ok (.i2l, 1) := by decide +kernel
theorem dX4_figures_68 : decode cX4_figures 68 = .ok (.lconst 0, 1) := by decide +kernel
theorem dX4_figures_69 : decode cX4_figures 69 = .ok (.ldc2_w 46, 3) := by decide +kernel
theorem dX4_figures_72 : decode cX4_figures 72 = .ok (.invokestatic 42, 3) := by decide +kernel
theorem dX4_figures_75 : decode cX4_figures 75 = .ok (.ifCond .eq 21, 3) := by decide +kernel
theorem dX4_figures_78 : decode cX4_figures 78 = .ok (.iload 8, 2) := by decide +kernel
theorem dX4_figures_80 : decode cX4_figures 80 = .ok (.iload 4, 2) := by decide +kernel
theorem dX4_figures_82 : decode cX4_figures 82 = .ok (.if_icmp .gt 14, 3) := by decide +kernel
theorem dX4_figures_85 : decode cX4_figures 85 = .ok (.iload 8, 2) := by decide +kernel
theorem dX4_figures_87 : decode cX4_figures 87 = .ok (.iload 6, 2) := by decide +kernel
theorem dX4_figures_89 : decode cX4_figures 89 = .ok (.iadd, 1) := by decide +kernel
theorem dX4_figures_90 : decode cX4_figures 90 = .ok (.iconst 1, 1) := by decide +kernel
theorem dX4_figures_91 : decode cX4_figures 91 = .ok (.isub, 1) := by decide +kernel
theorem dX4_figures_92 : decode cX4_figures 92 = .ok (.iload_n 3, 1) := by decide +kernel
theorem dX4_figures_93 : decode cX4_figures 93 = .ok (.if_icmp .ge 5, 3) := by decide +kernel
theorem dX4_figures_96 : decode cX4_figures 96 = .ok (.iconst (-1), 1) := by decide +kernel
theorem dX4_figures_97 : decode cX4_figures 97 = .ok (.ireturn, 1) := by decide +kernel
theorem dX4_figures_98 : decode cX4_figures 98 = .ok (.iload 8, 2) := by decide +kernel
theorem dX4_figures_100 : decode cX4_figures 100 = .ok (.istore 5, 2) := by decide +kernel
theorem dX4_figures_102 : decode cX4_figures 102 = .ok (.aload_n 0, 1) := by decide +kernel
theorem dX4_figures_103 : decode cX4_figures 103 = .ok (.dup, 1) := by decide +kernel
theorem dX4_figures_104 : decode cX4_figures 104 = .ok (.getfield 133, 3) := by decide +kernel
theorem dX4_figures_107 : decode cX4_figures 107 = .ok (.iconst 1, 1) := by decide +kernel
theorem dX4_figures_108 : decode cX4_figures 108 = .ok (.iadd, 1) := by decide +kernel
theorem dX4_figures_109 : decode cX4_figures 109 = .ok (.putfield 133, 3) := by decide +kernel
theorem dX4_figures_112 : decode cX4_figures 112 = .ok (.iload 6, 2) := by decide +kernel
theorem dX4_figures_114 : decode cX4_figures 114 = .ok (.bipush 10, 2) := by decide +kernel
theorem dX4_figures_116 : decode cX4_figures 116 = .ok (.idiv, 1) := by decide +kernel
theorem dX4_figures_117 : decode cX4_figures 117 = .ok (.istore 6, 2) := by decide +kernel
theorem dX4_figures_119 : decode cX4_figures 119 = .ok (.goto (-103), 3) := by decide +kernel
theorem dX4_figures_122 : decode cX4_figures 122 = .ok (.iload_n 1, 1) := by decide +kernel
theorem dX4_figures_123 : decode cX4_figures 123 = .ok (.iconst (-1), 1) := by decide +kernel
theorem dX4_figures_124 : decode cX4_figures 124 = .ok (.if_icmp .ne 7, 3) := by decide +kernel
theorem dX4_figures_127 : decode cX4_figures 127 = .ok (.iconst (-1), 1) := by decide +kernel
theorem dX4_figures_128 : decode cX4_figures 128 = .ok (.goto 5, 3) := by decide +kernel
theorem dX4_figures_131 : decode cX4_figures 131 = .ok (.iload 5, 2) := by decide +kernel

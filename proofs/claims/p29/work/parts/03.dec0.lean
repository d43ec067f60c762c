theorem goodIn_cons {big b : List Cond} {c : Cond} (h : GoodIn big [c]) (hb : GoodIn big b) : GoodIn big (c :: b) := fun w hw => (List.mem_cons.mp hw).elim (fun e => h w (List.mem_singleton.mpr e)) (hb w)
set_option maxRecDepth 20000 in
theorem ggX0_init_X0_empty : GoodIn wsX0_init wsX0_empty := goodIn_r _ [10, 5, 11] (by decide +kernel) (by decide +kernel)
set_option maxRecDepth 20000 in
theorem gX0_init_X0_empty : GoodIn wsX0_init (wsV RX0 15 RX0 yX0_empty wsX0_empty) := goodIn_app (goodIn_of _ (by decide +kernel)) ggX0_init_X0_empty
theorem dX0_init_0 : decode cX0_init 0 = .ok (.aload_n 0, 1) := by decide +kernel
theorem dX0_init_1 : decode cX0_init 1 = .ok (.invokespecial 3, 3) := by decide +kernel
theorem dX0_init_4 : decode cX0_init 4 = .ok (.aload_n 0, 1) := by decide +kernel
theorem dX0_init_5 : decode cX0_init 5 = .ok (.sipush 256, 3) := by decide +kernel
theorem dX0_init_8 : decode cX0_init 8 = .ok (.newarray .int, 2) := by decide +kernel
theorem dX0_init_10 : decode cX0_init 10 = .ok (.putfield 9, 3) := by decide +kernel
theorem dX0_init_13 : decode cX0_init 13 = .ok (.aload_n 0, 1) := by decide +kernel
theorem dX0_init_14 : decode cX0_init 14 = .ok (.invokevirtual 15, 3) := by decide +kernel
theorem dX0_init_17 : decode cX0_init 17 = .ok (.return_, 1) := by decide +kernel
theorem dX0_empty_0 : decode cX0_empty 0 = .ok (.iconst 0, 1) := by decide +kernel
theorem dX0_empty_1 : decode cX0_empty 1 = .ok (.istore_n 1, 1) := by decide +kernel
theorem dX0_empty_2 : decode cX0_empty 2 = .ok (.iload_n 1, 1) := by decide +kernel
theorem dX0_empty_3 : decode cX0_empty 3 = .ok (.sipush 256, 3) := by decide +kernel
theorem dX0_empty_6 : decode cX0_empty 6 = .ok (.if_icmp .ge 26, 3) := by decide +kernel
theorem dX0_empty_9 : decode cX0_empty 9 = .ok (.aload_n 0, 1) := by decide +kernel
theorem dX0_empty_10 : decode cX0_empty 10 = .ok (.getfield 9, 3) := by decide +kernel
theorem dX0_empty_13 : decode cX0_empty 13 = .ok (.iload_n 1, 1) := by decide +kernel
theorem dX0_empty_14 : decode cX0_empty 14 = .ok (.iload_n 1, 1) := by decide +kernel
theorem dX0_empty_15 : decode cX0_empty 15 = .ok (.bipush 40, 2) := by decide +kernel
theorem dX0_empty_17 : decode cX0_empty 17 = .ok (.if_icmp .ge 7, 3) := by decide +kernel
theorem dX0_empty_20 : decode cX0_empty 20 = .ok (.iconst 0, 1) := by decide +kernel
theorem dX0_empty_21 : decode cX0_empty 21 = .ok (.goto 4, 3) := by decide +kernel
theorem dX0_empty_24 : decode cX0_empty 24 = .ok (.iconst (-1), 1) := by decide +kernel
theorem dX0_empty_25 : decode cX0_empty 25 = .ok (.iastore, 1) := by decide +kernel
theorem dX0_empty_26 : decode cX0_empty 26 = .ok (.iinc 1 1, 3) := by decide +kernel
theorem dX0_empty_29 : decode cX0_empty 29 = .ok (.goto (-27), 3) := by decide +kernel
theorem dX0_empty_32 : decode cX0_empty 32 = .ok (.return_, 1) := by decide +kernel
theorem dX0_copyFrom_0 : decode cX0_copyFrom 0 = .ok (.aload_n 1, 1) := by decide +kernel
theorem dX0_copyFrom_1 : decode cX0_copyFrom 1 = .ok (.getfield 9, 3) := by decide +kernel
theorem dX0_copyFrom_4 : decode cX0_copyFrom 4 = .ok (.iconst 0, 1) := by decide +kernel
theorem dX0_copyFrom_5 : decode cX0_copyFrom 5 = .ok (.aload_n 0, 1) := by decide +kernel
theorem dX0_copyFrom_6 : decode cX0_copyFrom 6 = .ok (.getfield 9, 3) := by decide +kernel
theorem dX0_copyFrom_9 : decode cX0_copyFrom 9 = .ok (.iconst 0, 1) := by decide +kernel
theorem dX0_copyFrom_10 : decode cX0_copyFrom 10 = .ok (.sipush 256, 3) := by decide +kernel
theorem dX0_copyFrom_13 : decode cX0_copyFrom 13 = .ok (.invokestatic 18, 3) := by decide +kernel
theorem dX0_copyFrom_16 : decode cX0_copyFrom 16 = .ok (.return_, 1) := by decide +kernel
set_option maxRecDepth 20000 in
theorem ggX0_writeTo_X1_isPlace : GoodIn wsX0_writeTo wsX1_isPlace := goodIn_r _ [9] (by decide +kernel) (by decide +kernel)
set_option maxRecDepth 20000 in
theorem gX0_writeTo_X1_isPlace : GoodIn wsX0_writeTo (va_wsS RX0 24 yX1_isPlace wsX1_isPlace) := goodIn_app (goodIn_of _ (by decide +kernel)) ggX0_writeTo_X1_isPlace
theorem dX0_writeTo_0 : decode cX0_writeTo 0 = .ok (.iload_n 2, 1) := by decide +kernel
theorem dX0_writeTo_1 : decode cX0_writeTo 1 = .ok (.invokestatic 24, 3) := by decide +kernel
theorem dX0_writeTo_4 : decode cX0_writeTo 4 = .ok (.ifCond .eq 23, 3) := by decide +kernel
theorem dX0_writeTo_7 : decode cX0_writeTo 7 = .ok (.aload_n 0, 1) := by decide +kernel
theorem dX0_writeTo_8 : decode cX0_writeTo 8 = .ok (.getfield 9, 3) := by decide +kernel
theorem dX0_writeTo_11 : decode cX0_writeTo 11 = .ok (.iconst 0, 1) := by decide +kernel
theorem dX0_writeTo_12 : decode cX0_writeTo 12 = .ok (.aload_n 1, 1) := by decide +kernel
theorem dX0_writeTo_13 : decode cX0_writeTo 13 = .ok (.getfield 30, 3) := by decide +kernel
theorem dX0_writeTo_16 : decode cX0_writeTo 16 = .ok (.iload_n 2, 1) := by decide +kernel
theorem dX0_writeTo_17 : decode cX0_writeTo 17 = .ok (.sipush 256, 3) := by decide +kernel
theorem dX0_writeTo_20 : decode cX0_writeTo 20 = .ok (.imul, 1) := by decide +kernel
theorem dX0_writeTo_21 : decode cX0_writeTo 21 = .ok (.sipush 256, 3) := by decide +kernel
theorem dX0_writeTo_24 : decode cX0_writeTo 24 = .ok (.invokestatic 18, 3) := by decide +kernel
theorem dX0_writeTo_27 : decode cX0_writeTo 27 = .ok (.return_, 1) := by decide +kernel
set_option maxRecDepth 20000 in
theorem ggX0_readFrom_X1_isPlace : GoodIn wsX0_readFrom wsX1_isPlace := goodIn_r _ [9] (by decide +kernel) (by decide +kernel)
set_option maxRecDepth 20000 in
theorem gX0_readFrom_X1_isPlace : GoodIn wsX0_readFrom (va_wsS RX0 24 yX1_isPlace wsX1_isPlace) := goodIn_app (goodIn_of _ (by decide +kernel)) ggX0_readFrom_X1_isPlace
theorem dX0_readFrom_0 : decode cX0_readFrom 0 = .ok (.iload_n 2, 1) := by decide +kernel
theorem dX0_readFrom_1 : decode cX0_readFrom 1 = .ok (.invokestatic 24, 3) := by decide +kernel
theorem dX0_readFrom_4 : decode cX0_readFrom 4 = .ok (.ifCond .eq 23, 3) := by decide +kernel
theorem dX0_readFrom_7 : decode cX0_readFrom 7 = .ok (.aload_n 1, 1) := by decide +kernel
theorem dX0_readFrom_8 : decode cX0_readFrom 8 = .ok (.getfield 30, 3) := by decide +kernel
theorem dX0_readFrom_11 : decode cX0_readFrom 11 = .ok (.iload_n 2, 1) := by decide +kernel
theorem dX0_readFrom_12 : decode cX0_readFrom 12 = .ok (.sipush 256, 3) := by decide +kernel
theorem dX0_readFrom_15 : decode cX0_readFrom 15 = .ok (.imul, 1) := by decide +kernel
theorem dX0_readFrom_16 : decode cX0_readFrom 16 = .ok (.aload_n 0, 1) := by decide +kernel
theorem dX0_readFrom_17 : decode cX0_readFrom 17 = .ok (.getfield 9, 3) := by decide +kernel
theorem dX0_readFrom_20 : decode cX0_readFrom 20 = .ok (.iconst 0, 1) := by decide +kernel
theorem dX0_readFrom_21 : decode cX0_readFrom 21 = .ok (.sipush 256, 3) := by decide +kernel
theorem dX0_readFrom_24 : decode cX0_readFrom 24 = .ok (.invokestatic 18, 3) := by decide +kernel
theorem dX0_readFrom_27 : decode cX0_readFrom 27 = .ok (.return_, 1) := by decide +kernel
theorem dX0_count_0 : decode cX0_count 0 = .ok (.aload_n 0, 1) := by decide +kernel
theorem dX0_count_1 : decode cX0_count 1 = .ok (.getfield 9, 3) := by decide +kernel
theorem dX0_count_4 : decode cX0_count 4 = .ok (.iconst 0, 1) := by decide +kernel
theorem dX0_count_5 : decode cX0_count 5 = .ok (.iaload, 1) := by decide +kernel
theorem dX0_count_6 : decode cX0_count 6 = .ok (.ireturn, 1) := by decide +kernel
theorem dX0_isFull_0 : decode cX0_isFull 0 = .ok (.aload_n 0, 1) := by decide +kernel
theorem dX0_isFull_1 : decode cX0_isFull 1 = .ok (.getfield 9, 3) := by decide +kernel
theorem dX0_isFull_4 : decode cX0_isFull 4 = .ok (.iconst 0, 1) := by decide +kernel
theorem dX0_isFull_5 : decode cX0_isFull 5 = .ok (.iaload, 1) := by decide +kernel
theorem dX0_isFull_6 : decode cX0_isFull 6 = .ok (.bipush 10, 2) := by decide +kernel
theorem dX0_isFull_8 : decode cX0_isFull 8 = .ok (.if_icmp .lt 7, 3) := by decide +kernel
theorem dX0_isFull_11 : decode cX0_isFull 11 = .ok (.iconst 1, 1) := by decide +kernel
theorem dX0_isFull_12 : decode cX0_isFull 12 = .ok (.goto 4, 3) := by decide +kernel
theorem dX0_isFull_15 : decode cX0_isFull 15 = .ok (.iconst 0, 1) := by decide +kernel
theorem dX0_isFull_16 : decode cX0_isFull 16 = .ok (.ireturn, 1) := by decide +kernel
theorem dX0_has_0 : decode cX0_has 0 = .ok (.iload_n 1, 1) := by decide +kernel
theorem dX0_has_1 : decode cX0_has 1 = .ok (.ifCond .lt 17, 3) := by decide +kernel
theorem dX0_has_4 : decode cX0_has 4 = .ok (.iload_n 1, 1) := by decide +kernel
theorem dX0_has_5 : decode cX0_has 5 = .ok (.aload_n 0, 1) := by decide +kernel
theorem dX0_has_6 : decode cX0_has 6 = .ok (.getfield 9, 3) := by decide +kernel
theorem dX0_has_9 : decode cX0_has 9 = .ok (.iconst 0, 1) := by decide +kernel
theorem dX0_has_10 : decode cX0_has 10 = .ok (.iaload, 1) := by decide +kernel
theorem dX0_has_11 : decode cX0_has 11 = .ok (.if_icmp .ge 7, 3) := by decide +kernel
theorem dX0_has_14 : decode cX0_has 14 = .ok (.iconst 1, 1) := by decide +kernel
theorem dX0_has_15 : decode cX0_has 15 = .ok (.goto 4, 3) := by decide +kernel
theorem dX0_has_18 : decode cX0_has 18 = .ok (.iconst 0, 1) := by decide +kernel
theorem dX0_has_19 : decode cX0_has 19 = .ok (.ireturn, 1) := by decide +kernel
theorem dX0_presentRule_0 : decode cX0_presentRule 0 = .ok (.aload_n 0, 1) := by decide +kernel
theorem dX0_presentRule_1 : decode cX0_presentRule 1 = .ok (.getfield 9, 3) := by decide +kernel
theorem dX0_presentRule_4 : decode cX0_presentRule 4 = .ok (.iconst 1, 1) := by decide +kernel
theorem dX0_presentRule_5 : decode cX0_presentRule 5 = .ok (.iaload, 1) := by decide +kernel
theorem dX0_presentRule_6 : decode cX0_presentRule 6 = .ok (.ireturn, 1) := by decide +kernel
theorem dX0_ticksSoFar_0 : decode cX0_ticksSoFar 0 = .ok (.aload_n 0, 1) := by decide +kernel
theorem dX0_ticksSoFar_1 : decode cX0_ticksSoFar 1 = .ok (.getfield 9, 3) := by decide +kernel
theorem dX0_ticksSoFar_4 : decode cX0_ticksSoFar 4 = .ok (.iconst 2, 1) := by decide +kernel
theorem dX0_ticksSoFar_5 : decode cX0_ticksSoFar 5 = .ok (.iaload, 1) := by decide +kernel
theorem dX0_ticksSoFar_6 : decode cX0_ticksSoFar 6 = .ok (.ireturn, 1) := by decide +kernel
theorem dX0_waitsSoFar_0 : decode cX0_waitsSoFar 0 = .ok (.aload_n 0, 1) := by decide +kernel
theorem dX0_waitsSoFar_1 : decode cX0_waitsSoFar 1 = .ok (.getfield 9, 3) := by decide +kernel
theorem dX0_waitsSoFar_4 : decode cX0_waitsSoFar 4 = .ok (.iconst 3, 1) := by decide +kernel
theorem dX0_waitsSoFar_5 : decode cX0_waitsSoFar 5 = .ok (.iaload, 1) := by decide +kernel
theorem dX0_waitsSoFar_6 : decode cX0_waitsSoFar 6 = .ok (.ireturn, 1) := by decide +kernel
set_option maxRecDepth 20000 in
theorem ggX0_takerOf_X3_isRoom : GoodIn wsX0_takerOf wsX3_isRoom := goodIn_r _ [4] (by decide +kernel) (by decide +kernel)
set_option maxRecDepth 20000 in
theorem gX0_takerOf_X3_isRoom_n31 : GoodIn wsX0_takerOf (wsX3_isRoom) := ggX0_takerOf_X3_isRoom
theorem dX0_takerOf_0 : decode cX0_takerOf 0 = .ok (.iload_n 1, 1) := by decide +kernel
theorem dX0_takerOf_1 : decode cX0_takerOf 1 = .ok (.invokestatic 31, 3) := by decide +kernel
theorem dX0_takerOf_4 : decode cX0_takerOf 4 = .ok (.ifCond .eq 15, 3) := by decide +kernel
theorem dX0_takerOf_7 : decode cX0_takerOf 7 = .ok (.aload_n 0, 1) := by decide +kernel
theorem dX0_takerOf_8 : decode cX0_takerOf 8 = .ok (.getfield 9, 3) := by decide +kernel
theorem dX0_takerOf_11 : decode cX0_takerOf 11 = .ok (.bipush 40, 2) := by decide +kernel
theorem dX0_takerOf_13 : decode cX0_takerOf 13 = .ok (.iload_n 1, 1) := by decide +kernel
theorem dX0_takerOf_14 : decode cX0_takerOf 14 = .ok (.iadd, 1) := by decide +kernel
theorem dX0_takerOf_15 : decode cX0_takerOf 15 = .ok (.iaload, 1) := by decide +kernel
theorem dX0_takerOf_16 : decode cX0_takerOf 16 = .ok (.goto 4, 3) := by decide +kernel
theorem dX0_takerOf_19 : decode cX0_takerOf 19 = .ok (.iconst (-1), 1) := by decide +kernel
theorem dX0_takerOf_20 : decode cX0_takerOf 20 = .ok (.ireturn, 1) := by decide +kernel
set_option maxRecDepth 20000 in
theorem ggX0_isTaken_X0_takerOf : GoodIn wsX0_isTaken wsX0_takerOf := goodIn_r _ [5, 6, 7, 8, 9, 10] (by decide +kernel) (by decide +kernel)
set_option maxRecDepth 20000 in
theorem gX0_isTaken_X0_takerOf : GoodIn wsX0_isTaken (wsV RX0 34 RX0 yX0_takerOf wsX0_takerOf) := goodIn_app (goodIn_of _ (by decide +kernel)) ggX0_isTaken_X0_takerOf
theorem dX0_isTaken_0 : decode cX0_isTaken 0 = .ok (.aload_n 0, 1) := by decide +kernel
theorem dX0_isTaken_1 : decode cX0_isTaken 1 = .ok (.iload_n 1, 1) := by decide +kernel
theorem dX0_isTaken_2 : decode cX0_isTaken 2 = .ok (.invokevirtual 34, 3) := by decide +kernel
theorem dX0_isTaken_5 : decode cX0_isTaken 5 = .ok (.iconst (-1), 1) := by decide +kernel
theorem dX0_isTaken_6 : decode cX0_isTaken 6 = .ok (.if_icmp .eq 7, 3) := by decide +kernel
theorem dX0_isTaken_9 : decode cX0_isTaken 9 = .ok (.iconst 1, 1) := by decide +kernel
theorem dX0_isTaken_10 : decode cX0_isTaken 10 = .ok (.goto 4, 3) := by decide +kernel
theorem dX0_isTaken_13 : decode cX0_isTaken 13 = .ok (.iconst 0, 1) := by decide +kernel
theorem dX0_isTaken_14 : decode cX0_isTaken 14 = .ok (.ireturn, 1) := by decide +kernel
set_option maxRecDepth 20000 in
theorem ggX0_isShut_X3_isRoom : GoodIn wsX0_isShut wsX3_isRoom := goodIn_r _ [4] (by decide +kernel) (by decide +kernel)
set_option maxRecDepth 20000 in
theorem gX0_isShut_X3_isRoom_n31 : GoodIn wsX0_isShut (wsX3_isRoom) := ggX0_isShut_X3_isRoom
theorem dX0_isShut_0 : decode cX0_isShut 0 = .ok (.iload_n 1, 1) := by decide +kernel
theorem dX0_isShut_1 : decode cX0_isShut 1 = .ok (.invokestatic 31, 3) := by decide +kernel
theorem dX0_isShut_4 : decode cX0_isShut 4 = .ok (.ifCond .eq 18, 3) := by decide +kernel
theorem dX0_isShut_7 : decode cX0_isShut 7 = .ok (.aload_n 0, 1) := by decide +kernel
theorem dX0_isShut_8 : decode cX0_isShut 8 = .ok (.getfield 9, 3) := by decide +kernel
theorem dX0_isShut_11 : decode cX0_isShut 11 = .ok (.iconst 4, 1) := by decide +kernel
theorem dX0_isShut_12 : decode cX0_isShut 12 = .ok (.iload_n 1, 1) := by decide +kernel
theorem dX0_isShut_13 : decode cX0_isShut 13 = .ok (.iadd, 1) := by decide +kernel
theorem dX0_isShut_14 : decode cX0_isShut 14 = .ok (.iaload, 1) := by decide +kernel
theorem dX0_isShut_15 : decode cX0_isShut 15 = .ok (.ifCond .eq 7, 3) := by decide +kernel
theorem dX0_isShut_18 : decode cX0_isShut 18 = .ok (.iconst 1, 1) := by decide +kernel
theorem dX0_isShut_19 : decode cX0_isShut 19 = .ok (.goto 4, 3) := by decide +kernel
theorem dX0_isShut_22 : decode cX0_isShut 22 = .ok (.iconst 0, 1) := by decide +kernel
theorem dX0_isShut_23 : decode cX0_isShut 23 = .ok (.ireturn, 1) := by decide +kernel
theorem dX0_isFree_0 : decode cX0_isFree 0 = .ok (.iload_n 1, 1) := by decide +kernel
theorem dX0_isFree_1 : decode cX0_isFree 1 = .ok (.ifCond .lt 37, 3) := by decide +kernel
theorem dX0_isFree_4 : decode cX0_isFree 4 = .ok (.iload_n 1, 1) := by decide +kernel
theorem dX0_isFree_5 : decode cX0_isFree 5 = .ok (.bipush 36, 2) := by decide +kernel
theorem dX0_isFree_7 : decode cX0_isFree 7 = .ok (.if_icmp .ge 31, 3) := by decide +kernel
theorem dX0_isFree_10 : decode cX0_isFree 10 = .ok (.aload_n 0, 1) := by decide +kernel
theorem dX0_isFree_11 : decode cX0_isFree 11 = .ok (.getfield 9, 3) := by decide +kernel
theorem dX0_isFree_14 : decode cX0_isFree 14 = .ok (.iconst 4, 1) := by decide +kernel
theorem dX0_isFree_15 : decode cX0_isFree 15 = .ok (.iload_n 1, 1) := by decide +kernel
theorem dX0_isFree_16 : decode cX0_isFree 16 = .ok (.iadd, 1) := by decide +kernel
theorem dX0_isFree_17 : decode cX0_isFree 17 = .ok (.iaload, 1) := by decide +kernel
theorem dX0_isFree_18 : decode cX0_isFree 18 = .ok (.ifCond .ne 20, 3) := by decide +kernel
theorem dX0_isFree_21 : decode cX0_isFree 21 = .ok (.aload_n 0, 1) := by decide +kernel
theorem dX0_isFree_22 : decode cX0_isFree 22 = .ok (.getfield 9, 3) := by decide +kernel
theorem dX0_isFree_25 : decode cX0_isFree 25 = .ok (.bipush 40, 2) := by decide +kernel
theorem dX0_isFree_27 : decode cX0_isFree 27 = .ok (.iload_n 1, 1) := by decide +kernel
theorem dX0_isFree_28 : decode cX0_isFree 28 = .ok (.iadd, 1) := by decide +kernel
theorem dX0_isFree_29 : decode cX0_isFree 29 = .ok (.iaload, 1) := by decide +kernel
theorem dX0_isFree_30 : decode cX0_isFree 30 = .ok (.iconst (-1), 1) := by decide +kernel
theorem dX0_isFree_31 : decode cX0_isFree 31 = .ok (.if_icmp .ne 7, 3) := by decide +kernel
theorem dX0_isFree_34 : decode cX0_isFree 34 = .ok (.iconst 1, 1) := by decide +kernel
theorem dX0_isFree_35 : decode cX0_isFree 35 = .ok (.goto 4, 3) := by decide +kernel
theorem dX0_isFree_38 : decode cX0_isFree 38 = .ok (.iconst 0, 1) := by decide +kernel
theorem dX0_isFree_39 : decode cX0_isFree 39 = .ok (.ireturn, 1) := by decide +kernel
theorem dX0_setTaker_0 : decode cX0_setTaker 0 = .ok (.iload_n 1, 1) := by decide +kernel
theorem dX0_setTaker_1 : decode cX0_setTaker 1 = .ok (.ifCond .lt 19, 3) := by decide +kernel
theorem dX0_setTaker_4 : decode cX0_setTaker 4 = .ok (.iload_n 1, 1) := by decide +kernel
theorem dX0_setTaker_5 : decode cX0_setTaker 5 = .ok (.bipush 36, 2) := by decide +kernel
theorem dX0_setTaker_7 : decode cX0_setTaker 7 = .ok (.if_icmp .ge 13, 3) := by decide +kernel
theorem dX0_setTaker_10 : decode cX0_setTaker 10 = .ok (.aload_n 0, 1) := by decide +kernel
theorem dX0_setTaker_11 : decode cX0_setTaker 11 = .ok (.getfield 9, 3) := by decide +kernel
theorem dX0_setTaker_14 : decode cX0_setTaker 14 = .ok (.bipush 40, 2) := by decide +kernel
theorem dX0_setTaker_16 : decode cX0_setTaker 16 = .ok (.iload_n 1, 1) := by decide +kernel
theorem dX0_setTaker_17 : decode cX0_setTaker 17 = .ok (.iadd, 1) := by decide +kernel
theorem dX0_setTaker_18 : decode cX0_setTaker 18 = .ok (.iload_n 2, 1) := by decide +kernel
theorem dX0_setTaker_19 : decode cX0_setTaker 19 = .ok (.iastore, 1) := by decide +kernel
theorem dX0_setTaker_20 : decode cX0_setTaker 20 = .ok (.return_, 1) := by decide +kernel
set_option maxRecDepth 20000 in
theorem ggX0_takenRooms_X0_isTaken : GoodIn wsX0_takenRooms wsX0_isTaken := goodIn_r _ [5, 6, 7, 8, 4, 9, 10, 11, 12, 13, 14] (by decide +kernel) (by decide +kernel)
set_option maxRecDepth 20000 in
theorem gX0_takenRooms_X0_isTaken : GoodIn wsX0_takenRooms (wsV RX0 38 RX0 yX0_isTaken wsX0_isTaken) := goodIn_app (goodIn_of _ (by decide +kernel)) ggX0_takenRooms_X0_isTaken
theorem dX0_takenRooms_0 : decode cX0_takenRooms 0 = .ok (.iconst 0, 1) := by decide +kernel
theorem dX0_takenRooms_1 : decode cX0_takenRooms 1 = .ok (.istore_n 1, 1) := by decide +kernel
theorem dX0_takenRooms_2 : decode cX0_takenRooms 2 = .ok (.iconst 0, 1) := by decide +kernel
theorem dX0_takenRooms_3 : decode cX0_takenRooms 3 = .ok (.istore_n 2, 1) := by decide +kernel
theorem dX0_takenRooms_4 : decode cX0_takenRooms 4 = .ok (.iload_n 2, 1) := by decide +kernel
theorem dX0_takenRooms_5 : decode cX0_takenRooms 5 = .ok (.bipush 36, 2) := by decide +kernel
theorem dX0_takenRooms_7 : decode cX0_takenRooms 7 = .ok (.if_icmp .ge 20, 3) := by decide +kernel
theorem dX0_takenRooms_10 : decode cX0_takenRooms 10 = .ok (.aload_n 0, 1) := by decide +kernel
theorem dX0_takenRooms_11 : decode cX0_takenRooms 11 = .ok (.iload_n 2, 1) := by decide +kernel
theorem dX0_takenRooms_12 : decode cX0_takenRooms 12 = .ok (.invokevirtual 38, 3) := by decide +kernel
theorem dX0_takenRooms_15 : decode cX0_takenRooms 15 = .ok (.ifCond .eq 6, 3) := by decide +kernel
theorem dX0_takenRooms_18 : decode cX0_takenRooms 18 = .ok (.iinc 1 1, 3) := by decide +kernel
theorem dX0_takenRooms_21 : decode cX0_takenRooms 21 = .ok (.iinc 2 1, 3) := by decide +kernel
theorem dX0_takenRooms_24 : decode cX0_takenRooms 24 = .ok (.goto (-20), 3) := by decide +kernel
theorem dX0_takenRooms_27 : decode cX0_takenRooms 27 = .ok (.iload_n 1, 1) := by decide +kernel
theorem dX0_takenRooms_28 : decode cX0_takenRooms 28 = .ok (.ireturn, 1) := by decide +kernel
set_option maxRecDepth 20000 in
theorem ggX0_shutRooms_X0_isShut : GoodIn wsX0_shutRooms wsX0_isShut := goodIn_r _ [5, 6, 7, 8, 9, 10] (by decide +kernel) (by decide +kernel)
set_option maxRecDepth 20000 in
theorem gX0_shutRooms_X0_isShut : GoodIn wsX0_shutRooms (wsV RX0 41 RX0 yX0_isShut wsX0_isShut) := goodIn_app (goodIn_of _ (by decide +kernel)) ggX0_shutRooms_X0_isShut
theorem dX0_shutRooms_0 : decode cX0_shutRooms 0 = .ok (.iconst 0, 1) := by decide +kernel
theorem dX0_shutRooms_1 : decode cX0_shutRooms 1 = .ok (.istore_n 1, 1) := by decide +kernel
theorem dX0_shutRooms_2 : decode cX0_shutRooms 2 = .ok (.iconst 0, 1) := by decide +kernel
theorem dX0_shutRooms_3 : decode cX0_shutRooms 3 = .ok (.istore_n 2, 1) := by decide +kernel
theorem dX0_shutRooms_4 : decode cX0_shutRooms 4 = .ok (.iload_n 2, 1) := by decide +kernel
theorem dX0_shutRooms_5 : decode cX0_shutRooms 5 = .ok (.bipush 36, 2) := by decide +kernel
theorem dX0_shutRooms_7 : decode cX0_shutRooms 7 = .ok (.if_icmp .ge 20, 3) := by decide +kernel
theorem dX0_shutRooms_10 : decode cX0_shutRooms 10 = .ok (.aload_n 0, 1) := by decide +kernel
theorem dX0_shutRooms_11 : decode cX0_shutRooms 11 = .ok (.iload_n 2, 1) := by decide +kernel
theorem dX0_shutRooms_12 : decode cX0_shutRooms 12 = .ok (.invokevirtual 41, 3) := by decide +kernel
theorem dX0_shutRooms_15 : decode cX0_shutRooms 15 = .ok (.ifCond .eq 6, 3) := by decide +kernel
theorem dX0_shutRooms_18 : decode cX0_shutRooms 18 = .ok (.iinc 1 1, 3) := by decide +kernel
theorem dX0_shutRooms_21 : decode cX0_shutRooms 21 = .ok (.iinc 2 1, 3) := by decide +kernel
theorem dX0_shutRooms_24 : decode cX0_shutRooms 24 = .ok (.goto (-20), 3) := by decide +kernel
theorem dX0_shutRooms_27 : decode cX0_shutRooms 27 = .ok (.iload_n 1, 1) := by decide +kernel
theorem dX0_shutRooms_28 : decode cX0_shutRooms 28 = .ok (.ireturn, 1) := by decide +kernel
theorem dX0_number_0 : decode cX0_number 0 = .ok (.iload_n 1, 1) := by decide +kernel
theorem dX0_number_1 : decode cX0_number 1 = .ok (.ifCond .lt 19, 3) := by decide +kernel
theorem dX0_number_4 : decode cX0_number 4 = .ok (.iload_n 1, 1) := by decide +kernel
theorem dX0_number_5 : decode cX0_number 5 = .ok (.bipush 10, 2) := by decide +kernel
theorem dX0_number_7 : decode cX0_number 7 = .ok (.if_icmp .ge 13, 3) := by decide +kernel
theorem dX0_number_10 : decode cX0_number 10 = .ok (.iload_n 2, 1) := by decide +kernel
theorem dX0_number_11 : decode cX0_number 11 = .ok (.ifCond .lt 9, 3) := by decide +kernel
theorem dX0_number_14 : decode cX0_number 14 = .ok (.iload_n 2, 1) := by decide +kernel
theorem dX0_number_15 : decode cX0_number 15 = .ok (.bipush 18, 2) := by decide +kernel
theorem dX0_number_17 : decode cX0_number 17 = .ok (.if_icmp .lt 5, 3) := by decide +kernel
theorem dX0_number_20 : decode cX0_number 20 = .ok (.iconst (-1), 1) := by decide +kernel
theorem dX0_number_21 : decode cX0_number 21 = .ok (.ireturn, 1) := by decide +kernel
theorem dX0_number_22 : decode cX0_number 22 = .ok (.aload_n 0, 1) := by decide +kernel
theorem dX0_number_23 : decode cX0_number 23 = .ok (.getfield 9, 3) := by decide +kernel
theorem dX0_number_26 : decode cX0_number 26 = .ok (.bipush 76, 2) := by decide +kernel
theorem dX0_number_28 : decode cX0_number 28 = .ok (.iload_n 1, 1) := by decide +kernel
theorem dX0_number_29 : decode cX0_number 29 = .ok (.bipush 18, 2) := by decide +kernel
theorem dX0_number_31 : decode cX0_number 31 = .ok (.imul, 1) := by decide +kernel
theorem dX0_number_32 : decode cX0_number 32 = .ok (.iadd, 1) := by decide +kernel
theorem dX0_number_33 : decode cX0_number 33 = .ok (.iload_n 2, 1) := by decide +kernel
theorem dX0_number_34 : decode cX0_number 34 = .ok (.iadd, 1) := by decide +kernel
theorem dX0_number_35 : decode cX0_number 35 = .ok (.iaload, 1) := by decide +kernel
theorem dX0_number_36 : decode cX0_number 36 = .ok (.ireturn, 1) := by decide +kernel
theorem dX0_setNumber_0 : decode cX0_setNumber 0 = .ok (.iload_n 1, 1) := by decide +kernel
theorem dX0_setNumber_1 : decode cX0_setNumber 1 = .ok (.ifCond .lt 34, 3) := by decide +kernel
theorem dX0_setNumber_4 : decode cX0_setNumber 4 = .ok (.iload_n 1, 1) := by decide +kernel
theorem dX0_setNumber_5 : decode cX0_setNumber 5 = .ok (.bipush 10, 2) := by decide +kernel
theorem dX0_setNumber_7 : decode cX0_setNumber 7 = .ok (.if_icmp .ge 28, 3) := by decide +kernel
theorem dX0_setNumber_10 : decode cX0_setNumber 10 = .ok (.iload_n 2, 1) := by decide +kernel
theorem dX0_setNumber_11 : decode cX0_setNumber 11 = .ok (.ifCond .lt 24, 3) := by decide +kernel
theorem dX0_setNumber_14 : decode cX0_setNumber 14 = .ok (.iload_n 2, 1) := by decide +kernel
theorem dX0_setNumber_15 : decode cX0_setNumber 15 = .ok (.bipush 18, 2) := by decide +kernel
theorem dX0_setNumber_17 : decode cX0_setNumber 17 = .ok (.if_icmp .ge 18, 3) := by decide +kernel
theorem dX0_setNumber_20 : decode cX0_setNumber 20 = .ok (.aload_n 0, 1) := by decide +kernel
theorem dX0_setNumber_21 : decode cX0_setNumber 21 = .ok (.getfield 9, 3) := by decide +kernel
theorem dX0_setNumber_24 : decode cX0_setNumber 24 = .ok (.bipush 76, 2) := by decide +kernel
theorem dX0_setNumber_26 : decode cX0_setNumber 26 = .ok (.iload_n 1, 1) := by decide +kernel
theorem dX0_setNumber_27 : decode cX0_setNumber 27 = .ok (.bipush 18, 2) := by decide +kernel
theorem dX0_setNumber_29 : decode cX0_setNumber 29 = .ok (.imul, 1) := by decide +kernel
theorem dX0_setNumber_30 : decode cX0_setNumber 30 = .ok (.iadd, 1) := by decide +kernel
theorem dX0_setNumber_31 : decode cX0_setNumber 31 = .ok (.iload_n 2, 1) := by decide +kernel
theorem dX0_setNumber_32 : decode cX0_setNumber 32 = .ok (.iadd, 1) := by decide +kernel
theorem dX0_setNumber_33 : decode cX0_setNumber 33 = .ok (.iload_n 3, 1) := by decide +kernel
theorem dX0_setNumber_34 : decode cX0_setNumber 34 = .ok (.iastore, 1) := by decide +kernel
theorem dX0_setNumber_35 : decode cX0_setNumber 35 = .ok (.return_, 1) := by decide +kernel
set_option maxRecDepth 20000 in
theorem ggX0_isWhere_X0_number : GoodIn wsX0_isWhere wsX0_number := goodIn_r _ [5, 6, 7] (by decide +kernel) (by decide +kernel)
set_option maxRecDepth 20000 in
theorem gX0_isWhere_X0_number : GoodIn wsX0_isWhere (wsV RX0 44 RX0 yX0_number wsX0_number) := goodIn_app (goodIn_of _ (by decide +kernel)) ggX0_isWhere_X0_number
theorem dX0_isWhere_0 : decode cX0_isWhere 0 = .ok (.aload_n 0, 1) := by decide +kernel
theorem dX0_isWhere_1 : decode cX0_isWhere 1 = .ok (.iload_n 1, 1) := by decide +kernel
theorem dX0_isWhere_2 : decode cX0_isWhere 2 = .ok (.iconst 0, 1) := by decide +kernel
theorem dX0_isWhere_3 : decode cX0_isWhere 3 = .ok (.invokevirtual 44, 3) := by decide +kernel
theorem dX0_isWhere_6 : decode cX0_isWhere 6 = .ok (.iload_n 2, 1) := by decide +kernel
theorem dX0_isWhere_7 : decode cX0_isWhere 7 = .ok (.if_icmp .ne 7, 3) := by decide +kernel
theorem dX0_isWhere_10 : decode cX0_isWhere 10 = .ok (.iconst 1, 1) := by decide +kernel
theorem dX0_isWhere_11 : decode cX0_isWhere 11 = .ok (.goto 4, 3) := by decide +kernel
theorem dX0_isWhere_14 : decode cX0_isWhere 14 = .ok (.iconst 0, 1) := by decide +kernel
theorem dX0_isWhere_15 : decode cX0_isWhere 15 = .ok (.ireturn, 1) := by decide +kernel
set_option maxRecDepth 20000 in
theorem ggX0_isUnderWay_X0_isWhere : GoodIn wsX0_isUnderWay wsX0_isWhere := goodIn_r _ [5, 6, 7, 8, 4, 9, 10, 11] (by decide +kernel) (by decide +kernel)
set_option maxRecDepth 20000 in
theorem gX0_isUnderWay_X0_isWhere : GoodIn wsX0_isUnderWay (wsV RX0 48 RX0 yX0_isWhere wsX0_isWhere) := goodIn_app (goodIn_of _ (by decide +kernel)) ggX0_isUnderWay_X0_isWhere
theorem dX0_isUnderWay_0 : decode cX0_isUnderWay 0 = .ok (.aload_n 0, 1) := by decide +kernel
theorem dX0_isUnderWay_1 : decode cX0_isUnderWay 1 = .ok (.iload_n 1, 1) := by decide +kernel
theorem dX0_isUnderWay_2 : decode cX0_isUnderWay 2 = .ok (.iconst 0, 1) := by decide +kernel
theorem dX0_isUnderWay_3 : decode cX0_isUnderWay 3 = .ok (.invokevirtual 48, 3) := by decide +kernel
theorem dX0_isUnderWay_6 : decode cX0_isUnderWay 6 = .ok (.ifCond .ne 12, 3) := by decide +kernel
theorem dX0_isUnderWay_9 : decode cX0_isUnderWay 9 = .ok (.aload_n 0, 1) := by decide +kernel
theorem dX0_isUnderWay_10 : decode cX0_isUnderWay 10 = .ok (.iload_n 1, 1) := by decide +kernel
theorem dX0_isUnderWay_11 : decode cX0_isUnderWay 11 = .ok (.iconst 1, 1) := by decide +kernel
theorem dX0_isUnderWay_12 : decode cX0_isUnderWay 12 = .ok (.invokevirtual 48, 3) := by decide +kernel
theorem dX0_isUnderWay_15 : decode cX0_isUnderWay 15 = .ok (.ifCond .eq 7, 3) := by decide +kernel
theorem dX0_isUnderWay_18 : decode cX0_isUnderWay 18 = .ok (.iconst 1, 1) := by decide +kernel
theorem dX0_isUnderWay_19 : decode cX0_isUnderWay 19 = .ok (.goto 4, 3) := by decide +kernel
theorem dX0_isUnderWay_22 : decode cX0_isUnderWay 22 = .ok (.iconst 0, 1) := by decide +kernel
theorem dX0_isUnderWay_23 : decode cX0_isUnderWay 23 = .ok (.ireturn, 1) := by decide +kernel
set_option maxRecDepth 20000 in
theorem ggX0_isThrough_X0_countWhere : GoodIn wsX0_isThrough wsX0_countWhere := goodIn_r _ [5, 6, 7, 8, 4, 9, 10, 11, 12, 13, 14, 15] (by decide +kernel) (by decide +kernel)
set_option maxRecDepth 20000 in
theorem gX0_isThrough_X0_countWhere : GoodIn wsX0_isThrough (wsV RX0 52 RX0 yX0_countWhere wsX0_countWhere) := goodIn_app (goodIn_of _ (by decide +kernel)) ggX0_isThrough_X0_countWhere
theorem dX0_isThrough_0 : decode cX0_isThrough 0 = .ok (.aload_n 0, 1) := by decide +kernel
theorem dX0_isThrough_1 : decode cX0_isThrough 1 = .ok (.iconst 0, 1) := by decide +kernel
theorem dX0_isThrough_2 : decode cX0_isThrough 2 = .ok (.invokevirtual 52, 3) := by decide +kernel
theorem dX0_isThrough_5 : decode cX0_isThrough 5 = .ok (.ifCond .ne 15, 3) := by decide +kernel
theorem dX0_isThrough_8 : decode cX0_isThrough 8 = .ok (.aload_n 0, 1) := by decide +kernel
theorem dX0_isThrough_9 : decode cX0_isThrough 9 = .ok (.iconst 1, 1) := by decide +kernel
theorem dX0_isThrough_10 : decode cX0_isThrough 10 = .ok (.invokevirtual 52, 3) := by decide +kernel
theorem dX0_isThrough_13 : decode cX0_isThrough 13 = .ok (.ifCond .ne 7, 3) := by decide +kernel
theorem dX0_isThrough_16 : decode cX0_isThrough 16 = .ok (.iconst 1, 1) := by decide +kernel
theorem dX0_isThrough_17 : decode cX0_isThrough 17 = .ok (.goto 4, 3) := by decide +kernel
theorem dX0_isThrough_20 : decode cX0_isThrough 20 = .ok (.iconst 0, 1) := by decide +kernel
theorem dX0_isThrough_21 : decode cX0_isThrough 21 = .ok (.ireturn, 1) := by decide +kernel
set_option maxRecDepth 20000 in
theorem ggX0_countWhere_X0_isWhere : GoodIn wsX0_countWhere wsX0_isWhere := goodIn_r _ [5, 6, 7, 8, 4, 9, 10, 11] (by decide +kernel) (by decide +kernel)
set_option maxRecDepth 20000 in
theorem gX0_countWhere_X0_isWhere : GoodIn wsX0_countWhere (wsV RX0 48 RX0 yX0_isWhere wsX0_isWhere) := goodIn_app (goodIn_of _ (by decide +kernel)) ggX0_countWhere_X0_isWhere
theorem dX0_countWhere_0 : decode cX0_countWhere 0 = .ok (.iconst 0, 1) := by decide +kernel
theorem dX0_countWhere_1 : decode cX0_countWhere 1 = .ok (.istore_n 2, 1) := by decide +kernel
theorem dX0_countWhere_2 : decode cX0_countWhere 2 = .ok (.iconst 0, 1) := by decide +kernel
theorem dX0_countWhere_3 : decode cX0_countWhere 3 = .ok (.istore_n 3, 1) := by decide +kernel
theorem dX0_countWhere_4 : decode cX0_countWhere 4 = .ok (.iload_n 3, 1) := by decide +kernel
theorem dX0_countWhere_5 : decode cX0_countWhere 5 = .ok (.bipush 10, 2) := by decide +kernel
theorem dX0_countWhere_7 : decode cX0_countWhere 7 = .ok (.if_icmp .ge 21, 3) := by decide +kernel
theorem dX0_countWhere_10 : decode cX0_countWhere 10 = .ok (.aload_n 0, 1) := by decide +kernel
theorem dX0_countWhere_11 : decode cX0_countWhere 11 = .ok (.iload_n 3, 1) := by decide +kernel
theorem dX0_countWhere_12 : decode cX0_countWhere 12 = .ok (.iload_n 1, 1) := by decide +kernel
theorem dX0_countWhere_13 : decode cX0_countWhere 13 = .ok (.invokevirtual 48, 3) := by decide +kernel
theorem dX0_countWhere_16 : decode cX0_countWhere 16 = .ok (.ifCond .eq 6, 3) := by decide +kernel
theorem dX0_countWhere_19 : decode cX0_countWhere 19 = .ok (.iinc 2 1, 3) := by decide +kernel
theorem dX0_countWhere_22 : decode cX0_countWhere 22 = .ok (.iinc 3 1, 3) := by decide +kernel
theorem dX0_countWhere_25 : decode cX0_countWhere 25 = .ok (.goto (-21), 3) := by decide +kernel
theorem dX0_countWhere_28 : decode cX0_countWhere 28 = .ok (.iload_n 2, 1) := by decide +kernel
theorem dX0_countWhere_29 : decode cX0_countWhere 29 = .ok (.ireturn, 1) := by decide +kernel
set_option maxRecDepth 20000 in
theorem ggX0_goneSet_X0_isWhere : GoodIn wsX0_goneSet wsX0_isWhere := goodIn_r _ [5, 6, 7, 8, 4, 9, 10, 11] (by decide +kernel) (by decide +kernel)
set_option maxRecDepth 20000 in
theorem gX0_goneSet_X0_isWhere : GoodIn wsX0_goneSet (wsV RX0 48 RX0 yX0_isWhere wsX0_isWhere) := goodIn_app (goodIn_of _ (by decide +kernel)) ggX0_goneSet_X0_isWhere
theorem dX0_goneSet_0 : decode cX0_goneSet 0 = .ok (.iconst 0, 1) := by decide +kernel
theorem dX0_goneSet_1 : decode cX0_goneSet 1 = .ok (.istore_n 1, 1) := by decide +kernel
theorem dX0_goneSet_2 : decode cX0_goneSet 2 = .ok (.iconst 0, 1) := by decide +kernel
theorem dX0_goneSet_3 : decode cX0_goneSet 3 = .ok (.istore_n 2, 1) := by decide +kernel
theorem dX0_goneSet_4 : decode cX0_goneSet 4 = .ok (.iload_n 2, 1) := by decide +kernel
theorem dX0_goneSet_5 : decode cX0_goneSet 5 = .ok (.bipush 10, 2) := by decide +kernel
theorem dX0_goneSet_7 : decode cX0_goneSet 7 = .ok (.if_icmp .ge 24, 3) := by decide +kernel
theorem dX0_goneSet_10 : decode cX0_goneSet 10 = .ok (.aload_n 0, 1) := by decide +kernel
theorem dX0_goneSet_11 : decode cX0_goneSet 11 = .ok (.iload_n 2, 1) := by decide +kernel
theorem dX0_goneSet_12 : decode cX0_goneSet 12 = .ok (.iconst 2, 1) := by decide +kernel
theorem dX0_goneSet_13 : decode cX0_goneSet 13 = .ok (.invokevirtual 48, 3) := by decide +kernel
theorem dX0_goneSet_16 : decode cX0_goneSet 16 = .ok (.ifCond .eq 9, 3) := by decide +kernel
theorem dX0_goneSet_19 : decode cX0_goneSet 19 = .ok (.iload_n 1, 1) := by decide +kernel
theorem dX0_goneSet_20 : decode cX0_goneSet 20 = .ok (.iconst 1, 1) := by decide +kernel
theorem dX0_goneSet_21 : decode cX0_goneSet 21 = .ok (.iload_n 2, 1) := by decide +kernel
theorem dX0_goneSet_22 : decode cX0_goneSet 22 = .ok (.ishl, 1) := by decide +kernel
theorem dX0_goneSet_23 : decode cX0_goneSet 23 = .ok (.ior, 1) := by decide +kernel
theorem dX0_goneSet_24 : decode cX0_goneSet 24 = .ok (.istore_n 1, 1) := by decide +kernel
theorem dX0_goneSet_25 : decode cX0_goneSet 25 = .ok (.iinc 2 1, 3) := by decide +kernel
theorem dX0_goneSet_28 : decode cX0_goneSet 28 = .ok (.goto (-24), 3) := by decide +kernel
theorem dX0_goneSet_31 : decode cX0_goneSet 31 = .ok (.iload_n 1, 1) := by decide +kernel
theorem dX0_goneSet_32 : decode cX0_goneSet 32 = .ok (.ireturn, 1) := by decide +kernel
set_option maxRecDepth 20000 in
theorem ggX0_addCaterpillar_X0_isFull : GoodIn wsX0_addCaterpillar wsX0_isFull := goodIn_r _ [6, 1, 16] (by decide +kernel) (by decide +kernel)
set_option maxRecDepth 20000 in
theorem gX0_addCaterpillar_X0_isFull : GoodIn wsX0_addCaterpillar (wsV RX0 55 RX0 yX0_isFull wsX0_isFull) := goodIn_app (goodIn_of _ (by decide +kernel)) ggX0_addCaterpillar_X0_isFull
set_option maxRecDepth 20000 in
theorem ggX0_addCaterpillar_X3_isRoom : GoodIn wsX0_addCaterpillar wsX3_isRoom := goodIn_r _ [9] (by decide +kernel) (by decide +kernel)
set_option maxRecDepth 20000 in
theorem gX0_addCaterpillar_X3_isRoom_n31 : GoodIn wsX0_addCaterpillar (wsX3_isRoom) := ggX0_addCaterpillar_X3_isRoom
set_option maxRecDepth 20000 in
theorem ggX0_addCaterpillar_X3_isLength : GoodIn wsX0_addCaterpillar wsX3_isLength := goodIn_r _ [11] (by decide +kernel) (by decide +kernel)
set_option maxRecDepth 20000 in
theorem gX0_addCaterpillar_X3_isLength_n59 : GoodIn wsX0_addCaterpillar (wsX3_isLength) := ggX0_addCaterpillar_X3_isLength
set_option maxRecDepth 20000 in
theorem ggX0_addCaterpillar_X0_setNumber : GoodIn wsX0_addCaterpillar wsX0_setNumber := goodIn_r _ [15, 1, 16] (by decide +kernel) (by decide +kernel)
set_option maxRecDepth 20000 in
theorem gX0_addCaterpillar_X0_setNumber : GoodIn wsX0_addCaterpillar (wsV RX0 62 RX0 yX0_setNumber wsX0_setNumber) := goodIn_app (goodIn_of _ (by decide +kernel)) ggX0_addCaterpillar_X0_setNumber
theorem dX0_addCaterpillar_0 : decode cX0_addCaterpillar 0 = .ok (.aload_n 0, 1) := by decide +kernel
theorem dX0_addCaterpillar_1 : decode cX0_addCaterpillar 1 = .ok (.invokevirtual 55, 3) := by decide +kernel
theorem dX0_addCaterpillar_4 : decode cX0_addCaterpillar 4 = .ok (.ifCond .ne 24, 3) := by decide +kernel
theorem dX0_addCaterpillar_7 : decode cX0_addCaterpillar 7 = .ok (.iload_n 1, 1) := by decide +kernel
theorem dX0_addCaterpillar_8 : decode cX0_addCaterpillar 8 = .ok (.invokestatic 31, 3) := by decide +kernel
theorem dX0_addCaterpillar_11 : decode cX0_addCaterpillar 11 = .ok (.ifCond .eq 17, 3) := by decide +kernel
theorem dX0_addCaterpillar_14 : decode cX0_addCaterpillar 14 = .ok (.iload_n 2, 1) := by decide +kernel
theorem dX0_addCaterpillar_15 : decode cX0_addCaterpillar 15 = .ok (.invokestatic 31, 3) := by decide +kernel
theorem dX0_addCaterpillar_18 : decode cX0_addCaterpillar 18 = .ok (.ifCond .eq 10, 3) := by decide +kernel
theorem dX0_addCaterpillar_21 : decode cX0_addCaterpillar 21 = .ok (.iload_n 3, 1) := by decide +kernel
theorem dX0_addCaterpillar_22 : decode cX0_addCaterpillar 22 = .ok (.invokestatic 59, 3) := by decide +kernel
theorem dX0_addCaterpillar_25 : decode cX0_addCaterpillar 25 = .ok (.ifCond .ne 5, 3) := by decide +kernel
theorem dX0_addCaterpillar_28 : decode cX0_addCaterpillar 28 = .ok (.iconst 0, 1) := by decide +kernel
theorem dX0_addCaterpillar_29 : decode cX0_addCaterpillar 29 = .ok (.ireturn, 1) := by decide +kernel
theorem dX0_addCaterpillar_30 : decode cX0_addCaterpillar 30 = .ok (.aload_n 0, 1) := by decide +kernel
theorem dX0_addCaterpillar_31 : decode cX0_addCaterpillar 31 = .ok (.getfield 9, 3) := by decide +kernel
theorem dX0_addCaterpillar_34 : decode cX0_addCaterpillar 34 = .ok (.iconst 0, 1) := by decide +kernel
theorem dX0_addCaterpillar_35 : decode cX0_addCaterpillar 35 = .ok (.iaload, 1) := by decide +kernel
theorem dX0_addCaterpillar_36 : decode cX0_addCaterpillar 36 = .ok (.istore 4, 2) := by decide +kernel
theorem dX0_addCaterpillar_38 : decode cX0_addCaterpillar 38 = .ok (.aload_n 0, 1) := by decide +kernel
theorem dX0_addCaterpillar_39 : decode cX0_addCaterpillar 39 = .ok (.getfield 9, 3) := by decide +kernel
theorem dX0_addCaterpillar_42 : decode cX0_addCaterpillar 42 = .ok (.iconst 0, 1) := by decide +kernel
theorem dX0_addCaterpillar_43 : decode cX0_addCaterpillar 43 = .ok (.dup2, 1) := by decide +kernel
theorem dX0_addCaterpillar_44 : decode cX0_addCaterpillar 44 = .ok (.iaload, 1) := by decide +kernel
theorem dX0_addCaterpillar_45 : decode cX0_addCaterpillar 45 = .ok (.iconst 1, 1) := by decide +kernel
theorem dX0_addCaterpillar_46 : decode cX0_addCaterpillar 46 = .ok (.iadd, 1) := by decide +kernel
theorem dX0_addCaterpillar_47 : decode cX0_addCaterpillar 47 = .ok (.iastore, 1) := by decide +kernel
theorem dX0_addCaterpillar_48 : decode cX0_addCaterpillar 48 = .ok (.aload_n 0, 1) := by decide +kernel
theorem dX0_addCaterpillar_49 : decode cX0_addCaterpillar 49 = .ok (.iload 4, 2) := by decide +kernel
theorem dX0_addCaterpillar_51 : decode cX0_addCaterpillar 51 = .ok (.iconst 0, 1) := by decide +kernel
theorem dX0_addCaterpillar_52 : decode cX0_addCaterpillar 52 = .ok (.iconst 0, 1) := by decide +kernel
theorem dX0_addCaterpillar_53 : decode cX0_addCaterpillar 53 = .ok (.invokevirtual 62, 3) := by decide +kernel
theorem dX0_addCaterpillar_56 : decode cX0_addCaterpillar 56 = .ok (.aload_n 0, 1) := by decide +kernel
theorem dX0_addCaterpillar_57 : decode cX0_addCaterpillar 57 = .ok (.iload 4, 2) := by decide +kernel
theorem dX0_addCaterpillar_59 : decode cX0_addCaterpillar 59 = .ok (.iconst 1, 1) := by decide +kernel
theorem dX0_addCaterpillar_60 : decode cX0_addCaterpillar 60 = .ok (.iconst 0, 1) := by decide +kernel
theorem dX0_addCaterpillar_61 : decode cX0_addCaterpillar 61 = .ok (.invokevirtual 62, 3) := by decide +kernel
theorem dX0_addCaterpillar_64 : decode cX0_addCaterpillar 64 = .ok (.aload_n 0, 1) := by decide +kernel
theorem dX0_addCaterpillar_65 : decode cX0_addCaterpillar 65 = .ok (.iload 4, 2) := by decide +kernel
theorem dX0_addCaterpillar_67 : decode cX0_addCaterpillar 67 = .ok (.iconst 2, 1) := by decide +kernel
theorem dX0_addCaterpillar_68 : decode cX0_addCaterpillar 68 = .ok (.iload_n 3, 1) := by decide +kernel
theorem dX0_addCaterpillar_69 : decode cX0_addCaterpillar 69 = .ok (.invokevirtual 62, 3) := by decide +kernel
theorem dX0_addCaterpillar_72 : decode cX0_addCaterpillar 72 = .ok (.aload_n 0, 1) := by decide +kernel
theorem dX0_addCaterpillar_73 : decode cX0_addCaterpillar 73 = .ok (.iload 4, 2) := by decide +kernel
theorem dX0_addCaterpillar_75 : decode cX0_addCaterpillar 75 = .ok (.iconst 3, 1) := by decide +kernel
theorem dX0_addCaterpillar_76 : decode cX0_addCaterpillar 76 = .ok (.iconst 0, 1) := by decide +kernel
theorem dX0_addCaterpillar_77 : decode cX0_addCaterpillar 77 = .ok (.invokevirtual 62, 3) := by decide +kernel
theorem dX0_addCaterpillar_80 : decode cX0_addCaterpillar 80 = .ok (.aload_n 0, 1) := by decide +kernel
theorem dX0_addCaterpillar_81 : decode cX0_addCaterpillar 81 = .ok (.iload 4, 2) := by decide +kernel
theorem dX0_addCaterpillar_83 : decode cX0_addCaterpillar 83 = .ok (.iconst 4, 1) := by decide +kernel
theorem dX0_addCaterpillar_84 : decode cX0_addCaterpillar 84 = .ok (.iconst 0, 1) := by decide +kernel
theorem dX0_addCaterpillar_85 : decode cX0_addCaterpillar 85 = .ok (.invokevirtual 62, 3) := by decide +kernel
theorem dX0_addCaterpillar_88 : decode cX0_addCaterpillar 88 = .ok (.aload_n 0, 1) := by decide +kernel
theorem dX0_addCaterpillar_89 : decode cX0_addCaterpillar 89 = .ok (.iload 4, 2) := by decide +kernel
theorem dX0_addCaterpillar_91 : decode cX0_addCaterpillar 91 = .ok (.iconst 5, 1) := by decide +kernel
theorem dX0_addCaterpillar_92 : decode cX0_addCaterpillar 92 = .ok (.iconst (-1), 1) := by decide +kernel
theorem dX0_addCaterpillar_93 : decode cX0_addCaterpillar 93 = .ok (.invokevirtual 62, 3) := by decide +kernel
theorem dX0_addCaterpillar_96 : decode cX0_addCaterpillar 96 = .ok (.aload_n 0, 1) := by decide +kernel
theorem dX0_addCaterpillar_97 : decode cX0_addCaterpillar 97 = .ok (.iload 4, 2) := by decide +kernel
theorem dX0_addCaterpillar_99 : decode cX0_addCaterpillar 99 = .ok (.bipush 6, 2) := by decide +kernel
theorem dX0_addCaterpillar_101 : decode cX0_addCaterpillar 101 = .ok (.iload_n 1, 1) := by decide +kernel
theorem dX0_addCaterpillar_102 : decode cX0_addCaterpillar 102 = .ok (.invokevirtual 62, 3) := by decide +kernel
theorem dX0_addCaterpillar_105 : decode cX0_addCaterpillar 105 = .ok (.aload_n 0, 1) := by decide +kernel
theorem dX0_addCaterpillar_106 : decode cX0_addCaterpillar 106 = .ok (.iload 4, 2) := by decide +kernel
theorem dX0_addCaterpillar_108 : decode cX0_addCaterpillar 108 = .ok (.bipush 7, 2) := by decide +kernel
theorem dX0_addCaterpillar_110 : decode cX0_addCaterpillar 110 = .ok (.iload_n 2, 1) := by decide +kernel
theorem dX0_addCaterpillar_111 : decode cX0_addCaterpillar 111 = .ok (.invokevirtual 62, 3) := by decide +kernel
theorem dX0_addCaterpillar_114 : decode cX0_addCaterpillar 114 = .ok (.aload_n 0, 1) := by decide +kernel
theorem dX0_addCaterpillar_115 : decode cX0_addCaterpillar 115 = .ok (.iload 4, 2) := by decide +kernel
theorem dX0_addCaterpillar_117 : decode cX0_addCaterpillar 117 = .ok (.bipush 8, 2) := by decide +kernel
theorem dX0_addCaterpillar_119 : decode cX0_addCaterpillar 119 = .ok (.iload_n 3, 1) := by decide +kernel
theorem dX0_addCaterpillar_120 : decode cX0_addCaterpillar 120 = .ok (.invokevirtual 62, 3) := by decide +kernel
theorem dX0_addCaterpillar_123 : decode cX0_addCaterpillar 123 = .ok (.iconst 1, 1) := by decide +kernel
theorem dX0_addCaterpillar_124 : decode cX0_addCaterpillar 124 = .ok (.ireturn, 1) := by decide +kernel
set_option maxRecDepth 20000 in
theorem ggX0_setRule_X3_isRule : GoodIn wsX0_setRule wsX3_isRule := goodIn_r _ [4] (by decide +kernel) (by decide +kernel)
set_option maxRecDepth 20000 in
theorem gX0_setRule_X3_isRule_n66 : GoodIn wsX0_setRule (wsX3_isRule) := ggX0_setRule_X3_isRule
theorem dX0_setRule_0 : decode cX0_setRule 0 = .ok (.iload_n 1, 1) := by decide +kernel
theorem dX0_setRule_1 : decode cX0_setRule 1 = .ok (.invokestatic 66, 3) := by decide +kernel
theorem dX0_setRule_4 : decode cX0_setRule 4 = .ok (.ifCond .ne 5, 3) := by decide +kernel
theorem dX0_setRule_7 : decode cX0_setRule 7 = .ok (.iconst 0, 1) := by decide +kernel
theorem dX0_setRule_8 : decode cX0_setRule 8 = .ok (.ireturn, 1) := by decide +kernel
theorem dX0_setRule_9 : decode cX0_setRule 9 = .ok (.aload_n 0, 1) := by decide +kernel
theorem dX0_setRule_10 : decode cX0_setRule 10 = .ok (.getfield 9, 3) := by decide +kernel
theorem dX0_setRule_13 : decode cX0_setRule 13 = .ok (.iconst 1, 1) := by decide +kernel
theorem dX0_setRule_14 : decode cX0_setRule 14 = .ok (.iload_n 1, 1) := by decide +kernel
theorem dX0_setRule_15 : decode cX0_setRule 15 = .ok (.iastore, 1) := by decide +kernel
theorem dX0_setRule_16 : decode cX0_setRule 16 = .ok (.iconst 1, 1) := by decide +kernel
theorem dX0_setRule_17 : decode cX0_setRule 17 = .ok (.ireturn, 1) := by decide +kernel
set_option maxRecDepth 20000 in
theorem ggX0_setShut_X3_isRoom : GoodIn wsX0_setShut wsX3_isRoom := goodIn_r _ [4] (by decide +kernel) (by decide +kernel)
set_option maxRecDepth 20000 in
theorem gX0_setShut_X3_isRoom_n31 : GoodIn wsX0_setShut (wsX3_isRoom) := ggX0_setShut_X3_isRoom
set_option maxRecDepth 20000 in
theorem ggX0_setShut_X0_isTaken : GoodIn wsX0_setShut wsX0_isTaken := goodIn_r _ [9, 10, 11, 12, 8, 13, 1, 2, 3, 4, 14] (by decide +kernel) (by decide +kernel)
set_option maxRecDepth 20000 in
theorem gX0_setShut_X0_isTaken : GoodIn wsX0_setShut (wsV RX0 38 RX0 yX0_isTaken wsX0_isTaken) := goodIn_app (goodIn_of _ (by decide +kernel)) ggX0_setShut_X0_isTaken
theorem dX0_setShut_0 : decode cX0_setShut 0 = .ok (.iload_n 1, 1) := by decide +kernel
theorem dX0_setShut_1 : decode cX0_setShut 1 = .ok (.invokestatic 31, 3) := by decide +kernel
theorem dX0_setShut_4 : decode cX0_setShut 4 = .ok (.ifCond .eq 15, 3) := by decide +kernel
theorem dX0_setShut_7 : decode cX0_setShut 7 = .ok (.iload_n 2, 1) := by decide +kernel
theorem dX0_setShut_8 : decode cX0_setShut 8 = .ok (.ifCond .eq 13, 3) := by decide +kernel
theorem dX0_setShut_11 : decode cX0_setShut 11 = .ok (.aload_n 0, 1) := by decide +kernel
theorem dX0_setShut_12 : decode cX0_setShut 12 = .ok (.iload_n 1, 1) := by decide +kernel
theorem dX0_setShut_13 : decode cX0_setShut 13 = .ok (.invokevirtual 38, 3) := by decide +kernel
theorem dX0_setShut_16 : decode cX0_setShut 16 = .ok (.ifCond .eq 5, 3) := by decide +kernel
theorem dX0_setShut_19 : decode cX0_setShut 19 = .ok (.iconst 0, 1) := by decide +kernel
theorem dX0_setShut_20 : decode cX0_setShut 20 = .ok (.ireturn, 1) := by decide +kernel
theorem dX0_setShut_21 : decode cX0_setShut 21 = .ok (.aload_n 0, 1) := by decide +kernel
theorem dX0_setShut_22 : decode cX0_setShut 22 = .ok (.getfield 9, 3) := by decide +kernel
theorem dX0_setShut_25 : decode cX0_setShut 25 = .ok (.iconst 4, 1) := by decide +kernel
theorem dX0_setShut_26 : decode cX0_setShut 26 = .ok (.iload_n 1, 1) := by decide +kernel
theorem dX0_setShut_27 : decode cX0_setShut 27 = .ok (.iadd, 1) := by decide +kernel
theorem dX0_setShut_28 : decode cX0_setShut 28 = .ok (.iload_n 2, 1) := by decide +kernel
theorem dX0_setShut_29 : decode cX0_setShut 29 = .ok (.ifCond .eq 7, 3) := by decide +kernel
theorem dX0_setShut_32 : decode cX0_setShut 32 = .ok (.iconst 1, 1) := by decide +kernel
theorem dX0_setShut_33 : decode cX0_setShut 33 = .ok (.goto 4, 3) := by decide +kernel
theorem dX0_setShut_36 : decode cX0_setShut 36 = .ok (.iconst 0, 1) := by decide +kernel
theorem dX0_setShut_37 : decode cX0_setShut 37 = .ok (.iastore, 1) := by decide +kernel
theorem dX0_setShut_38 : decode cX0_setShut 38 = .ok (.iconst 1, 1) := by decide +kernel
theorem dX0_setShut_39 : decode cX0_setShut 39 = .ok (.ireturn, 1) := by decide +kernel
set_option maxRecDepth 20000 in
theorem ggX0_pullOut_X0_isUnderWay : GoodIn wsX0_pullOut wsX0_isUnderWay := goodIn_r _ [5, 6, 7, 8, 4, 9, 10, 11, 12, 13, 14, 30] (by decide +kernel) (by decide +kernel)
set_option maxRecDepth 20000 in
theorem gX0_pullOut_X0_isUnderWay : GoodIn wsX0_pullOut (wsV RX0 69 RX0 yX0_isUnderWay wsX0_isUnderWay) := goodIn_app (goodIn_of _ (by decide +kernel)) ggX0_pullOut_X0_isUnderWay
set_option maxRecDepth 20000 in
theorem ggX0_pullOut_X0_takerOf : GoodIn wsX0_pullOut wsX0_takerOf := goodIn_r _ [18, 14, 19, 20, 21, 30] (by decide +kernel) (by decide +kernel)
set_option maxRecDepth 20000 in
theorem gX0_pullOut_X0_takerOf : GoodIn wsX0_pullOut (wsV RX0 34 RX0 yX0_takerOf wsX0_takerOf) := goodIn_app (goodIn_of _ (by decide +kernel)) ggX0_pullOut_X0_takerOf
set_option maxRecDepth 20000 in
theorem ggX0_pullOut_X0_setTaker : GoodIn wsX0_pullOut wsX0_setTaker := goodIn_r _ [25, 14, 30] (by decide +kernel) (by decide +kernel)
set_option maxRecDepth 20000 in
theorem gX0_pullOut_X0_setTaker : GoodIn wsX0_pullOut (wsV RX0 72 RX0 yX0_setTaker wsX0_setTaker) := goodIn_app (goodIn_of _ (by decide +kernel)) ggX0_pullOut_X0_setTaker
set_option maxRecDepth 20000 in
theorem ggX0_pullOut_X0_setNumber : GoodIn wsX0_pullOut wsX0_setNumber := goodIn_r _ [29, 14, 30] (by decide +kernel) (by decide +kernel)
set_option maxRecDepth 20000 in
theorem gX0_pullOut_X0_setNumber : GoodIn wsX0_pullOut (wsV RX0 62 RX0 yX0_setNumber wsX0_setNumber) := goodIn_app (goodIn_of _ (by decide +kernel)) ggX0_pullOut_X0_setNumber
theorem dX0_pullOut_0 : decode cX0_pullOut 0 = .ok (.aload_n 0, 1) := by decide +kernel
theorem dX0_pullOut_1 : decode cX0_pullOut 1 = .ok (.iload_n 1, 1) := by decide +kernel
theorem dX0_pullOut_2 : decode cX0_pullOut 2 = .ok (.invokevirtual 69, 3) := by decide +kernel
theorem dX0_pullOut_5 : decode cX0_pullOut 5 = .ok (.ifCond .ne 5, 3) := by decide +kernel
theorem dX0_pullOut_8 : decode cX0_pullOut 8 = .ok (.iconst 0, 1) := by decide +kernel
theorem dX0_pullOut_9 : decode cX0_pullOut 9 = .ok (.ireturn, 1) := by decide +kernel
theorem dX0_pullOut_10 : decode cX0_pullOut 10 = .ok (.iconst 0, 1) := by decide +kernel
theorem dX0_pullOut_11 : decode cX0_pullOut 11 = .ok (.istore_n 2, 1) := by decide +kernel
theorem dX0_pullOut_12 : decode cX0_pullOut 12 = .ok (.iload_n 2, 1) := by decide +kernel
theorem dX0_pullOut_13 : decode cX0_pullOut 13 = .ok (.bipush 36, 2) := by decide +kernel
theorem dX0_pullOut_15 : decode cX0_pullOut 15 = .ok (.if_icmp .ge 24, 3) := by decide +kernel
theorem dX0_pullOut_18 : decode cX0_pullOut 18 = .ok (.aload_n 0, 1) := by decide +kernel
theorem dX0_pullOut_19 : decode cX0_pullOut 19 = .ok (.iload_n 2, 1) := by decide +kernel
theorem dX0_pullOut_20 : decode cX0_pullOut 20 = .ok (.invokevirtual 34, 3) := by decide +kernel
theorem dX0_pullOut_23 : decode cX0_pullOut 23 = .ok (.iload_n 1, 1) := by decide +kernel
theorem dX0_pullOut_24 : decode cX0_pullOut 24 = .ok (.if_icmp .ne 9, 3) := by decide +kernel
theorem dX0_pullOut_27 : decode cX0_pullOut 27 = .ok (.aload_n 0, 1) := by decide +kernel
theorem dX0_pullOut_28 : decode cX0_pullOut 28 = .ok (.iload_n 2, 1) := by decide +kernel
theorem dX0_pullOut_29 : decode cX0_pullOut 29 = .ok (.iconst (-1), 1) := by decide +kernel
theorem dX0_pullOut_30 : decode cX0_pullOut 30 = .ok (.invokevirtual 72, 3) := by decide +kernel
theorem dX0_pullOut_33 : decode cX0_pullOut 33 = .ok (.iinc 2 1, 3) := by decide +kernel
theorem dX0_pullOut_36 : decode cX0_pullOut 36 = .ok (.goto (-24), 3) := by decide +kernel
theorem dX0_pullOut_39 : decode cX0_pullOut 39 = .ok (.aload_n 0, 1) := by decide +kernel
theorem dX0_pullOut_40 : decode cX0_pullOut 40 = .ok (.iload_n 1, 1) := by decide +kernel
theorem dX0_pullOut_41 : decode cX0_pullOut 41 = .ok (.iconst 0, 1) := by decide +kernel
theorem dX0_pullOut_42 : decode cX0_pullOut 42 = .ok (.iconst 3, 1) := by decide +kernel
theorem dX0_pullOut_43 : decode cX0_pullOut 43 = .ok (.invokevirtual 62, 3) := by decide +kernel
theorem dX0_pullOut_46 : decode cX0_pullOut 46 = .ok (.aload_n 0, 1) := by decide +kernel
theorem dX0_pullOut_47 : decode cX0_pullOut 47 = .ok (.iload_n 1, 1) := by decide +kernel
theorem dX0_pullOut_48 : decode cX0_pullOut 48 = .ok (.iconst 1, 1) := by decide +kernel
theorem dX0_pullOut_49 : decode cX0_pullOut 49 = .ok (.iconst 0, 1) := by decide +kernel
theorem dX0_pullOut_50 : decode cX0_pullOut 50 = .ok (.invokevirtual 62, 3) := by decide +kernel
theorem dX0_pullOut_53 : decode cX0_pullOut 53 = .ok (.aload_n 0, 1) := by decide +kernel
theorem dX0_pullOut_54 : decode cX0_pullOut 54 = .ok (.iload_n 1, 1) := by decide +kernel
theorem dX0_pullOut_55 : decode cX0_pullOut 55 = .ok (.iconst 2, 1) := by decide +kernel
theorem dX0_pullOut_56 : decode cX0_pullOut 56 = .ok (.iconst 0, 1) := by decide +kernel
theorem dX0_pullOut_57 : decode cX0_pullOut 57 = .ok (.invokevirtual 62, 3) := by decide +kernel
theorem dX0_pullOut_60 : decode cX0_pullOut 60 = .ok (.iconst 1, 1) := by decide +kernel
theorem dX0_pullOut_61 : decode cX0_pullOut 61 = .ok (.ireturn, 1) := by decide +kernel
set_option maxRecDepth 20000 in
theorem ggX0_runTicks_X3_isTicks : GoodIn wsX0_runTicks wsX3_isTicks := goodIn_r _ [3] (by decide +kernel) (by decide +kernel)
set_option maxRecDepth 20000 in
theorem gX0_runTicks_X3_isTicks_n76 : GoodIn wsX0_runTicks (wsX3_isTicks) := ggX0_runTicks_X3_isTicks
set_option maxRecDepth 20000 in
theorem ggX0_runTicks_X0_moveAll : GoodIn wsX0_runTicks wsX0_moveAll := goodIn_r _ [8, 9, 10, 11, 12, 7, 13, 14, 15, 16, 17, 18, 19, 20, 21, 22, 23, 24, 25, 26, 27, 28, 29, 30, 31, 32, 33, 34, 35, 36, 37, 38, 39, 40, 41, 42, 43, 44, 45, 46, 47, 48, 49, 50, 51, 52, 53, 54, 55, 56, 57, 58, 59, 60] (by decide +kernel) (by decide +kernel)
set_option maxRecDepth 20000 in
theorem gX0_runTicks_X0_moveAll : GoodIn wsX0_runTicks (wsV RX0 79 RX0 yX0_moveAll wsX0_moveAll) := goodIn_app (goodIn_of _ (by decide +kernel)) ggX0_runTicks_X0_moveAll
theorem dX0_runTicks_0 : decode cX0_runTicks 0 = .ok (.iload_n 1, 1) := by decide +kernel
theorem dX0_runTicks_1 : decode cX0_runTicks 1 = .ok (.invokestatic 76, 3) := by decide +kernel
theorem dX0_runTicks_4 : decode cX0_runTicks 4 = .ok (.ifCond .ne 5, 3) := by decide +kernel
theorem dX0_runTicks_7 : decode cX0_runTicks 7 = .ok (.iconst 0, 1) := by decide +kernel
theorem dX0_runTicks_8 : decode cX0_runTicks 8 = .ok (.ireturn, 1) := by decide +kernel
theorem dX0_runTicks_9 : decode cX0_runTicks 9 = .ok (.iconst 0, 1) := by decide +kernel
theorem dX0_runTicks_10 : decode cX0_runTicks 10 = .ok (.istore_n 2, 1) := by decide +kernel
theorem dX0_runTicks_11 : decode cX0_runTicks 11 = .ok (.iload_n 2, 1) := by decide +kernel
theorem dX0_runTicks_12 : decode cX0_runTicks 12 = .ok (.iload_n 1, 1) := by decide +kernel
theorem dX0_runTicks_13 : decode cX0_runTicks 13 = .ok (.if_icmp .ge 14, 3) := by decide +kernel
theorem dX0_runTicks_16 : decode cX0_runTicks 16 = .ok (.aload_n 0, 1) := by decide +kernel
theorem dX0_runTicks_17 : decode cX0_runTicks 17 = .ok (.invokevirtual 79, 3) := by decide +kernel
theorem dX0_runTicks_20 : decode cX0_runTicks 20 = .ok (.pop, 1) := by decide +kernel
theorem dX0_runTicks_21 : decode cX0_runTicks 21 = .ok (.iinc 2 1, 3) := by decide +kernel
theorem dX0_runTicks_24 : decode cX0_runTicks 24 = .ok (.goto (-13), 3) := by decide +kernel
theorem dX0_runTicks_27 : decode cX0_runTicks 27 = .ok (.iconst 1, 1) := by decide +kernel
theorem dX0_runTicks_28 : decode cX0_runTicks 28 = .ok (.ireturn, 1) := by decide +kernel
set_option maxRecDepth 20000 in
theorem ggX0_moveAll_X0_isUnderWay : GoodIn wsX0_moveAll wsX0_isUnderWay := goodIn_r _ [6, 7, 8, 9, 5, 10, 11, 12, 13, 14, 1, 53] (by decide +kernel) (by decide +kernel)
set_option maxRecDepth 20000 in
theorem gX0_moveAll_X0_isUnderWay : GoodIn wsX0_moveAll (wsV RX0 69 RX0 yX0_isUnderWay wsX0_isUnderWay) := goodIn_app (goodIn_of _ (by decide +kernel)) ggX0_moveAll_X0_isUnderWay
set_option maxRecDepth 20000 in
theorem ggX0_moveAll_X0_moveOne : GoodIn wsX0_moveAll wsX0_moveOne := goodIn_r _ [18, 1, 19, 20, 21, 5, 22, 11, 12, 13, 14, 23, 24, 25, 26, 27, 28, 29, 30, 31, 32, 33, 34, 35, 36, 37, 38, 39, 40, 41, 42, 43, 44, 45, 46, 47, 48, 49, 50, 51, 52, 53] (by decide +kernel) (by decide +kernel)
set_option maxRecDepth 20000 in
theorem gX0_moveAll_X0_moveOne : GoodIn wsX0_moveAll (wsV RX0 82 RX0 yX0_moveOne wsX0_moveOne) := goodIn_app (goodIn_of _ (by decide +kernel)) ggX0_moveAll_X0_moveOne
theorem dX0_moveAll_0 : decode cX0_moveAll 0 = .ok (.aload_n 0, 1) := by decide +kernel
theorem dX0_moveAll_1 : decode cX0_moveAll 1 = .ok (.getfield 9, 3) := by decide +kernel
theorem dX0_moveAll_4 : decode cX0_moveAll 4 = .ok (.iconst 2, 1) := by decide +kernel
theorem dX0_moveAll_5 : decode cX0_moveAll 5 = .ok (.dup2, 1) := by decide +kernel
theorem dX0_moveAll_6 : decode cX0_moveAll 6 = .ok (.iaload, 1) := by decide +kernel
theorem dX0_moveAll_7 : decode cX0_moveAll 7 = .ok (.iconst 1, 1) := by decide +kernel
theorem dX0_moveAll_8 : decode cX0_moveAll 8 = .ok (.iadd, 1) := by decide +kernel
theorem dX0_moveAll_9 : decode cX0_moveAll 9 = .ok (.iastore, 1) := by decide +kernel
theorem dX0_moveAll_10 : decode cX0_moveAll 10 = .ok (.iconst 0, 1) := by decide +kernel
theorem dX0_moveAll_11 : decode cX0_moveAll 11 = .ok (.istore_n 1, 1) := by decide +kernel
theorem dX0_moveAll_12 : decode cX0_moveAll 12 = .ok (.iconst 0, 1) := by decide +kernel
theorem dX0_moveAll_13 : decode cX0_moveAll 13 = .ok (.istore_n 2, 1) := by decide +kernel
theorem dX0_moveAll_14 : decode cX0_moveAll 14 = .ok (.iload_n 2, 1) := by decide +kernel
theorem dX0_moveAll_15 : decode cX0_moveAll 15 = .ok (.bipush 10, 2) := by decide +kernel
theorem dX0_moveAll_17 : decode cX0_moveAll 17 = .ok (.if_icmp .ge 27, 3) := by decide +kernel
theorem dX0_moveAll_20 : decode cX0_moveAll 20 = .ok (.aload_n 0, 1) := by decide +kernel
theorem dX0_moveAll_21 : decode cX0_moveAll 21 = .ok (.iload_n 2, 1) := by decide +kernel
theorem dX0_moveAll_22 : decode cX0_moveAll 22 = .ok (.invokevirtual 69, 3) := by decide +kernel
theorem dX0_moveAll_25 : decode cX0_moveAll 25 = .ok (.ifCond .eq 13, 3) := by decide +kernel
theorem dX0_moveAll_28 : decode cX0_moveAll 28 = .ok (.aload_n 0, 1) := by decide +kernel
theorem dX0_moveAll_29 : decode cX0_moveAll 29 = .ok (.iload_n 2, 1) := by decide +kernel
theorem dX0_moveAll_30 : decode cX0_moveAll 30 = .ok (.invokevirtual 82, 3) := by decide +kernel
theorem dX0_moveAll_33 : decode cX0_moveAll 33 = .ok (.ifCond .eq 5, 3) := by decide +kernel
theorem dX0_moveAll_36 : decode cX0_moveAll 36 = .ok (.iconst 1, 1) := by decide +kernel
theorem dX0_moveAll_37 : decode cX0_moveAll 37 = .ok (.istore_n 1, 1) := by decide +kernel
theorem dX0_moveAll_38 : decode cX0_moveAll 38 = .ok (.iinc 2 1, 3) := by decide +kernel
theorem dX0_moveAll_41 : decode cX0_moveAll 41 = .ok (.goto (-27), 3) := by decide +kernel
theorem dX0_moveAll_44 : decode cX0_moveAll 44 = .ok (.iload_n 1, 1) := by decide +kernel
theorem dX0_moveAll_45 : decode cX0_moveAll 45 = .ok (.ireturn, 1) := by decide +kernel
set_option maxRecDepth 20000 in
theorem ggX0_moveOne_X0_nextRoomOf : GoodIn wsX0_moveOne wsX0_nextRoomOf := goodIn_r _ [6, 1, 7, 8, 9, 5, 10, 11, 12, 13, 14, 15, 16, 17, 18, 19, 20, 41] (by decide +kernel) (by decide +kernel)
set_option maxRecDepth 20000 in
theorem gX0_moveOne_X0_nextRoomOf : GoodIn wsX0_moveOne (wsV RX0 85 RX0 yX0_nextRoomOf wsX0_nextRoomOf) := goodIn_app (goodIn_of _ (by decide +kernel)) ggX0_moveOne_X0_nextRoomOf
set_option maxRecDepth 20000 in
theorem ggX0_moveOne_X0_isFree : GoodIn wsX0_moveOne wsX0_isFree := goodIn_r _ [20, 1, 41] (by decide +kernel) (by decide +kernel)
set_option maxRecDepth 20000 in
theorem gX0_moveOne_X0_isFree : GoodIn wsX0_moveOne (wsV RX0 88 RX0 yX0_isFree wsX0_isFree) := goodIn_app (goodIn_of _ (by decide +kernel)) ggX0_moveOne_X0_isFree
set_option maxRecDepth 20000 in
theorem ggX0_moveOne_X0_number : GoodIn wsX0_moveOne wsX0_number := goodIn_r _ [10, 1, 41] (by decide +kernel) (by decide +kernel)
set_option maxRecDepth 20000 in
theorem gX0_moveOne_X0_number : GoodIn wsX0_moveOne (wsV RX0 44 RX0 yX0_number wsX0_number) := goodIn_app (goodIn_of _ (by decide +kernel)) ggX0_moveOne_X0_number
set_option maxRecDepth 20000 in
theorem ggX0_moveOne_X0_setNumber : GoodIn wsX0_moveOne wsX0_setNumber := goodIn_r _ [24, 1, 41] (by decide +kernel) (by decide +kernel)
set_option maxRecDepth 20000 in
theorem gX0_moveOne_X0_setNumber : GoodIn wsX0_moveOne (wsV RX0 62 RX0 yX0_setNumber wsX0_setNumber) := goodIn_app (goodIn_of _ (by decide +kernel)) ggX0_moveOne_X0_setNumber
set_option maxRecDepth 20000 in
theorem ggX0_moveOne_X0_drawIn : GoodIn wsX0_moveOne wsX0_drawIn := goodIn_r _ [28, 7, 8, 9, 5, 10, 1, 21, 22, 23, 24, 29, 30, 31, 32, 41] (by decide +kernel) (by decide +kernel)
set_option maxRecDepth 20000 in
theorem gX0_moveOne_X0_drawIn : GoodIn wsX0_moveOne (wsV RX0 91 RX0 yX0_drawIn wsX0_drawIn) := goodIn_app (goodIn_of _ (by decide +kernel)) ggX0_moveOne_X0_drawIn
set_option maxRecDepth 20000 in
theorem ggX0_moveOne_X0_eatOnePart : GoodIn wsX0_moveOne wsX0_eatOnePart := goodIn_r _ [36, 1, 7, 8, 9, 5, 10, 21, 22, 23, 24, 41] (by decide +kernel) (by decide +kernel)
set_option maxRecDepth 20000 in
theorem gX0_moveOne_X0_eatOnePart : GoodIn wsX0_moveOne (wsV RX0 95 RX0 yX0_eatOnePart wsX0_eatOnePart) := goodIn_app (goodIn_of _ (by decide +kernel)) ggX0_moveOne_X0_eatOnePart
set_option maxRecDepth 20000 in
theorem ggX0_moveOne_X0_putHead : GoodIn wsX0_moveOne wsX0_putHead := goodIn_r _ [40, 7, 8, 9, 5, 10, 1, 21, 22, 23, 24, 29, 30, 31, 32, 41] (by decide +kernel) (by decide +kernel)
set_option maxRecDepth 20000 in
theorem gX0_moveOne_X0_putHead : GoodIn wsX0_moveOne (wsV RX0 98 RX0 yX0_putHead wsX0_putHead) := goodIn_app (goodIn_of _ (by decide +kernel)) ggX0_moveOne_X0_putHead
theorem dX0_moveOne_0 : decode cX0_moveOne 0 = .ok (.aload_n 0, 1) := by decide +kernel
theorem dX0_moveOne_1 : decode cX0_moveOne 1 = .ok (.iload_n 1, 1) := by decide +kernel
theorem dX0_moveOne_2 : decode cX0_moveOne 2 = .ok (.invokevirtual 85, 3) := by decide +kernel
theorem dX0_moveOne_5 : decode cX0_moveOne 5 = .ok (.istore_n 2, 1) := by decide +kernel
theorem dX0_moveOne_6 : decode cX0_moveOne 6 = .ok (.iload_n 2, 1) := by decide +kernel
theorem dX0_moveOne_7 : decode cX0_moveOne 7 = .ok (.iconst (-1), 1) := by decide +kernel
theorem dX0_moveOne_8 : decode cX0_moveOne 8 = .ok (.if_icmp .ne 7, 3) := by decide +kernel
theorem dX0_moveOne_11 : decode cX0_moveOne 11 = .ok (.iconst 1, 1) := by decide +kernel
theorem dX0_moveOne_12 : decode cX0_moveOne 12 = .ok (.goto 4, 3) := by decide +kernel
theorem dX0_moveOne_15 : decode cX0_moveOne 15 = .ok (.iconst 0, 1) := by decide +kernel
theorem dX0_moveOne_16 : decode cX0_moveOne 16 = .ok (.istore_n 3, 1) := by decide +kernel
theorem dX0_moveOne_17 : decode cX0_moveOne 17 = .ok (.iload_n 3, 1) := by decide +kernel
theorem dX0_moveOne_18 : decode cX0_moveOne 18 = .ok (.ifCond .ne 37, 3) := by decide +kernel
theorem dX0_moveOne_21 : decode cX0_moveOne 21 = .ok (.aload_n 0, 1) := by decide +kernel
theorem dX0_moveOne_22 : decode cX0_moveOne 22 = .ok (.iload_n 2, 1) := by decide +kernel
theorem dX0_moveOne_23 : decode cX0_moveOne 23 = .ok (.invokevirtual 88, 3) := by decide +kernel
theorem dX0_moveOne_26 : decode cX0_moveOne 26 = .ok (.ifCond .ne 29, 3) := by decide +kernel
theorem dX0_moveOne_29 : decode cX0_moveOne 29 = .ok (.aload_n 0, 1) := by decide +kernel
theorem dX0_moveOne_30 : decode cX0_moveOne 30 = .ok (.iload_n 1, 1) := by decide +kernel
theorem dX0_moveOne_31 : decode cX0_moveOne 31 = .ok (.iconst 4, 1) := by decide +kernel
theorem dX0_moveOne_32 : decode cX0_moveOne 32 = .ok (.aload_n 0, 1) := by decide +kernel
theorem dX0_moveOne_33 : decode cX0_moveOne 33 = .ok (.iload_n 1, 1) := by decide +kernel
theorem dX0_moveOne_34 : decode cX0_moveOne 34 = .ok (.iconst 4, 1) := by decide +kernel
theorem dX0_moveOne_35 : decode cX0_moveOne 35 = .ok (.invokevirtual 44, 3) := by decide +kernel
theorem dX0_moveOne_38 : decode cX0_moveOne 38 = .ok (.iconst 1, 1) := by decide +kernel
theorem dX0_moveOne_39 : decode cX0_moveOne 39 = .ok (.iadd, 1) := by decide +kernel
theorem dX0_moveOne_40 : decode cX0_moveOne 40 = .ok (.invokevirtual 62, 3) := by decide +kernel
theorem dX0_moveOne_43 : decode cX0_moveOne 43 = .ok (.aload_n 0, 1) := by decide +kernel
theorem dX0_moveOne_44 : decode cX0_moveOne 44 = .ok (.getfield 9, 3) := by decide +kernel
theorem dX0_moveOne_47 : decode cX0_moveOne 47 = .ok (.iconst 3, 1) := by decide +kernel
theorem dX0_moveOne_48 : decode cX0_moveOne 48 = .ok (.dup2, 1) := by decide +kernel
theorem dX0_moveOne_49 : decode cX0_moveOne 49 = .ok (.iaload, 1) := by decide +kernel
theorem dX0_moveOne_50 : decode cX0_moveOne 50 = .ok (.iconst 1, 1) := by decide +kernel
theorem dX0_moveOne_51 : decode cX0_moveOne 51 = .ok (.iadd, 1) := by decide +kernel
theorem dX0_moveOne_52 : decode cX0_moveOne 52 = .ok (.iastore, 1) := by decide +kernel
theorem dX0_moveOne_53 : decode cX0_moveOne 53 = .ok (.iconst 0, 1) := by decide +kernel
theorem dX0_moveOne_54 : decode cX0_moveOne 54 = .ok (.ireturn, 1) := by decide +kernel
theorem dX0_moveOne_55 : decode cX0_moveOne 55 = .ok (.aload_n 0, 1) := by decide +kernel
theorem dX0_moveOne_56 : decode cX0_moveOne 56 = .ok (.iload_n 1, 1) := by decide +kernel
theorem dX0_moveOne_57 : decode cX0_moveOne 57 = .ok (.invokevirtual 91, 3) := by decide +kernel
theorem dX0_moveOne_60 : decode cX0_moveOne 60 = .ok (.iload_n 3, 1) := by decide +kernel
theorem dX0_moveOne_61 : decode cX0_moveOne 61 = .ok (.ifCond .eq 11, 3) := by decide +kernel
theorem dX0_moveOne_64 : decode cX0_moveOne 64 = .ok (.aload_n 0, 1) := by decide +kernel
theorem dX0_moveOne_65 : decode cX0_moveOne 65 = .ok (.iload_n 1, 1) := by decide +kernel
theorem dX0_moveOne_66 : decode cX0_moveOne 66 = .ok (.invokevirtual 95, 3) := by decide +kernel
theorem dX0_moveOne_69 : decode cX0_moveOne 69 = .ok (.goto 9, 3) := by decide +kernel
theorem dX0_moveOne_72 : decode cX0_moveOne 72 = .ok (.aload_n 0, 1) := by decide +kernel
theorem dX0_moveOne_73 : decode cX0_moveOne 73 = .ok (.iload_n 1, 1) := by decide +kernel
theorem dX0_moveOne_74 : decode cX0_moveOne 74 = .ok (.iload_n 2, 1) := by decide +kernel
theorem dX0_moveOne_75 : decode cX0_moveOne 75 = .ok (.invokevirtual 98, 3) := by decide +kernel
theorem dX0_moveOne_78 : decode cX0_moveOne 78 = .ok (.iconst 1, 1) := by decide +kernel
theorem dX0_moveOne_79 : decode cX0_moveOne 79 = .ok (.ireturn, 1) := by decide +kernel
set_option maxRecDepth 20000 in
theorem ggX0_drawIn_X0_number : GoodIn wsX0_drawIn wsX0_number := goodIn_r _ [5, 6, 15] (by decide +kernel) (by decide +kernel)
set_option maxRecDepth 20000 in
theorem gX0_drawIn_X0_number : GoodIn wsX0_drawIn (wsV RX0 44 RX0 yX0_number wsX0_number) := goodIn_app (goodIn_of _ (by decide +kernel)) ggX0_drawIn_X0_number
set_option maxRecDepth 20000 in
theorem ggX0_drawIn_X0_setNumber : GoodIn wsX0_drawIn wsX0_setNumber := goodIn_r _ [10, 6, 15] (by decide +kernel) (by decide +kernel)
set_option maxRecDepth 20000 in
theorem gX0_drawIn_X0_setNumber : GoodIn wsX0_drawIn (wsV RX0 62 RX0 yX0_setNumber wsX0_setNumber) := goodIn_app (goodIn_of _ (by decide +kernel)) ggX0_drawIn_X0_setNumber
set_option maxRecDepth 20000 in
theorem ggX0_drawIn_X0_setTaker : GoodIn wsX0_drawIn wsX0_setTaker := goodIn_r _ [14, 6, 15] (by decide +kernel) (by decide +kernel)
set_option maxRecDepth 20000 in
theorem gX0_drawIn_X0_setTaker : GoodIn wsX0_drawIn (wsV RX0 72 RX0 yX0_setTaker wsX0_setTaker) := goodIn_app (goodIn_of _ (by decide +kernel)) ggX0_drawIn_X0_setTaker
theorem dX0_drawIn_0 : decode cX0_drawIn 0 = .ok (.aload_n 0, 1) := by decide +kernel
theorem dX0_drawIn_1 : decode cX0_drawIn 1 = .ok (.iload_n 1, 1) := by decide +kernel
theorem dX0_drawIn_2 : decode cX0_drawIn 2 = .ok (.iconst 2, 1) := by decide +kernel
theorem dX0_drawIn_3 : decode cX0_drawIn 3 = .ok (.invokevirtual 44, 3) := by decide +kernel
theorem dX0_drawIn_6 : decode cX0_drawIn 6 = .ok (.istore_n 2, 1) := by decide +kernel
theorem dX0_drawIn_7 : decode cX0_drawIn 7 = .ok (.iload_n 2, 1) := by decide +kernel
theorem dX0_drawIn_8 : decode cX0_drawIn 8 = .ok (.ifCond .le 13, 3) := by decide +kernel
theorem dX0_drawIn_11 : decode cX0_drawIn 11 = .ok (.aload_n 0, 1) := by decide +kernel
theorem dX0_drawIn_12 : decode cX0_drawIn 12 = .ok (.iload_n 1, 1) := by decide +kernel
theorem dX0_drawIn_13 : decode cX0_drawIn 13 = .ok (.iconst 2, 1) := by decide +kernel
theorem dX0_drawIn_14 : decode cX0_drawIn 14 = .ok (.iload_n 2, 1) := by decide +kernel
theorem dX0_drawIn_15 : decode cX0_drawIn 15 = .ok (.iconst 1, 1) := by decide +kernel
theorem dX0_drawIn_16 : decode cX0_drawIn 16 = .ok (.isub, 1) := by decide +kernel
theorem dX0_drawIn_17 : decode cX0_drawIn 17 = .ok (.invokevirtual 62, 3) := by decide +kernel
theorem dX0_drawIn_20 : decode cX0_drawIn 20 = .ok (.return_, 1) := by decide +kernel
theorem dX0_drawIn_21 : decode cX0_drawIn 21 = .ok (.aload_n 0, 1) := by decide +kernel
theorem dX0_drawIn_22 : decode cX0_drawIn 22 = .ok (.iload_n 1, 1) := by decide +kernel
theorem dX0_drawIn_23 : decode cX0_drawIn 23 = .ok (.iconst 1, 1) := by decide +kernel
theorem dX0_drawIn_24 : decode cX0_drawIn 24 = .ok (.invokevirtual 44, 3) := by decide +kernel
theorem dX0_drawIn_27 : decode cX0_drawIn 27 = .ok (.istore_n 3, 1) := by decide +kernel
theorem dX0_drawIn_28 : decode cX0_drawIn 28 = .ok (.aload_n 0, 1) := by decide +kernel
theorem dX0_drawIn_29 : decode cX0_drawIn 29 = .ok (.aload_n 0, 1) := by decide +kernel
theorem dX0_drawIn_30 : decode cX0_drawIn 30 = .ok (.iload_n 1, 1) := by decide +kernel
theorem dX0_drawIn_31 : decode cX0_drawIn 31 = .ok (.bipush 9, 2) := by decide +kernel
theorem dX0_drawIn_33 : decode cX0_drawIn 33 = .ok (.iload_n 3, 1) := by decide +kernel
theorem dX0_drawIn_34 : decode cX0_drawIn 34 = .ok (.iadd, 1) := by decide +kernel
theorem dX0_drawIn_35 : decode cX0_drawIn 35 = .ok (.iconst 1, 1) := by decide +kernel
theorem dX0_drawIn_36 : decode cX0_drawIn 36 = .ok (.isub, 1) := by decide +kernel
theorem dX0_drawIn_37 : decode cX0_drawIn 37 = .ok (.invokevirtual 44, 3) := by decide +kernel
theorem dX0_drawIn_40 : decode cX0_drawIn 40 = .ok (.iconst (-1), 1) := by decide +kernel
theorem dX0_drawIn_41 : decode cX0_drawIn 41 = .ok (.invokevirtual 72, 3) := by decide +kernel
theorem dX0_drawIn_44 : decode cX0_drawIn 44 = .ok (.aload_n 0, 1) := by decide +kernel
theorem dX0_drawIn_45 : decode cX0_drawIn 45 = .ok (.iload_n 1, 1) := by decide +kernel
theorem dX0_drawIn_46 : decode cX0_drawIn 46 = .ok (.iconst 1, 1) := by decide +kernel
theorem dX0_drawIn_47 : decode cX0_drawIn 47 = .ok (.iload_n 3, 1) := by decide +kernel
theorem dX0_drawIn_48 : decode cX0_drawIn 48 = .ok (.iconst 1, 1) := by decide +kernel
theorem dX0_drawIn_49 : decode cX0_drawIn 49 = .ok (.isub, 1) := by decide +kernel
theorem dX0_drawIn_50 : decode cX0_drawIn 50 = .ok (.invokevirtual 62, 3) := by decide +kernel
theorem dX0_drawIn_53 : decode cX0_drawIn 53 = .ok (.return_, 1) := by decide +kernel
set_option maxRecDepth 20000 in
theorem ggX0_eatOnePart_X0_number : GoodIn wsX0_eatOnePart wsX0_number := goodIn_r _ [6, 1, 11] (by decide +kernel) (by decide +kernel)
set_option maxRecDepth 20000 in
theorem gX0_eatOnePart_X0_number : GoodIn wsX0_eatOnePart (wsV RX0 44 RX0 yX0_number wsX0_number) := goodIn_app (goodIn_of _ (by decide +kernel)) ggX0_eatOnePart_X0_number
set_option maxRecDepth 20000 in
theorem ggX0_eatOnePart_X0_setNumber : GoodIn wsX0_eatOnePart wsX0_setNumber := goodIn_r _ [10, 1, 11] (by decide +kernel) (by decide +kernel)
set_option maxRecDepth 20000 in
theorem gX0_eatOnePart_X0_setNumber : GoodIn wsX0_eatOnePart (wsV RX0 62 RX0 yX0_setNumber wsX0_setNumber) := goodIn_app (goodIn_of _ (by decide +kernel)) ggX0_eatOnePart_X0_setNumber
theorem dX0_eatOnePart_0 : decode cX0_eatOnePart 0 = .ok (.aload_n 0, 1) := by decide +kernel
theorem dX0_eatOnePart_1 : decode cX0_eatOnePart 1 = .ok (.iload_n 1, 1) := by decide +kernel
theorem dX0_eatOnePart_2 : decode cX0_eatOnePart 2 = .ok (.iconst 3, 1) := by decide +kernel
theorem dX0_eatOnePart_3 : decode cX0_eatOnePart 3 = .ok (.aload_n 0, 1) := by decide +kernel
theorem dX0_eatOnePart_4 : decode cX0_eatOnePart 4 = .ok (.iload_n 1, 1) := by decide +kernel
theorem dX0_eatOnePart_5 : decode cX0_eatOnePart 5 = .ok (.iconst 3, 1) := by decide +kernel
theorem dX0_eatOnePart_6 : decode cX0_eatOnePart 6 = .ok (.invokevirtual 44, 3) := by decide +kernel
theorem dX0_eatOnePart_9 : decode cX0_eatOnePart 9 = .ok (.iconst 1, 1) := by decide +kernel
theorem dX0_eatOnePart_10 : decode cX0_eatOnePart 10 = .ok (.iadd, 1) := by decide +kernel
theorem dX0_eatOnePart_11 : decode cX0_eatOnePart 11 = .ok (.invokevirtual 62, 3) := by decide +kernel
theorem dX0_eatOnePart_14 : decode cX0_eatOnePart 14 = .ok (.aload_n 0, 1) := by decide +kernel
theorem dX0_eatOnePart_15 : decode cX0_eatOnePart 15 = .ok (.iload_n 1, 1) := by decide +kernel
theorem dX0_eatOnePart_16 : decode cX0_eatOnePart 16 = .ok (.iconst 1, 1) := by decide +kernel
theorem dX0_eatOnePart_17 : decode cX0_eatOnePart 17 = .ok (.invokevirtual 44, 3) := by decide +kernel
theorem dX0_eatOnePart_20 : decode cX0_eatOnePart 20 = .ok (.ifCond .ne 22, 3) := by decide +kernel
theorem dX0_eatOnePart_23 : decode cX0_eatOnePart 23 = .ok (.aload_n 0, 1) := by decide +kernel
theorem dX0_eatOnePart_24 : decode cX0_eatOnePart 24 = .ok (.iload_n 1, 1) := by decide +kernel
theorem dX0_eatOnePart_25 : decode cX0_eatOnePart 25 = .ok (.iconst 0, 1) := by decide +kernel
theorem dX0_eatOnePart_26 : decode cX0_eatOnePart 26 = .ok (.iconst 2, 1) := by decide +kernel
theorem dX0_eatOnePart_27 : decode cX0_eatOnePart 27 = .ok (.invokevirtual 62, 3) := by decide +kernel
theorem dX0_eatOnePart_30 : decode cX0_eatOnePart 30 = .ok (.aload_n 0, 1) := by decide +kernel
theorem dX0_eatOnePart_31 : decode cX0_eatOnePart 31 = .ok (.iload_n 1, 1) := by decide +kernel
theorem dX0_eatOnePart_32 : decode cX0_eatOnePart 32 = .ok (.iconst 5, 1) := by decide +kernel
theorem dX0_eatOnePart_33 : decode cX0_eatOnePart 33 = .ok (.aload_n 0, 1) := by decide +kernel
theorem dX0_eatOnePart_34 : decode cX0_eatOnePart 34 = .ok (.getfield 9, 3) := by decide +kernel
theorem dX0_eatOnePart_37 : decode cX0_eatOnePart 37 = .ok (.iconst 2, 1) := by decide +kernel
theorem dX0_eatOnePart_38 : decode cX0_eatOnePart 38 = .ok (.iaload, 1) := by decide +kernel
theorem dX0_eatOnePart_39 : decode cX0_eatOnePart 39 = .ok (.invokevirtual 62, 3) := by decide +kernel
theorem dX0_eatOnePart_42 : decode cX0_eatOnePart 42 = .ok (.return_, 1) := by decide +kernel
set_option maxRecDepth 20000 in
theorem ggX0_putHead_X0_number : GoodIn wsX0_putHead wsX0_number := goodIn_r _ [5, 6, 15] (by decide +kernel) (by decide +kernel)
set_option maxRecDepth 20000 in
theorem gX0_putHead_X0_number : GoodIn wsX0_putHead (wsV RX0 44 RX0 yX0_number wsX0_number) := goodIn_app (goodIn_of _ (by decide +kernel)) ggX0_putHead_X0_number
set_option maxRecDepth 20000 in
theorem ggX0_putHead_X0_setNumber : GoodIn wsX0_putHead wsX0_setNumber := goodIn_r _ [10, 6, 15] (by decide +kernel) (by decide +kernel)
set_option maxRecDepth 20000 in
theorem gX0_putHead_X0_setNumber : GoodIn wsX0_putHead (wsV RX0 62 RX0 yX0_setNumber wsX0_setNumber) := goodIn_app (goodIn_of _ (by decide +kernel)) ggX0_putHead_X0_setNumber
set_option maxRecDepth 20000 in
theorem ggX0_putHead_X0_setTaker : GoodIn wsX0_putHead wsX0_setTaker := goodIn_r _ [14, 6, 15] (by decide +kernel) (by decide +kernel)
set_option maxRecDepth 20000 in
theorem gX0_putHead_X0_setTaker : GoodIn wsX0_putHead (wsV RX0 72 RX0 yX0_setTaker wsX0_setTaker) := goodIn_app (goodIn_of _ (by decide +kernel)) ggX0_putHead_X0_setTaker
theorem dX0_putHead_0 : decode cX0_putHead 0 = .ok (.aload_n 0, 1) := by decide +kernel
theorem dX0_putHead_1 : decode cX0_putHead 1 = .ok (.iload_n 1, 1) := by decide +kernel
theorem dX0_putHead_2 : decode cX0_putHead 2 = .ok (.iconst 1, 1) := by decide +kernel
theorem dX0_putHead_3 : decode cX0_putHead 3 = .ok (.invokevirtual 44, 3) := by decide +kernel
theorem dX0_putHead_6 : decode cX0_putHead 6 = .ok (.istore_n 3, 1) := by decide +kernel
theorem dX0_putHead_7 : decode cX0_putHead 7 = .ok (.iload_n 3, 1) := by decide +kernel
theorem dX0_putHead_8 : decode cX0_putHead 8 = .ok (.istore 4, 2) := by decide +kernel
theorem dX0_putHead_10 : decode cX0_putHead 10 = .ok (.iload 4, 2) := by decide +kernel
theorem dX0_putHead_12 : decode cX0_putHead 12 = .ok (.ifCond .le 31, 3) := by decide +kernel
theorem dX0_putHead_15 : decode cX0_putHead 15 = .ok (.aload_n 0, 1) := by decide +kernel
theorem dX0_putHead_16 : decode cX0_putHead 16 = .ok (.iload_n 1, 1) := by decide +kernel
theorem dX0_putHead_17 : decode cX0_putHead 17 = .ok (.bipush 9, 2) := by decide +kernel
theorem dX0_putHead_19 : decode cX0_putHead 19 = .ok (.iload 4, 2) := by decide +kernel
theorem dX0_putHead_21 : decode cX0_putHead 21 = .ok (.iadd, 1) := by decide +kernel
theorem dX0_putHead_22 : decode cX0_putHead 22 = .ok (.aload_n 0, 1) := by decide +kernel
theorem dX0_putHead_23 : decode cX0_putHead 23 = .ok (.iload_n 1, 1) := by decide +kernel
theorem dX0_putHead_24 : decode cX0_putHead 24 = .ok (.bipush 9, 2) := by decide +kernel
theorem dX0_putHead_26 : decode cX0_putHead 26 = .ok (.iload 4, 2) := by decide +kernel
theorem dX0_putHead_28 : decode cX0_putHead 28 = .ok (.iadd, 1) := by decide +kernel
theorem dX0_putHead_29 : decode cX0_putHead 29 = .ok (.iconst 1, 1) := by decide +kernel
theorem dX0_putHead_30 : decode cX0_putHead 30 = .ok (.isub, 1) := by decide +kernel
theorem dX0_putHead_31 : decode cX0_putHead 31 = .ok (.invokevirtual 44, 3) := by decide +kernel
theorem dX0_putHead_34 : decode cX0_putHead 34 = .ok (.invokevirtual 62, 3) := by decide +kernel
theorem dX0_putHead_37 : decode cX0_putHead 37 = .ok (.iinc 4 (-1), 3) := by decide +kernel
theorem dX0_putHead_40 : decode cX0_putHead 40 = .ok (.goto (-30), 3) := by decide +kernel
theorem dX0_putHead_43 : decode cX0_putHead 43 = .ok (.aload_n 0, 1) := by decide +kernel
theorem dX0_putHead_44 : decode cX0_putHead 44 = .ok (.iload_n 1, 1) := by decide +kernel
theorem dX0_putHead_45 : decode cX0_putHead 45 = .ok (.bipush 9, 2) := by decide +kernel
theorem dX0_putHead_47 : decode cX0_putHead 47 = .ok (.iload_n 2, 1) := by decide +kernel
theorem dX0_putHead_48 : decode cX0_putHead 48 = .ok (.invokevirtual 62, 3) := by decide +kernel
theorem dX0_putHead_51 : decode cX0_putHead 51 = .ok (.aload_n 0, 1) := by decide +kernel
theorem dX0_putHead_52 : decode cX0_putHead 52 = .ok (.iload_n 1, 1) := by decide +kernel
theorem dX0_putHead_53 : decode cX0_putHead 53 = .ok (.iconst 1, 1) := by decide +kernel
theorem dX0_putHead_54 : decode cX0_putHead 54 = .ok (.iload_n 3, 1) := by decide +kernel
theorem dX0_putHead_55 : decode cX0_putHead 55 = .ok (.iconst 1, 1) := by decide +kernel
theorem dX0_putHead_56 : decode cX0_putHead 56 = .ok (.iadd, 1) := by decide +kernel
theorem dX0_putHead_57 : decode cX0_putHead 57 = .ok (.invokevirtual 62, 3) := by decide +kernel
theorem dX0_putHead_60 : decode cX0_putHead 60 = .ok (.aload_n 0, 1) := by decide +kernel
theorem dX0_putHead_61 : decode cX0_putHead 61 = .ok (.iload_n 1, 1) := by decide +kernel
theorem dX0_putHead_62 : decode cX0_putHead 62 = .ok (.iconst 0, 1) := by decide +kernel
theorem dX0_putHead_63 : decode cX0_putHead 63 = .ok (.iconst 1, 1) := by decide +kernel
theorem dX0_putHead_64 : decode cX0_putHead 64 = .ok (.invokevirtual 62, 3) := by decide +kernel
theorem dX0_putHead_67 : decode cX0_putHead 67 = .ok (.aload_n 0, 1) := by decide +kernel
theorem dX0_putHead_68 : decode cX0_putHead 68 = .ok (.iload_n 2, 1) := by decide +kernel
theorem dX0_putHead_69 : decode cX0_putHead 69 = .ok (.iload_n 1, 1) := by decide +kernel
theorem dX0_putHead_70 : decode cX0_putHead 70 = .ok (.invokevirtual 72, 3) := by decide +kernel
theorem dX0_putHead_73 : decode cX0_putHead 73 = .ok (.return_, 1) := by decide +kernel
set_option maxRecDepth 20000 in
theorem ggX0_nextRoomOf_X0_number : GoodIn wsX0_nextRoomOf wsX0_number := goodIn_r _ [6, 1, 17] (by decide +kernel) (by decide +kernel)
set_option maxRecDepth 20000 in
theorem gX0_nextRoomOf_X0_number : GoodIn wsX0_nextRoomOf (wsV RX0 44 RX0 yX0_number wsX0_number) := goodIn_app (goodIn_of _ (by decide +kernel)) ggX0_nextRoomOf_X0_number
set_option maxRecDepth 20000 in
theorem ggX0_nextRoomOf_X0_stepAlongRow : GoodIn wsX0_nextRoomOf wsX0_stepAlongRow := goodIn_r _ [9] (by decide +kernel) (by decide +kernel)
set_option maxRecDepth 20000 in
theorem gX0_nextRoomOf_X0_stepAlongRow : GoodIn wsX0_nextRoomOf (va_wsS RX0 101 yX0_stepAlongRow wsX0_stepAlongRow) := goodIn_app (goodIn_of _ (by decide +kernel)) ggX0_nextRoomOf_X0_stepAlongRow
set_option maxRecDepth 20000 in
theorem ggX0_nextRoomOf_X0_stepAlongColumn : GoodIn wsX0_nextRoomOf wsX0_stepAlongColumn := goodIn_r _ [12] (by decide +kernel) (by decide +kernel)
set_option maxRecDepth 20000 in
theorem gX0_nextRoomOf_X0_stepAlongColumn : GoodIn wsX0_nextRoomOf (va_wsS RX0 104 yX0_stepAlongColumn wsX0_stepAlongColumn) := goodIn_app (goodIn_of _ (by decide +kernel)) ggX0_nextRoomOf_X0_stepAlongColumn
set_option maxRecDepth 20000 in
theorem ggX0_nextRoomOf_X0_isFree : GoodIn wsX0_nextRoomOf wsX0_isFree := goodIn_r _ [16, 1, 17] (by decide +kernel) (by decide +kernel)
set_option maxRecDepth 20000 in
theorem gX0_nextRoomOf_X0_isFree : GoodIn wsX0_nextRoomOf (wsV RX0 88 RX0 yX0_isFree wsX0_isFree) := goodIn_app (goodIn_of _ (by decide +kernel)) ggX0_nextRoomOf_X0_isFree
theorem dX0_nextRoomOf_0 : decode cX0_nextRoomOf 0 = .ok (.aload_n 0, 1) := by decide +kernel
theorem dX0_nextRoomOf_1 : decode cX0_nextRoomOf 1 = .ok (.iload_n 1, 1) := by decide +kernel
theorem dX0_nextRoomOf_2 : decode cX0_nextRoomOf 2 = .ok (.iconst 0, 1) := by decide +kernel
theorem dX0_nextRoomOf_3 : decode cX0_nextRoomOf 3 = .ok (.invokevirtual 44, 3) := by decide +kernel
theorem dX0_nextRoomOf_6 : decode cX0_nextRoomOf 6 = .ok (.istore_n 2, 1) := by decide +kernel
theorem dX0_nextRoomOf_7 : decode cX0_nextRoomOf 7 = .ok (.iload_n 2, 1) := by decide +kernel
theorem dX0_nextRoomOf_8 : decode cX0_nextRoomOf 8 = .ok (.ifCond .ne 11, 3) := by decide +kernel
theorem dX0_nextRoomOf_11 : decode cX0_nextRoomOf 11 = .ok (.aload_n 0, 1) := by decide +kernel
theorem dX0_nextRoomOf_12 : decode cX0_nextRoomOf 12 = .ok (.iload_n 1, 1) := by decide +kernel
theorem dX0_nextRoomOf_13 : decode cX0_nextRoomOf 13 = .ok (.bipush 6, 2) := by decide +kernel
theorem dX0_nextRoomOf_15 : decode cX0_nextRoomOf 15 = .ok (.invokevirtual 44, 3) := by decide +kernel
theorem dX0_nextRoomOf_18 : decode cX0_nextRoomOf 18 = .ok (.ireturn, 1) := by decide +kernel
theorem dX0_nextRoomOf_19 : decode cX0_nextRoomOf 19 = .ok (.iload_n 2, 1) := by decide +kernel
theorem dX0_nextRoomOf_20 : decode cX0_nextRoomOf 20 = .ok (.iconst 1, 1) := by decide +kernel
theorem dX0_nextRoomOf_21 : decode cX0_nextRoomOf 21 = .ok (.if_icmp .eq 5, 3) := by decide +kernel
theorem dX0_nextRoomOf_24 : decode cX0_nextRoomOf 24 = .ok (.iconst (-1), 1) := by decide +kernel
theorem dX0_nextRoomOf_25 : decode cX0_nextRoomOf 25 = .ok (.ireturn, 1) := by decide +kernel
theorem dX0_nextRoomOf_26 : decode cX0_nextRoomOf 26 = .ok (.aload_n 0, 1) := by decide +kernel
theorem dX0_nextRoomOf_27 : decode cX0_nextRoomOf 27 = .ok (.iload_n 1, 1) := by decide +kernel
theorem dX0_nextRoomOf_28 : decode cX0_nextRoomOf 28 = .ok (.bipush 9, 2) := by decide +kernel
theorem dX0_nextRoomOf_30 : decode cX0_nextRoomOf 30 = .ok (.invokevirtual 44, 3) := by decide +kernel
theorem dX0_nextRoomOf_33 : decode cX0_nextRoomOf 33 = .ok (.aload_n 0, 1) := by decide +kernel
theorem dX0_nextRoomOf_34 : decode cX0_nextRoomOf 34 = .ok (.iload_n 1, 1) := by decide +kernel
theorem dX0_nextRoomOf_35 : decode cX0_nextRoomOf 35 = .ok (.bipush 7, 2) := by decide +kernel
theorem dX0_nextRoomOf_37 : decode cX0_nextRoomOf 37 = .ok (.invokevirtual 44, 3) := by decide +kernel
theorem dX0_nextRoomOf_40 : decode cX0_nextRoomOf 40 = .ok (.invokestatic 101, 3) := by decide +kernel
theorem dX0_nextRoomOf_43 : decode cX0_nextRoomOf 43 = .ok (.istore_n 3, 1) := by decide +kernel
theorem dX0_nextRoomOf_44 : decode cX0_nextRoomOf 44 = .ok (.aload_n 0, 1) := by decide +kernel
theorem dX0_nextRoomOf_45 : decode cX0_nextRoomOf 45 = .ok (.iload_n 1, 1) := by decide +kernel
theorem dX0_nextRoomOf_46 : decode cX0_nextRoomOf 46 = .ok (.bipush 9, 2) := by decide +kernel
theorem dX0_nextRoomOf_48 : decode cX0_nextRoomOf 48 = .ok (.invokevirtual 44, 3) := by decide +kernel
theorem dX0_nextRoomOf_51 : decode cX0_nextRoomOf 51 = .ok (.aload_n 0, 1) := by decide +kernel
theorem dX0_nextRoomOf_52 : decode cX0_nextRoomOf 52 = .ok (.iload_n 1, 1) := by decide +kernel
theorem dX0_nextRoomOf_53 : decode cX0_nextRoomOf 53 = .ok (.bipush 7, 2) := by decide +kernel
theorem dX0_nextRoomOf_55 : decode cX0_nextRoomOf 55 = .ok (.invokevirtual 44, 3) := by decide +kernel
theorem dX0_nextRoomOf_58 : decode cX0_nextRoomOf 58 = .ok (.invokestatic 104, 3) := by decide +kernel
theorem dX0_nextRoomOf_61 : decode cX0_nextRoomOf 61 = .ok (.istore 4, 2) := by decide +kernel
theorem dX0_nextRoomOf_63 : decode cX0_nextRoomOf 63 = .ok (.aload_n 0, 1) := by decide +kernel
theorem dX0_nextRoomOf_64 : decode cX0_nextRoomOf 64 = .ok (.getfield 9, 3) := by decide +kernel
theorem dX0_nextRoomOf_67 : decode cX0_nextRoomOf 67 = .ok (.iconst 1, 1) := by decide +kernel
theorem dX0_nextRoomOf_68 : decode cX0_nextRoomOf 68 = .ok (.iaload, 1) := by decide +kernel
theorem dX0_nextRoomOf_69 : decode cX0_nextRoomOf 69 = .ok (.iconst 1, 1) := by decide +kernel
theorem dX0_nextRoomOf_70 : decode cX0_nextRoomOf 70 = .ok (.if_icmp .eq 30, 3) := by decide +kernel
theorem dX0_nextRoomOf_73 : decode cX0_nextRoomOf 73 = .ok (.aload_n 0, 1) := by decide +kernel
theorem dX0_nextRoomOf_74 : decode cX0_nextRoomOf 74 = .ok (.getfield 9, 3) := by decide +kernel
theorem dX0_nextRoomOf_77 : decode cX0_nextRoomOf 77 = .ok (.iconst 1, 1) := by decide +kernel
theorem dX0_nextRoomOf_78 : decode cX0_nextRoomOf 78 = .ok (.iaload, 1) := by decide +kernel
theorem dX0_nextRoomOf_79 : decode cX0_nextRoomOf 79 = .ok (.iconst 2, 1) := by decide +kernel
theorem dX0_nextRoomOf_80 : decode cX0_nextRoomOf 80 = .ok (.if_icmp .ne 24, 3) := by decide +kernel
theorem dX0_nextRoomOf_83 : decode cX0_nextRoomOf 83 = .ok (.aload_n 0, 1) := by decide +kernel
theorem dX0_nextRoomOf_84 : decode cX0_nextRoomOf 84 = .ok (.iload_n 3, 1) := by decide +kernel
theorem dX0_nextRoomOf_85 : decode cX0_nextRoomOf 85 = .ok (.invokevirtual 88, 3) := by decide +kernel
theorem dX0_nextRoomOf_88 : decode cX0_nextRoomOf 88 = .ok (.ifCond .ne 16, 3) := by decide +kernel
theorem dX0_nextRoomOf_91 : decode cX0_nextRoomOf 91 = .ok (.aload_n 0, 1) := by decide +kernel
theorem dX0_nextRoomOf_92 : decode cX0_nextRoomOf 92 = .ok (.iload 4, 2) := by decide +kernel
theorem dX0_nextRoomOf_94 : decode cX0_nextRoomOf 94 = .ok (.invokevirtual 88, 3) := by decide +kernel
theorem dX0_nextRoomOf_97 : decode cX0_nextRoomOf 97 = .ok (.ifCond .eq 7, 3) := by decide +kernel
theorem dX0_nextRoomOf_100 : decode cX0_nextRoomOf 100 = .ok (.iconst 1, 1) := by decide +kernel
theorem dX0_nextRoomOf_101 : decode cX0_nextRoomOf 101 = .ok (.goto 4, 3) := by decide +kernel
theorem dX0_nextRoomOf_104 : decode cX0_nextRoomOf 104 = .ok (.iconst 0, 1) := by decide +kernel
theorem dX0_nextRoomOf_105 : decode cX0_nextRoomOf 105 = .ok (.istore 5, 2) := by decide +kernel
theorem dX0_nextRoomOf_107 : decode cX0_nextRoomOf 107 = .ok (.iload 5, 2) := by decide +kernel
theorem dX0_nextRoomOf_109 : decode cX0_nextRoomOf 109 = .ok (.ifCond .eq 16, 3) := by decide +kernel
theorem dX0_nextRoomOf_112 : decode cX0_nextRoomOf 112 = .ok (.iload 4, 2) := by decide +kernel
theorem dX0_nextRoomOf_114 : decode cX0_nextRoomOf 114 = .ok (.iconst (-1), 1) := by decide +kernel
theorem dX0_nextRoomOf_115 : decode cX0_nextRoomOf 115 = .ok (.if_icmp .eq 8, 3) := by decide +kernel
theorem dX0_nextRoomOf_118 : decode cX0_nextRoomOf 118 = .ok (.iload 4, 2) := by decide +kernel
theorem dX0_nextRoomOf_120 : decode cX0_nextRoomOf 120 = .ok (.goto 4, 3) := by decide +kernel
theorem dX0_nextRoomOf_123 : decode cX0_nextRoomOf 123 = .ok (.iload_n 3, 1) := by decide +kernel
theorem dX0_nextRoomOf_124 : decode cX0_nextRoomOf 124 = .ok (.ireturn, 1) := by decide +kernel
theorem dX0_nextRoomOf_125 : decode cX0_nextRoomOf 125 = .ok (.iload_n 3, 1) := by decide +kernel
theorem dX0_nextRoomOf_126 : decode cX0_nextRoomOf 126 = .ok (.iconst (-1), 1) := by decide +kernel
theorem dX0_nextRoomOf_127 : decode cX0_nextRoomOf 127 = .ok (.if_icmp .eq 7, 3) := by decide +kernel
theorem dX0_nextRoomOf_130 : decode cX0_nextRoomOf 130 = .ok (.iload_n 3, 1) := by decide +kernel
theorem dX0_nextRoomOf_131 : decode cX0_nextRoomOf 131 = .ok (.goto 5, 3) := by decide +kernel
theorem dX0_nextRoomOf_134 : decode cX0_nextRoomOf 134 = .ok (.iload 4, 2) := by decide +kernel
theorem dX0_nextRoomOf_136 : decode cX0_nextRoomOf 136 = .ok (.ireturn, 1) := by decide +kernel
theorem dX0_stepAlongRow_0 : decode cX0_stepAlongRow 0 = .ok (.iload_n 1, 1) := by decide +kernel
theorem dX0_stepAlongRow_1 : decode cX0_stepAlongRow 1 = .ok (.bipush 6, 2) := by decide +kernel
theorem dX0_stepAlongRow_3 : decode cX0_stepAlongRow 3 = .ok (.irem, 1) := by decide +kernel
theorem dX0_stepAlongRow_4 : decode cX0_stepAlongRow 4 = .ok (.iload_n 0, 1) := by decide +kernel
theorem dX0_stepAlongRow_5 : decode cX0_stepAlongRow 5 = .ok (.bipush 6, 2) := by decide +kernel
theorem dX0_stepAlongRow_7 : decode cX0_stepAlongRow 7 = .ok (.irem, 1) := by decide +kernel
theorem dX0_stepAlongRow_8 : decode cX0_stepAlongRow 8 = .ok (.isub, 1) := by decide +kernel
theorem dX0_stepAlongRow_9 : decode cX0_stepAlongRow 9 = .ok (.istore_n 2, 1) := by decide +kernel
theorem dX0_stepAlongRow_10 : decode cX0_stepAlongRow 10 = .ok (.iload_n 2, 1) := by decide +kernel
theorem dX0_stepAlongRow_11 : decode cX0_stepAlongRow 11 = .ok (.ifCond .ne 5, 3) := by decide +kernel
theorem dX0_stepAlongRow_14 : decode cX0_stepAlongRow 14 = .ok (.iconst (-1), 1) := by decide +kernel
theorem dX0_stepAlongRow_15 : decode cX0_stepAlongRow 15 = .ok (.ireturn, 1) := by decide +kernel
theorem dX0_stepAlongRow_16 : decode cX0_stepAlongRow 16 = .ok (.iload_n 2, 1) := by decide +kernel
theorem dX0_stepAlongRow_17 : decode cX0_stepAlongRow 17 = .ok (.ifCond .le 9, 3) := by decide +kernel
theorem dX0_stepAlongRow_20 : decode cX0_stepAlongRow 20 = .ok (.iload_n 0, 1) := by decide +kernel
theorem dX0_stepAlongRow_21 : decode cX0_stepAlongRow 21 = .ok (.iconst 1, 1) := by decide +kernel
theorem dX0_stepAlongRow_22 : decode cX0_stepAlongRow 22 = .ok (.iadd, 1) := by decide +kernel
theorem dX0_stepAlongRow_23 : decode cX0_stepAlongRow 23 = .ok (.goto 6, 3) := by decide +kernel
theorem dX0_stepAlongRow_26 : decode cX0_stepAlongRow 26 = .ok (.iload_n 0, 1) := by decide +kernel
theorem dX0_stepAlongRow_27 : decode cX0_stepAlongRow 27 = .ok (.iconst 1, 1) := by decide +kernel
theorem dX0_stepAlongRow_28 : decode cX0_stepAlongRow 28 = .ok (.isub, 1) := by decide +kernel
theorem dX0_stepAlongRow_29 : decode cX0_stepAlongRow 29 = .ok (.ireturn, 1) := by decide +kernel
theorem dX0_stepAlongColumn_0 : decode cX0_stepAlongColumn 0 = .ok (.iload_n 1, 1) := by decide +kernel
theorem dX0_stepAlongColumn_1 : decode cX0_stepAlongColumn 1 = .ok (.bipush 6, 2) := by decide +kernel
theorem dX0_stepAlongColumn_3 : decode cX0_stepAlongColumn 3 = .ok (.idiv, 1) := by decide +kernel
theorem dX0_stepAlongColumn_4 : decode cX0_stepAlongColumn 4 = .ok (.iload_n 0, 1) := by decide +kernel
theorem dX0_stepAlongColumn_5 : decode cX0_stepAlongColumn 5 = .ok (.bipush 6, 2) := by decide +kernel
theorem dX0_stepAlongColumn_7 : decode cX0_stepAlongColumn 7 = .ok (.idiv, 1) := by decide +kernel
theorem dX0_stepAlongColumn_8 : decode cX0_stepAlongColumn 8 = .ok (.isub, 1) := by decide +kernel
theorem dX0_stepAlongColumn_9 : decode cX0_stepAlongColumn 9 = .ok (.istore_n 2, 1) := by decide +kernel
theorem dX0_stepAlongColumn_10 : decode cX0_stepAlongColumn 10 = .ok (.iload_n 2, 1) := by decide +kernel
theorem dX0_stepAlongColumn_11 : decode cX0_stepAlongColumn 11 = .ok (.ifCond .ne 5, 3) := by decide +kernel
theorem dX0_stepAlongColumn_14 : decode cX0_stepAlongColumn 14 = .ok (.iconst (-1), 1) := by decide +kernel
theorem dX0_stepAlongColumn_15 : decode cX0_stepAlongColumn 15 = .ok (.ireturn, 1) := by decide +kernel
theorem dX0_stepAlongColumn_16 : decode cX0_stepAlongColumn 16 = .ok (.iload_n 2, 1) := by decide +kernel
theorem dX0_stepAlongColumn_17 : decode cX0_stepAlongColumn 17 = .ok (.ifCond .le 10, 3) := by decide +kernel
theorem dX0_stepAlongColumn_20 : decode cX0_stepAlongColumn 20 = .ok (.iload_n 0, 1) := by decide +kernel
theorem dX0_stepAlongColumn_21 : decode cX0_stepAlongColumn 21 = .ok (.bipush 6, 2) := by decide +kernel
theorem dX0_stepAlongColumn_23 : decode cX0_stepAlongColumn 23 = .ok (.iadd, 1) := by decide +kernel
theorem dX0_stepAlongColumn_24 : decode cX0_stepAlongColumn 24 = .ok (.goto 7, 3) := by decide +kernel
theorem dX0_stepAlongColumn_27 : decode cX0_stepAlongColumn 27 = .ok (.iload_n 0, 1) := by decide +kernel
theorem dX0_stepAlongColumn_28 : decode cX0_stepAlongColumn 28 = .ok (.bipush 6, 2) := by decide +kernel
theorem dX0_stepAlongColumn_30 : decode cX0_stepAlongColumn 30 = .ok (.isub, 1) := by decide +kernel
theorem dX0_stepAlongColumn_31 : decode cX0_stepAlongColumn 31 = .ok (.ireturn, 1) := by decide +kernel
set_option maxRecDepth 20000 in
theorem ggX0_blockerOf_X0_nextRoomOf : GoodIn wsX0_blockerOf wsX0_nextRoomOf := goodIn_r _ [5, 6, 7, 8, 9, 4, 10, 11, 12, 13, 14, 15, 16, 17, 18, 19, 20, 28] (by decide +kernel) (by decide +kernel)
set_option maxRecDepth 20000 in
theorem gX0_blockerOf_X0_nextRoomOf : GoodIn wsX0_blockerOf (wsV RX0 85 RX0 yX0_nextRoomOf wsX0_nextRoomOf) := goodIn_app (goodIn_of _ (by decide +kernel)) ggX0_blockerOf_X0_nextRoomOf
set_option maxRecDepth 20000 in
theorem ggX0_blockerOf_X0_takerOf : GoodIn wsX0_blockerOf wsX0_takerOf := goodIn_r _ [24, 6, 25, 26, 27, 28] (by decide +kernel) (by decide +kernel)
set_option maxRecDepth 20000 in
theorem gX0_blockerOf_X0_takerOf : GoodIn wsX0_blockerOf (wsV RX0 34 RX0 yX0_takerOf wsX0_takerOf) := goodIn_app (goodIn_of _ (by decide +kernel)) ggX0_blockerOf_X0_takerOf
theorem dX0_blockerOf_0 : decode cX0_blockerOf 0 = .ok (.aload_n 0, 1) := by decide +kernel
theorem dX0_blockerOf_1 : decode cX0_blockerOf 1 = .ok (.aload_n 0, 1) := by decide +kernel
theorem dX0_blockerOf_2 : decode cX0_blockerOf 2 = .ok (.iload_n 1, 1) := by decide +kernel
theorem dX0_blockerOf_3 : decode cX0_blockerOf 3 = .ok (.invokevirtual 85, 3) := by decide +kernel
theorem dX0_blockerOf_6 : decode cX0_blockerOf 6 = .ok (.invokevirtual 34, 3) := by decide +kernel
theorem dX0_blockerOf_9 : decode cX0_blockerOf 9 = .ok (.ireturn, 1) := by decide +kernel
set_option maxRecDepth 20000 in
theorem ggX0_lowestInRing_X0_ringSizeOf : GoodIn wsX0_lowestInRing wsX0_ringSizeOf := goodIn_r _ [5, 6, 7, 8, 4, 9, 10, 11, 12, 13, 14, 15, 16, 17, 18, 19, 20, 21, 22, 23, 24, 25, 26, 27, 28, 29, 30, 31, 32, 33, 34, 35, 36] (by decide +kernel) (by decide +kernel)
set_option maxRecDepth 20000 in
theorem gX0_lowestInRing_X0_ringSizeOf : GoodIn wsX0_lowestInRing (wsV RX0 107 RX0 yX0_ringSizeOf wsX0_ringSizeOf) := goodIn_app (goodIn_of _ (by decide +kernel)) ggX0_lowestInRing_X0_ringSizeOf
theorem dX0_lowestInRing_0 : decode cX0_lowestInRing 0 = .ok (.iconst 0, 1) := by decide +kernel
theorem dX0_lowestInRing_1 : decode cX0_lowestInRing 1 = .ok (.istore_n 1, 1) := by decide +kernel
theorem dX0_lowestInRing_2 : decode cX0_lowestInRing 2 = .ok (.iload_n 1, 1) := by decide +kernel
theorem dX0_lowestInRing_3 : decode cX0_lowestInRing 3 = .ok (.bipush 10, 2) := by decide +kernel
theorem dX0_lowestInRing_5 : decode cX0_lowestInRing 5 = .ok (.if_icmp .ge 19, 3) := by decide +kernel
theorem dX0_lowestInRing_8 : decode cX0_lowestInRing 8 = .ok (.aload_n 0, 1) := by decide +kernel
theorem dX0_lowestInRing_9 : decode cX0_lowestInRing 9 = .ok (.iload_n 1, 1) := by decide +kernel
theorem dX0_lowestInRing_10 : decode cX0_lowestInRing 10 = .ok (.invokevirtual 107, 3) := by decide +kernel
theorem dX0_lowestInRing_13 : decode cX0_lowestInRing 13 = .ok (.ifCond .le 5, 3) := by decide +kernel
theorem dX0_lowestInRing_16 : decode cX0_lowestInRing 16 = .ok (.iload_n 1, 1) := by decide +kernel
theorem dX0_lowestInRing_17 : decode cX0_lowestInRing 17 = .ok (.ireturn, 1) := by decide +kernel
theorem dX0_lowestInRing_18 : decode cX0_lowestInRing 18 = .ok (.iinc 1 1, 3) := by decide +kernel
theorem dX0_lowestInRing_21 : decode cX0_lowestInRing 21 = .ok (.goto (-19), 3) := by decide +kernel
theorem dX0_lowestInRing_24 : decode cX0_lowestInRing 24 = .ok (.iconst (-1), 1) := by decide +kernel
theorem dX0_lowestInRing_25 : decode cX0_lowestInRing 25 = .ok (.ireturn, 1) := by decide +kernel
set_option maxRecDepth 20000 in
theorem ggX0_ringSizeOf_X0_blockerOf : GoodIn wsX0_ringSizeOf wsX0_blockerOf := goodIn_r _ [5, 6, 7, 8, 4, 9, 10, 11, 12, 13, 14, 15, 16, 17, 18, 19, 20, 21, 22, 23, 24, 25, 26, 27, 28, 29, 30, 31, 32] (by decide +kernel) (by decide +kernel)
set_option maxRecDepth 20000 in
theorem gX0_ringSizeOf_X0_blockerOf : GoodIn wsX0_ringSizeOf (wsV RX0 110 RX0 yX0_blockerOf wsX0_blockerOf) := goodIn_app (goodIn_of _ (by decide +kernel)) ggX0_ringSizeOf_X0_blockerOf
theorem dX0_ringSizeOf_0 : decode cX0_ringSizeOf 0 = .ok (.iload_n 1, 1) := by decide +kernel
theorem dX0_ringSizeOf_1 : decode cX0_ringSizeOf 1 = .ok (.istore_n 2, 1) := by decide +kernel
theorem dX0_ringSizeOf_2 : decode cX0_ringSizeOf 2 = .ok (.iconst 1, 1) := by decide +kernel
theorem dX0_ringSizeOf_3 : decode cX0_ringSizeOf 3 = .ok (.istore_n 3, 1) := by decide +kernel
theorem dX0_ringSizeOf_4 : decode cX0_ringSizeOf 4 = .ok (.iload_n 3, 1) := by decide +kernel
theorem dX0_ringSizeOf_5 : decode cX0_ringSizeOf 5 = .ok (.bipush 10, 2) := by decide +kernel
theorem dX0_ringSizeOf_7 : decode cX0_ringSizeOf 7 = .ok (.if_icmp .gt 29, 3) := by decide +kernel
theorem dX0_ringSizeOf_10 : decode cX0_ringSizeOf 10 = .ok (.aload_n 0, 1) := by decide +kernel
theorem dX0_ringSizeOf_11 : decode cX0_ringSizeOf 11 = .ok (.iload_n 2, 1) := by decide +kernel
theorem dX0_ringSizeOf_12 : decode cX0_ringSizeOf 12 = .ok (.invokevirtual 110, 3) := by decide +kernel
theorem dX0_ringSizeOf_15 : decode cX0_ringSizeOf 15 = .ok (.istore_n 2, 1) := by decide +kernel
theorem dX0_ringSizeOf_16 : decode cX0_ringSizeOf 16 = .ok (.iload_n 2, 1) := by decide +kernel
theorem dX0_ringSizeOf_17 : decode cX0_ringSizeOf 17 = .ok (.iconst (-1), 1) := by decide +kernel
theorem dX0_ringSizeOf_18 : decode cX0_ringSizeOf 18 = .ok (.if_icmp .ne 5, 3) := by decide +kernel
theorem dX0_ringSizeOf_21 : decode cX0_ringSizeOf 21 = .ok (.iconst 0, 1) := by decide +kernel
theorem dX0_ringSizeOf_22 : decode cX0_ringSizeOf 22 = .ok (.ireturn, 1) := by decide +kernel
theorem dX0_ringSizeOf_23 : decode cX0_ringSizeOf 23 = .ok (.iload_n 2, 1) := by decide +kernel
theorem dX0_ringSizeOf_24 : decode cX0_ringSizeOf 24 = .ok (.iload_n 1, 1) := by decide +kernel
theorem dX0_ringSizeOf_25 : decode cX0_ringSizeOf 25 = .ok (.if_icmp .ne 5, 3) := by decide +kernel
theorem dX0_ringSizeOf_28 : decode cX0_ringSizeOf 28 = .ok (.iload_n 3, 1) := by decide +kernel
theorem dX0_ringSizeOf_29 : decode cX0_ringSizeOf 29 = .ok (.ireturn, 1) := by decide +kernel
theorem dX0_ringSizeOf_30 : decode cX0_ringSizeOf 30 = .ok (.iinc 3 1, 3) := by decide +kernel
theorem dX0_ringSizeOf_33 : decode cX0_ringSizeOf 33 = .ok (.goto (-29), 3) := by decide +kernel
theorem dX0_ringSizeOf_36 : decode cX0_ringSizeOf 36 = .ok (.iconst 0, 1) := by decide +kernel
theorem dX0_ringSizeOf_37 : decode cX0_ringSizeOf 37 = .ok (.ireturn, 1) := by decide +kernel
theorem dX1_init_0 : decode cX1_init 0 = .ok (.aload_n 0, 1) := by decide +kernel
theorem dX1_init_1 : decode cX1_init 1 = .ok (.invokespecial 3, 3) := by decide +kernel
theorem dX1_init_4 : decode cX1_init 4 = .ok (.aload_n 0, 1) := by decide +kernel
theorem dX1_init_5 : decode cX1_init 5 = .ok (.sipush 4096, 3) := by decide +kernel
theorem dX1_init_8 : decode cX1_init 8 = .ok (.newarray .int, 2) := by decide +kernel
theorem dX1_init_10 : decode cX1_init 10 = .ok (.putfield 9, 3) := by decide +kernel
theorem dX1_init_13 : decode cX1_init 13 = .ok (.return_, 1) := by decide +kernel
theorem dX1_isPlace_0 : decode cX1_isPlace 0 = .ok (.iload_n 0, 1) := by decide +kernel
theorem dX1_isPlace_1 : decode cX1_isPlace 1 = .ok (.ifCond .lt 13, 3) := by decide +kernel
theorem dX1_isPlace_4 : decode cX1_isPlace 4 = .ok (.iload_n 0, 1) := by decide +kernel
theorem dX1_isPlace_5 : decode cX1_isPlace 5 = .ok (.bipush 16, 2) := by decide +kernel
theorem dX1_isPlace_7 : decode cX1_isPlace 7 = .ok (.if_icmp .ge 7, 3) := by decide +kernel
theorem dX1_isPlace_10 : decode cX1_isPlace 10 = .ok (.iconst 1, 1) := by decide +kernel
theorem dX1_isPlace_11 : decode cX1_isPlace 11 = .ok (.goto 4, 3) := by decide +kernel
theorem dX1_isPlace_14 : decode cX1_isPlace 14 = .ok (.iconst 0, 1) := by decide +kernel
theorem dX1_isPlace_15 : decode cX1_isPlace 15 = .ok (.ireturn, 1) := by decide +kernel
theorem dX2_init_0 : decode cX2_init 0 = .ok (.aload_n 0, 1) := by decide +kernel
theorem dX2_init_1 : decode cX2_init 1 = .ok (.invokespecial 3, 3) := by decide +kernel
theorem dX2_init_4 : decode cX2_init 4 = .ok (.aload_n 0, 1) := by decide +kernel
theorem dX2_init_5 : decode cX2_init 5 = .ok (.bipush 120, 2) := by decide +kernel
theorem dX2_init_7 : decode cX2_init 7 = .ok (.newarray .int, 2) := by decide +kernel
theorem dX2_init_9 : decode cX2_init 9 = .ok (.putfield 9, 3) := by decide +kernel
theorem dX2_init_12 : decode cX2_init 12 = .ok (.aload_n 0, 1) := by decide +kernel
theorem dX2_init_13 : decode cX2_init 13 = .ok (.iconst 0, 1) := by decide +kernel
theorem dX2_init_14 : decode cX2_init 14 = .ok (.putfield 15, 3) := by decide +kernel
theorem dX2_init_17 : decode cX2_init 17 = .ok (.return_, 1) := by decide +kernel
set_option maxRecDepth 20000 in
theorem ggX3_init_X2_init : GoodIn wsX3_init wsX2_init := goodIn_r _ [23, 24, 2, 3, 25, 26, 27, 41, 42] (by decide +kernel) (by decide +kernel)
set_option maxRecDepth 20000 in
theorem gX3_init_X2_init_n11 : GoodIn wsX3_init (wsX2_init) := ggX3_init_X2_init
set_option maxRecDepth 20000 in
theorem ggX3_init_X0_init : GoodIn wsX3_init wsX0_init := goodIn_r _ [30, 31, 2, 3, 25, 32, 33, 34, 35, 10, 36, 51] (by decide +kernel) (by decide +kernel)
set_option maxRecDepth 20000 in
theorem gX3_init_X0_init : GoodIn wsX3_init (wsX0_init) := ggX3_init_X0_init
set_option maxRecDepth 20000 in
theorem ggX3_init_X1_init : GoodIn wsX3_init wsX1_init := goodIn_r _ [38, 39, 2, 3, 25, 40, 52] (by decide +kernel) (by decide +kernel)
set_option maxRecDepth 20000 in
theorem gX3_init_X1_init_n25 : GoodIn wsX3_init (wsX1_init) := ggX3_init_X1_init
theorem dX3_init_0 : decode cX3_init 0 = .ok (.aload_n 0, 1) := by decide +kernel
theorem dX3_init_1 : decode cX3_init 1 = .ok (.invokespecial 3, 3) := by decide +kernel
theorem dX3_init_4 : decode cX3_init 4 = .ok (.aload_n 0, 1) := by decide +kernel
theorem dX3_init_5 : decode cX3_init 5 = .ok (.new 9, 3) := by decide +kernel
theorem dX3_init_8 : decode cX3_init 8 = .ok (.dup, 1) := by decide +kernel
theorem dX3_init_9 : decode cX3_init 9 = .ok (.invokespecial 11, 3) := by decide +kernel
theorem dX3_init_12 : decode cX3_init 12 = .ok (.putfield 12, 3) := by decide +kernel
theorem dX3_init_15 : decode cX3_init 15 = .ok (.aload_n 0, 1) := by decide +kernel
theorem dX3_init_16 : decode cX3_init 16 = .ok (.new 16, 3) := by decide +kernel
theorem dX3_init_19 : decode cX3_init 19 = .ok (.dup, 1) := by decide +kernel
theorem dX3_init_20 : decode cX3_init 20 = .ok (.invokespecial 18, 3) := by decide +kernel
theorem dX3_init_23 : decode cX3_init 23 = .ok (.putfield 19, 3) := by decide +kernel
theorem dX3_init_26 : decode cX3_init 26 = .ok (.aload_n 0, 1) := by decide +kernel
theorem dX3_init_27 : decode cX3_init 27 = .ok (.new 23, 3) := by decide +kernel
theorem dX3_init_30 : decode cX3_init 30 = .ok (.dup, 1) := by decide +kernel
theorem dX3_init_31 : decode cX3_init 31 = .ok (.invokespecial 25, 3) := by decide +kernel
theorem dX3_init_34 : decode cX3_init 34 = .ok (.putfield 26, 3) := by decide +kernel
theorem dX3_init_37 : decode cX3_init 37 = .ok (.aload_n 0, 1) := by decide +kernel
theorem dX3_init_38 : decode cX3_init 38 = .ok (.iconst 0, 1) := by decide +kernel
theorem dX3_init_39 : decode cX3_init 39 = .ok (.putfield 30, 3) := by decide +kernel
theorem dX3_init_42 : decode cX3_init 42 = .ok (.aload_n 0, 1) := by decide +kernel
theorem dX3_init_43 : decode cX3_init 43 = .ok (.iconst 0, 1) := by decide +kernel
theorem dX3_init_44 : decode cX3_init 44 = .ok (.putfield 34, 3) := by decide +kernel
theorem dX3_init_47 : decode cX3_init 47 = .ok (.aload_n 0, 1) := by decide +kernel
theorem dX3_init_48 : decode cX3_init 48 = .ok (.iconst 2, 1) := by decide +kernel
theorem dX3_init_49 : decode cX3_init 49 = .ok (.newarray .boolean, 2) := by decide +kernel
theorem dX3_init_51 : decode cX3_init 51 = .ok (.putfield 37, 3) := by decide +kernel
theorem dX3_init_54 : decode cX3_init 54 = .ok (.aload_n 0, 1) := by decide +kernel
theorem dX3_init_55 : decode cX3_init 55 = .ok (.new 16, 3) := by decide +kernel
theorem dX3_init_58 : decode cX3_init 58 = .ok (.dup, 1) := by decide +kernel
theorem dX3_init_59 : decode cX3_init 59 = .ok (.invokespecial 18, 3) := by decide +kernel
theorem dX3_init_62 : decode cX3_init 62 = .ok (.putfield 41, 3) := by decide +kernel
theorem dX3_init_65 : decode cX3_init 65 = .ok (.aload_n 0, 1) := by decide +kernel
theorem dX3_init_66 : decode cX3_init 66 = .ok (.new 16, 3) := by decide +kernel
theorem dX3_init_69 : decode cX3_init 69 = .ok (.dup, 1) := by decide +kernel
theorem dX3_init_70 : decode cX3_init 70 = .ok (.invokespecial 18, 3) := by decide +kernel
theorem dX3_init_73 : decode cX3_init 73 = .ok (.putfield 44, 3) := by decide +kernel
theorem dX3_init_76 : decode cX3_init 76 = .ok (.return_, 1) := by decide +kernel
theorem dX3_append_0 : decode cX3_append 0 = .ok (.iload_n 1, 1) := by decide +kernel
theorem dX3_append_1 : decode cX3_append 1 = .ok (.ifCond .lt 10, 3) := by decide +kernel
theorem dX3_append_4 : decode cX3_append 4 = .ok (.iload_n 1, 1) := by decide +kernel
theorem dX3_append_5 : decode cX3_append 5 = .ok (.sipush 255, 3) := by decide +kernel
theorem dX3_append_8 : decode cX3_append 8 = .ok (.if_icmp .le 13, 3) := by decide +kernel
theorem dX3_append_11 : decode cX3_append 11 = .ok (.new 47, 3) := by decide +kernel
theorem dX3_append_14 : decode cX3_append 14 = .ok (.dup, 1) := by decide +kernel
theorem dX3_append_15 : decode cX3_append 15 = .ok (.ldc 49, 2) := by decide +kernel
theorem dX3_append_17 : decode cX3_append 17 = .ok (.invokespecial 51, 3) := by decide +kernel
theorem dX3_append_20 : decode cX3_append 20 = .ok (.athrow, 1) := by decide +kernel
theorem dX3_append_21 : decode cX3_append 21 = .ok (.aload_n 0, 1) := by decide +kernel
theorem dX3_append_22 : decode cX3_append 22 = .ok (.getfield 12, 3) := by decide +kernel
set_option maxRecDepth 20000 in
theorem ggX3_about_X0_count : GoodIn wsX3_about wsX0_count := goodIn_r _ [8, 9, 65] (by decide +kernel) (by decide +kernel)
set_option maxRecDepth 20000 in
theorem gX3_about_X0_count : GoodIn wsX3_about (wsV RX3 120 RX0 yX0_count wsX0_count) := goodIn_app (goodIn_of _ (by decide +kernel)) ggX3_about_X0_count
set_option maxRecDepth 20000 in
theorem ggX3_about_X0_countWhere : GoodIn wsX3_about wsX0_countWhere := goodIn_r _ [13, 14, 15, 16, 7, 17, 18, 19, 20, 21, 9, 65] (by decide +kernel) (by decide +kernel)
set_option maxRecDepth 20000 in
theorem gX3_about_X0_countWhere : GoodIn wsX3_about (wsV RX3 123 RX0 yX0_countWhere wsX0_countWhere) := goodIn_app (goodIn_of _ (by decide +kernel)) ggX3_about_X0_countWhere
set_option maxRecDepth 20000 in
theorem ggX3_about_X0_ticksSoFar : GoodIn wsX3_about wsX0_ticksSoFar := goodIn_r _ [25, 9, 65] (by decide +kernel) (by decide +kernel)
set_option maxRecDepth 20000 in
theorem gX3_about_X0_ticksSoFar : GoodIn wsX3_about (wsV RX3 126 RX0 yX0_ticksSoFar wsX0_ticksSoFar) := goodIn_app (goodIn_of _ (by decide +kernel)) ggX3_about_X0_ticksSoFar
set_option maxRecDepth 20000 in
theorem ggX3_about_X0_takenRooms : GoodIn wsX3_about wsX0_takenRooms := goodIn_r _ [29, 30, 31, 32, 7, 33, 34, 35, 36, 37, 9, 38, 39, 40, 65] (by decide +kernel) (by decide +kernel)
set_option maxRecDepth 20000 in
theorem gX3_about_X0_takenRooms : GoodIn wsX3_about (wsV RX3 129 RX0 yX0_takenRooms wsX0_takenRooms) := goodIn_app (goodIn_of _ (by decide +kernel)) ggX3_about_X0_takenRooms
set_option maxRecDepth 20000 in
theorem ggX3_about_X0_shutRooms : GoodIn wsX3_about wsX0_shutRooms := goodIn_r _ [44, 45, 46, 47, 7, 48, 9, 38, 39, 40, 65] (by decide +kernel) (by decide +kernel)
set_option maxRecDepth 20000 in
theorem gX3_about_X0_shutRooms : GoodIn wsX3_about (wsV RX3 132 RX0 yX0_shutRooms wsX0_shutRooms) := goodIn_app (goodIn_of _ (by decide +kernel)) ggX3_about_X0_shutRooms
set_option maxRecDepth 20000 in
theorem ggX3_about_X0_presentRule : GoodIn wsX3_about wsX0_presentRule := goodIn_r _ [52, 9, 65] (by decide +kernel) (by decide +kernel)
set_option maxRecDepth 20000 in
theorem gX3_about_X0_presentRule : GoodIn wsX3_about (wsV RX3 135 RX0 yX0_presentRule wsX0_presentRule) := goodIn_app (goodIn_of _ (by decide +kernel)) ggX3_about_X0_presentRule
set_option maxRecDepth 20000 in
theorem ggX3_about_X0_waitsSoFar : GoodIn wsX3_about wsX0_waitsSoFar := goodIn_r _ [56, 9, 65] (by decide +kernel) (by decide +kernel)
set_option maxRecDepth 20000 in
theorem gX3_about_X0_waitsSoFar : GoodIn wsX3_about (wsV RX3 138 RX0 yX0_waitsSoFar wsX0_waitsSoFar) := goodIn_app (goodIn_of _ (by decide +kernel)) ggX3_about_X0_waitsSoFar
theorem dX3_about_0 : decode cX3_about 0 = .ok (.iload_n 1, 1) := by decide +kernel
theorem dX3_about_1 : decode cX3_about 1 = .ok (.tableswitch 139 0 9 #[55, 63, 72, 81, 90, 99, 107, 115, 123, 131], 55) := by decide +kernel
theorem dX3_about_56 : decode cX3_about 56 = .ok (.aload_n 0, 1) := by decide +kernel
theorem dX3_about_57 : decode cX3_about 57 = .ok (.getfield 19, 3) := by decide +kernel
theorem dX3_about_60 : decode cX3_about 60 = .ok (.invokevirtual 120, 3) := by decide +kernel
theorem dX3_about_63 : decode cX3_about 63 = .ok (.ireturn, 1) := by decide +kernel
theorem dX3_about_64 : decode cX3_about 64 = .ok (.aload_n 0, 1) := by decide +kernel
theorem dX3_about_65 : decode cX3_about 65 = .ok (.getfield 19, 3) := by decide +kernel
theorem dX3_about_68 : decode cX3_about 68 = .ok (.iconst 0, 1) := by decide +kernel
theorem dX3_about_69 : decode cX3_about 69 = .ok (.invokevirtual 123, 3) := by decide +kernel
theorem dX3_about_72 : decode cX3_about 72 = .ok (.ireturn, 1) := by decide +kernel
theorem dX3_about_73 : decode cX3_about 73 = .ok (.aload_n 0, 1) := by decide +kernel
theorem dX3_about_74 : decode cX3_about 74 = .ok (.getfield 19, 3) := by decide +kernel
theorem dX3_about_77 : decode cX3_about 77 = .ok (.iconst 1, 1) := by decide +kernel
theorem dX3_about_78 : decode cX3_about 78 = .ok (.invokevirtual 123, 3) := by decide +kernel
theorem dX3_about_81 : decode cX3_about 81 = .ok (.ireturn, 1) := by decide +kernel
theorem dX3_about_82 : decode cX3_about 82 = .ok (.aload_n 0, 1) := by decide +kernel
theorem dX3_about_83 : decode cX3_about 83 = .ok (.getfield 19, 3) := by decide +kernel
theorem dX3_about_86 : decode cX3_about 86 = .ok (.iconst 2, 1) := by decide +kernel
theorem dX3_about_87 : decode cX3_about 87 = .ok (.invokevirtual 123, 3) := by decide +kernel
theorem dX3_about_90 : decode cX3_about 90 = .ok (.ireturn, 1) := by decide +kernel
theorem dX3_about_91 : decode cX3_about 91 = .ok (.aload_n 0, 1) := by decide +kernel
theorem dX3_about_92 : decode cX3_about 92 = .ok (.getfield 19, 3) := by decide +kernel
theorem dX3_about_95 : decode cX3_about 95 = .ok (.iconst 3, 1) := by decide +kernel
theorem dX3_about_96 : decode cX3_about 96 = .ok (.invokevirtual 123, 3) := by decide +kernel
theorem dX3_about_99 : decode cX3_about 99 = .ok (.ireturn, 1) := by decide +kernel
theorem dX3_about_100 : decode cX3_about 100 = .ok (.aload_n 0, 1) := by decide +kernel
theorem dX3_about_101 : decode cX3_about 101 = .ok (.getfield 19, 3) := by decide +kernel
theorem dX3_about_104 : decode cX3_about 104 = .ok (.invokevirtual 126, 3) := by decide +kernel
theorem dX3_about_107 : decode cX3_about 107 = .ok (.ireturn, 1) := by decide +kernel
theorem dX3_about_108 : decode cX3_about 108 = .ok (.aload_n 0, 1) := by decide +kernel
theorem dX3_about_109 : decode cX3_about 109 = .ok (.getfield 19, 3) := by decide +kernel
theorem dX3_about_112 : decode cX3_about 112 = .ok (.invokevirtual 129, 3) := by decide +kernel
theorem dX3_about_115 : decode cX3_about 115 = .ok (.ireturn, 1) := by decide +kernel
theorem dX3_about_116 : decode cX3_about 116 = .ok (.aload_n 0, 1) := by decide +kernel
theorem dX3_about_117 : decode cX3_about 117 = .ok (.getfield 19, 3) := by decide +kernel
theorem dX3_about_120 : decode cX3_about 120 = .ok (.invokevirtual 132, 3) := by decide +kernel
theorem dX3_about_123 : decode cX3_about 123 = .ok (.ireturn, 1) := by decide +kernel
theorem dX3_about_124 : decode cX3_about 124 = .ok (.aload_n 0, 1) := by decide +kernel
theorem dX3_about_125 : decode cX3_about 125 = .ok (.getfield 19, 3) := by decide +kernel
theorem dX3_about_128 : decode cX3_about 128 = .ok (.invokevirtual 135, 3) := by decide +kernel
theorem dX3_about_131 : decode cX3_about 131 = .ok (.ireturn, 1) := by decide +kernel
theorem dX3_about_132 : decode cX3_about 132 = .ok (.aload_n 0, 1) := by decide +kernel
theorem dX3_about_133 : decode cX3_about 133 = .ok (.getfield 19, 3) := by decide +kernel
theorem dX3_about_136 : decode cX3_about 136 = .ok (.invokevirtual 138, 3) := by decide +kernel
theorem dX3_about_139 : decode cX3_about 139 = .ok (.ireturn, 1) := by decide +kernel
theorem dX3_about_140 : decode cX3_about 140 = .ok (.new 47, 3) := by decide +kernel
theorem dX3_about_143 : decode cX3_about 143 = .ok (.dup, 1) := by decide +kernel
theorem dX3_about_144 : decode cX3_about 144 = .ok (.ldc 141, 2) := by decide +kernel
theorem dX3_about_146 : decode cX3_about 146 = .ok (.invokespecial 51, 3) := by decide +kernel
theorem dX3_about_149 : decode cX3_about 149 = .ok (.athrow, 1) := by decide +kernel
set_option maxRecDepth 20000 in
theorem ggX3_caterpillar_X0_has : GoodIn wsX3_caterpillar wsX0_has := goodIn_r _ [10, 11, 24] (by decide +kernel) (by decide +kernel)
set_option maxRecDepth 20000 in
theorem gX3_caterpillar_X0_has : GoodIn wsX3_caterpillar (wsV RX3 143 RX0 yX0_has wsX0_has) := goodIn_app (goodIn_of _ (by decide +kernel)) ggX3_caterpillar_X0_has
set_option maxRecDepth 20000 in
theorem ggX3_caterpillar_X0_number : GoodIn wsX3_caterpillar wsX0_number := goodIn_r _ [15, 11, 24] (by decide +kernel) (by decide +kernel)
set_option maxRecDepth 20000 in
theorem gX3_caterpillar_X0_number : GoodIn wsX3_caterpillar (wsV RX3 153 RX0 yX0_number wsX0_number) := goodIn_app (goodIn_of _ (by decide +kernel)) ggX3_caterpillar_X0_number
theorem dX3_caterpillar_0 : decode cX3_caterpillar 0 = .ok (.aload_n 0, 1) := by decide +kernel
theorem dX3_caterpillar_1 : decode cX3_caterpillar 1 = .ok (.getfield 19, 3) := by decide +kernel
theorem dX3_caterpillar_4 : decode cX3_caterpillar 4 = .ok (.iload_n 1, 1) := by decide +kernel
theorem dX3_caterpillar_5 : decode cX3_caterpillar 5 = .ok (.invokevirtual 143, 3) := by decide +kernel
theorem dX3_caterpillar_8 : decode cX3_caterpillar 8 = .ok (.ifCond .ne 13, 3) := by decide +kernel
theorem dX3_caterpillar_11 : decode cX3_caterpillar 11 = .ok (.new 146, 3) := by decide +kernel
theorem dX3_caterpillar_14 : decode cX3_caterpillar 14 = .ok (.dup, 1) := by decide +kernel
theorem dX3_caterpillar_15 : decode cX3_caterpillar 15 = .ok (.ldc 148, 2) := by decide +kernel
theorem dX3_caterpillar_17 : decode cX3_caterpillar 17 = .ok (.invokespecial 150, 3) := by decide +kernel
theorem dX3_caterpillar_20 : decode cX3_caterpillar 20 = .ok (.athrow, 1) := by decide +kernel
theorem dX3_caterpillar_21 : decode cX3_caterpillar 21 = .ok (.iload_n 2, 1) := by decide +kernel
theorem dX3_caterpillar_22 : decode cX3_caterpillar 22 = .ok (.ifCond .lt 9, 3) := by decide +kernel
theorem dX3_caterpillar_25 : decode cX3_caterpillar 25 = .ok (.iload_n 2, 1) := by decide +kernel
theorem dX3_caterpillar_26 : decode cX3_caterpillar 26 = .ok (.bipush 9, 2) := by decide +kernel
theorem dX3_caterpillar_28 : decode cX3_caterpillar 28 = .ok (.if_icmp .lt 13, 3) := by decide +kernel
theorem dX3_caterpillar_31 : decode cX3_caterpillar 31 = .ok (.new 47, 3) := by decide +kernel
theorem dX3_caterpillar_34 : decode cX3_caterpillar 34 = .ok (.dup, 1) := by decide +kernel
theorem dX3_caterpillar_35 : decode cX3_caterpillar 35 = .ok (.ldc 151, 2) := by decide +kernel
theorem dX3_caterpillar_37 : decode cX3_caterpillar 37 = .ok (.invokespecial 51, 3) := by decide +kernel
theorem dX3_caterpillar_40 : decode cX3_caterpillar 40 = .ok (.athrow, 1) := by decide +kernel
theorem dX3_caterpillar_41 : decode cX3_caterpillar 41 = .ok (.aload_n 0, 1) := by decide +kernel
theorem dX3_caterpillar_42 : decode cX3_caterpillar 42 = .ok (.getfield 19, 3) := by decide +kernel
theorem dX3_caterpillar_45 : decode cX3_caterpillar 45 = .ok (.iload_n 1, 1) := by decide +kernel
theorem dX3_caterpillar_46 : decode cX3_caterpillar 46 = .ok (.iload_n 2, 1) := by decide +kernel
theorem dX3_caterpillar_47 : decode cX3_caterpillar 47 = .ok (.invokevirtual 153, 3) := by decide +kernel
theorem dX3_caterpillar_50 : decode cX3_caterpillar 50 = .ok (.ireturn, 1) := by decide +kernel
set_option maxRecDepth 20000 in
theorem ggX3_lies_X0_has : GoodIn wsX3_lies wsX0_has := goodIn_r _ [8, 9, 22] (by decide +kernel) (by decide +kernel)
set_option maxRecDepth 20000 in
theorem gX3_lies_X0_has : GoodIn wsX3_lies (wsV RX3 143 RX0 yX0_has wsX0_has) := goodIn_app (goodIn_of _ (by decide +kernel)) ggX3_lies_X0_has
set_option maxRecDepth 20000 in
theorem ggX3_lies_X0_number : GoodIn wsX3_lies wsX0_number := goodIn_r _ [13, 9, 22] (by decide +kernel) (by decide +kernel)
set_option maxRecDepth 20000 in
theorem gX3_lies_X0_number : GoodIn wsX3_lies (wsV RX3 153 RX0 yX0_number wsX0_number) := goodIn_app (goodIn_of _ (by decide +kernel)) ggX3_lies_X0_number
theorem dX3_lies_0 : decode cX3_lies 0 = .ok (.aload_n 0, 1) := by decide +kernel
theorem dX3_lies_1 : decode cX3_lies 1 = .ok (.getfield 19, 3) := by decide +kernel
theorem dX3_lies_4 : decode cX3_lies 4 = .ok (.iload_n 1, 1) := by decide +kernel
theorem dX3_lies_5 : decode cX3_lies 5 = .ok (.invokevirtual 143, 3) := by decide +kernel
theorem dX3_lies_8 : decode cX3_lies 8 = .ok (.ifCond .ne 13, 3) := by decide +kernel
theorem dX3_lies_11 : decode cX3_lies 11 = .ok (.new 146, 3) := by decide +kernel
theorem dX3_lies_14 : decode cX3_lies 14 = .ok (.dup, 1) := by decide +kernel
theorem dX3_lies_15 : decode cX3_lies 15 = .ok (.ldc 148, 2) := by decide +kernel
theorem dX3_lies_17 : decode cX3_lies 17 = .ok (.invokespecial 150, 3) := by decide +kernel
theorem dX3_lies_20 : decode cX3_lies 20 = .ok (.athrow, 1) := by decide +kernel
theorem dX3_lies_21 : decode cX3_lies 21 = .ok (.iload_n 2, 1) := by decide +kernel
theorem dX3_lies_22 : decode cX3_lies 22 = .ok (.ifCond .lt 16, 3) := by decide +kernel
theorem dX3_lies_25 : decode cX3_lies 25 = .ok (.iload_n 2, 1) := by decide +kernel
theorem dX3_lies_26 : decode cX3_lies 26 = .ok (.aload_n 0, 1) := by decide +kernel
theorem dX3_lies_27 : decode cX3_lies 27 = .ok (.getfield 19, 3) := by decide +kernel
theorem dX3_lies_30 : decode cX3_lies 30 = .ok (.iload_n 1, 1) := by decide +kernel
theorem dX3_lies_31 : decode cX3_lies 31 = .ok (.iconst 1, 1) := by decide +kernel
theorem dX3_lies_32 : decode cX3_lies 32 = .ok (.invokevirtual 153, 3) := by decide +kernel
theorem dX3_lies_35 : decode cX3_lies 35 = .ok (.if_icmp .lt 13, 3) := by decide +kernel
theorem dX3_lies_38 : decode cX3_lies 38 = .ok (.new 146, 3) := by decide +kernel
theorem dX3_lies_41 : decode cX3_lies 41 = .ok (.dup, 1) := by decide +kernel
theorem dX3_lies_42 : decode cX3_lies 42 = .ok (.ldc 157, 2) := by decide +kernel
theorem dX3_lies_44 : decode cX3_lies 44 = .ok (.invokespecial 150, 3) := by decide +kernel
theorem dX3_lies_47 : decode cX3_lies 47 = .ok (.athrow, 1) := by decide +kernel
theorem dX3_lies_48 : decode cX3_lies 48 = .ok (.aload_n 0, 1) := by decide +kernel
theorem dX3_lies_49 : decode cX3_lies 49 = .ok (.getfield 19, 3) := by decide +kernel
theorem dX3_lies_52 : decode cX3_lies 52 = .ok (.iload_n 1, 1) := by decide +kernel
theorem dX3_lies_53 : decode cX3_lies 53 = .ok (.bipush 9, 2) := by decide +kernel
theorem dX3_lies_55 : decode cX3_lies 55 = .ok (.iload_n 2, 1) := by decide +kernel
theorem dX3_lies_56 : decode cX3_lies 56 = .ok (.iadd, 1) := by decide +kernel
theorem dX3_lies_57 : decode cX3_lies 57 = .ok (.invokevirtual 153, 3) := by decide +kernel
theorem dX3_lies_60 : decode cX3_lies 60 = .ok (.ireturn, 1) := by decide +kernel
set_option maxRecDepth 20000 in
theorem ggX3_room_X3_isRoom : GoodIn wsX3_room wsX3_isRoom := goodIn_r _ [9] (by decide +kernel) (by decide +kernel)
set_option maxRecDepth 20000 in
theorem gX3_room_X3_isRoom : GoodIn wsX3_room (va_wsS RX3 159 yX3_isRoom wsX3_isRoom) := goodIn_app (goodIn_of _ (by decide +kernel)) ggX3_room_X3_isRoom
set_option maxRecDepth 20000 in
theorem ggX3_room_X0_takerOf : GoodIn wsX3_room wsX0_takerOf := goodIn_r _ [14, 15, 7, 8, 9, 28] (by decide +kernel) (by decide +kernel)
set_option maxRecDepth 20000 in
theorem gX3_room_X0_takerOf : GoodIn wsX3_room (wsV RX3 166 RX0 yX0_takerOf wsX0_takerOf) := goodIn_app (goodIn_of _ (by decide +kernel)) ggX3_room_X0_takerOf
set_option maxRecDepth 20000 in
theorem ggX3_room_X0_isShut : GoodIn wsX3_room wsX0_isShut := goodIn_r _ [19, 15, 7, 8, 9, 28] (by decide +kernel) (by decide +kernel)
set_option maxRecDepth 20000 in
theorem gX3_room_X0_isShut : GoodIn wsX3_room (wsV RX3 169 RX0 yX0_isShut wsX0_isShut) := goodIn_app (goodIn_of _ (by decide +kernel)) ggX3_room_X0_isShut
theorem dX3_room_0 : decode cX3_room 0 = .ok (.iload_n 1, 1) := by decide +kernel
theorem dX3_room_1 : decode cX3_room 1 = .ok (.invokestatic 159, 3) := by decide +kernel
theorem dX3_room_4 : decode cX3_room 4 = .ok (.ifCond .ne 13, 3) := by decide +kernel
theorem dX3_room_7 : decode cX3_room 7 = .ok (.new 146, 3) := by decide +kernel
theorem dX3_room_10 : decode cX3_room 10 = .ok (.dup, 1) := by decide +kernel
theorem dX3_room_11 : decode cX3_room 11 = .ok (.ldc 162, 2) := by decide +kernel
theorem dX3_room_13 : decode cX3_room 13 = .ok (.invokespecial 150, 3) := by decide +kernel
theorem dX3_room_16 : decode cX3_room 16 = .ok (.athrow, 1) := by decide +kernel
theorem dX3_room_17 : decode cX3_room 17 = .ok (.iload_n 2, 1) := by decide +kernel
theorem dX3_room_18 : decode cX3_room 18 = .ok (.ifCond .eq 18, 3) := by decide +kernel
theorem dX3_room_21 : decode cX3_room 21 = .ok (.iload_n 2, 1) := by decide +kernel
theorem dX3_room_22 : decode cX3_room 22 = .ok (.iconst 1, 1) := by decide +kernel
theorem dX3_room_23 : decode cX3_room 23 = .ok (.if_icmp .eq 13, 3) := by decide +kernel
theorem dX3_room_26 : decode cX3_room 26 = .ok (.new 47, 3) := by decide +kernel
theorem dX3_room_29 : decode cX3_room 29 = .ok (.dup, 1) := by decide +kernel
theorem dX3_room_30 : decode cX3_room 30 = .ok (.ldc 164, 2) := by decide +kernel
theorem dX3_room_32 : decode cX3_room 32 = .ok (.invokespecial 51, 3) := by decide +kernel
theorem dX3_room_35 : decode cX3_room 35 = .ok (.athrow, 1) := by decide +kernel
theorem dX3_room_36 : decode cX3_room 36 = .ok (.iload_n 2, 1) := by decide +kernel
theorem dX3_room_37 : decode cX3_room 37 = .ok (.ifCond .ne 12, 3) := by decide +kernel
theorem dX3_room_40 : decode cX3_room 40 = .ok (.aload_n 0, 1) := by decide +kernel
theorem dX3_room_41 : decode cX3_room 41 = .ok (.getfield 19, 3) := by decide +kernel
theorem dX3_room_44 : decode cX3_room 44 = .ok (.iload_n 1, 1) := by decide +kernel
theorem dX3_room_45 : decode cX3_room 45 = .ok (.invokevirtual 166, 3) := by decide +kernel
theorem dX3_room_48 : decode cX3_room 48 = .ok (.ireturn, 1) := by decide +kernel
theorem dX3_room_49 : decode cX3_room 49 = .ok (.aload_n 0, 1) := by decide +kernel
theorem dX3_room_50 : decode cX3_room 50 = .ok (.getfield 19, 3) := by decide +kernel
theorem dX3_room_53 : decode cX3_room 53 = .ok (.iload_n 1, 1) := by decide +kernel
theorem dX3_room_54 : decode cX3_room 54 = .ok (.invokevirtual 169, 3) := by decide +kernel
theorem dX3_room_57 : decode cX3_room 57 = .ok (.ifCond .eq 7, 3) := by decide +kernel
theorem dX3_room_60 : decode cX3_room 60 = .ok (.iconst 1, 1) := by decide +kernel
theorem dX3_room_61 : decode cX3_room 61 = .ok (.goto 4, 3) := by decide +kernel
theorem dX3_room_64 : decode cX3_room 64 = .ok (.iconst 0, 1) := by decide +kernel
theorem dX3_room_65 : decode cX3_room 65 = .ok (.ireturn, 1) := by decide +kernel
set_option maxRecDepth 20000 in
theorem ggX3_next_X0_has : GoodIn wsX3_next wsX0_has := goodIn_r _ [8, 9, 36] (by decide +kernel) (by decide +kernel)
set_option maxRecDepth 20000 in
theorem gX3_next_X0_has : GoodIn wsX3_next (wsV RX3 143 RX0 yX0_has wsX0_has) := goodIn_app (goodIn_of _ (by decide +kernel)) ggX3_next_X0_has
set_option maxRecDepth 20000 in
theorem ggX3_next_X0_nextRoomOf : GoodIn wsX3_next wsX0_nextRoomOf := goodIn_r _ [13, 9, 14, 15, 16, 7, 17, 18, 19, 20, 21, 22, 23, 24, 25, 26, 27, 36] (by decide +kernel) (by decide +kernel)
set_option maxRecDepth 20000 in
theorem gX3_next_X0_nextRoomOf : GoodIn wsX3_next (wsV RX3 172 RX0 yX0_nextRoomOf wsX0_nextRoomOf) := goodIn_app (goodIn_of _ (by decide +kernel)) ggX3_next_X0_nextRoomOf
theorem dX3_next_0 : decode cX3_next 0 = .ok (.aload_n 0, 1) := by decide +kernel
theorem dX3_next_1 : decode cX3_next 1 = .ok (.getfield 19, 3) := by decide +kernel
theorem dX3_next_4 : decode cX3_next 4 = .ok (.iload_n 1, 1) := by decide +kernel
theorem dX3_next_5 : decode cX3_next 5 = .ok (.invokevirtual 143, 3) := by decide +kernel
theorem dX3_next_8 : decode cX3_next 8 = .ok (.ifCond .ne 13, 3) := by decide +kernel
theorem dX3_next_11 : decode cX3_next 11 = .ok (.new 146, 3) := by decide +kernel
theorem dX3_next_14 : decode cX3_next 14 = .ok (.dup, 1) := by decide +kernel
theorem dX3_next_15 : decode cX3_next 15 = .ok (.ldc 148, 2) := by decide +kernel
theorem dX3_next_17 : decode cX3_next 17 = .ok (.invokespecial 150, 3) := by decide +kernel
theorem dX3_next_20 : decode cX3_next 20 = .ok (.athrow, 1) := by decide +kernel
theorem dX3_next_21 : decode cX3_next 21 = .ok (.aload_n 0, 1) := by decide +kernel
theorem dX3_next_22 : decode cX3_next 22 = .ok (.getfield 19, 3) := by decide +kernel
theorem dX3_next_25 : decode cX3_next 25 = .ok (.iload_n 1, 1) := by decide +kernel
theorem dX3_next_26 : decode cX3_next 26 = .ok (.invokevirtual 172, 3) := by decide +kernel
theorem dX3_next_29 : decode cX3_next 29 = .ok (.ireturn, 1) := by decide +kernel
set_option maxRecDepth 20000 in
theorem ggX3_waitsFor_X0_has : GoodIn wsX3_waitsFor wsX0_has := goodIn_r _ [8, 9, 47] (by decide +kernel) (by decide +kernel)
set_option maxRecDepth 20000 in
theorem gX3_waitsFor_X0_has : GoodIn wsX3_waitsFor (wsV RX3 143 RX0 yX0_has wsX0_has) := goodIn_app (goodIn_of _ (by decide +kernel)) ggX3_waitsFor_X0_has
set_option maxRecDepth 20000 in
theorem ggX3_waitsFor_X0_blockerOf : GoodIn wsX3_waitsFor wsX0_blockerOf := goodIn_r _ [13, 14, 15, 16, 7, 17, 9, 18, 19, 20, 21, 22, 23, 24, 25, 26, 27, 28, 29, 30, 31, 32, 33, 34, 35, 36, 37, 38, 47] (by decide +kernel) (by decide +kernel)
set_option maxRecDepth 20000 in
theorem gX3_waitsFor_X0_blockerOf : GoodIn wsX3_waitsFor (wsV RX3 175 RX0 yX0_blockerOf wsX0_blockerOf) := goodIn_app (goodIn_of _ (by decide +kernel)) ggX3_waitsFor_X0_blockerOf
theorem dX3_waitsFor_0 : decode cX3_waitsFor 0 = .ok (.aload_n 0, 1) := by decide +kernel
theorem dX3_waitsFor_1 : decode cX3_waitsFor 1 = .ok (.getfield 19, 3) := by decide +kernel
theorem dX3_waitsFor_4 : decode cX3_waitsFor 4 = .ok (.iload_n 1, 1) := by decide +kernel
theorem dX3_waitsFor_5 : decode cX3_waitsFor 5 = .ok (.invokevirtual 143, 3) := by decide +kernel
theorem dX3_waitsFor_8 : decode cX3_waitsFor 8 = .ok (.ifCond .ne 13, 3) := by decide +kernel
theorem dX3_waitsFor_11 : decode cX3_waitsFor 11 = .ok (.new 146, 3) := by decide +kernel
theorem dX3_waitsFor_14 : decode cX3_waitsFor 14 = .ok (.dup, 1) := by decide +kernel
theorem dX3_waitsFor_15 : decode cX3_waitsFor 15 = .ok (.ldc 148, 2) := by decide +kernel
theorem dX3_waitsFor_17 : decode cX3_waitsFor 17 = .ok (.invokespecial 150, 3) := by decide +kernel
theorem dX3_waitsFor_20 : decode cX3_waitsFor 20 = .ok (.athrow, 1) := by decide +kernel
theorem dX3_waitsFor_21 : decode cX3_waitsFor 21 = .ok (.aload_n 0, 1) := by decide +kernel
theorem dX3_waitsFor_22 : decode cX3_waitsFor 22 = .ok (.getfield 19, 3) := by decide +kernel
theorem dX3_waitsFor_25 : decode cX3_waitsFor 25 = .ok (.iload_n 1, 1) := by decide +kernel
theorem dX3_waitsFor_26 : decode cX3_waitsFor 26 = .ok (.invokevirtual 175, 3) := by decide +kernel
theorem dX3_waitsFor_29 : decode cX3_waitsFor 29 = .ok (.ireturn, 1) := by decide +kernel
set_option maxRecDepth 20000 in
theorem ggX3_ring_X0_lowestInRing : GoodIn wsX3_ring wsX0_lowestInRing := goodIn_r _ [8, 9, 10, 11, 7, 12, 13, 14, 15, 16, 17, 18, 19, 20, 21, 22, 23, 24, 25, 26, 27, 28, 29, 30, 31, 32, 33, 34, 35, 36, 37, 38, 39, 40, 41, 42, 52] (by decide +kernel) (by decide +kernel)
set_option maxRecDepth 20000 in
theorem gX3_ring_X0_lowestInRing : GoodIn wsX3_ring (wsV RX3 180 RX0 yX0_lowestInRing wsX0_lowestInRing) := goodIn_app (goodIn_of _ (by decide +kernel)) ggX3_ring_X0_lowestInRing
set_option maxRecDepth 20000 in
theorem ggX3_ring_X0_ringSizeOf : GoodIn wsX3_ring wsX0_ringSizeOf := goodIn_r _ [12, 13, 14, 15, 7, 16, 17, 18, 19, 20, 21, 22, 23, 24, 25, 26, 27, 28, 29, 30, 31, 32, 33, 34, 35, 36, 37, 38, 39, 40, 41, 42, 52] (by decide +kernel) (by decide +kernel)
set_option maxRecDepth 20000 in
theorem gX3_ring_X0_ringSizeOf : GoodIn wsX3_ring (wsV RX3 183 RX0 yX0_ringSizeOf wsX0_ringSizeOf) := goodIn_app (goodIn_of _ (by decide +kernel)) ggX3_ring_X0_ringSizeOf
theorem dX3_ring_0 : decode cX3_ring 0 = .ok (.iload_n 1, 1) := by decide +kernel
theorem dX3_ring_1 : decode cX3_ring 1 = .ok (.ifCond .eq 18, 3) := by decide +kernel
theorem dX3_ring_4 : decode cX3_ring 4 = .ok (.iload_n 1, 1) := by decide +kernel
theorem dX3_ring_5 : decode cX3_ring 5 = .ok (.iconst 1, 1) := by decide +kernel
theorem dX3_ring_6 : decode cX3_ring 6 = .ok (.if_icmp .eq 13, 3) := by decide +kernel

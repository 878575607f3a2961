set_option maxRecDepth 20000 in
theorem ggX0_awaitFree_X0_chosenOf : GoodIn wsX0_awaitFree wsX0_chosenOf := goodIn_r _ [6, 7, 8, 15, 16, 17, 18, 19, 20] (by decide +kernel) (by decide +kernel)
set_option maxRecDepth 20000 in
theorem gX0_awaitFree_X0_chosenOf : GoodIn wsX0_awaitFree (wsV RX0 59 RX0 yX0_chosenOf wsX0_chosenOf) := goodIn_app (goodIn_of _ (by decide +kernel)) ggX0_awaitFree_X0_chosenOf
set_option maxRecDepth 20000 in
theorem ggX0_awaitFree_X0_await : GoodIn wsX0_awaitFree wsX0_await := goodIn_r _ [12, 13, 14, 1, 15, 16, 17, 18, 19, 20] (by decide +kernel) (by decide +kernel)
set_option maxRecDepth 20000 in
theorem gX0_awaitFree_X0_await : GoodIn wsX0_awaitFree (wsV RX0 82 RX0 yX0_await wsX0_await) := goodIn_app (goodIn_of _ (by decide +kernel)) ggX0_awaitFree_X0_await
theorem dX0_awaitFree_0 : decode cX0_awaitFree 0 = .ok (.aload_n 0, 1) := by decide +kernel
theorem dX0_awaitFree_1 : decode cX0_awaitFree 1 = .ok (.iconst 0, 1) := by decide +kernel
theorem dX0_awaitFree_2 : decode cX0_awaitFree 2 = .ok (.putfield 71, 3) := by decide +kernel
theorem dX0_awaitFree_5 : decode cX0_awaitFree 5 = .ok (.iconst 0, 1) := by decide +kernel
theorem dX0_awaitFree_6 : decode cX0_awaitFree 6 = .ok (.istore_n 2, 1) := by decide +kernel
theorem dX0_awaitFree_7 : decode cX0_awaitFree 7 = .ok (.iload_n 2, 1) := by decide +kernel
theorem dX0_awaitFree_8 : decode cX0_awaitFree 8 = .ok (.aload_n 1, 1) := by decide +kernel
theorem dX0_awaitFree_9 : decode cX0_awaitFree 9 = .ok (.getfield 37, 3) := by decide +kernel
theorem dX0_awaitFree_12 : decode cX0_awaitFree 12 = .ok (.if_icmp .ge 32, 3) := by decide +kernel
theorem dX0_awaitFree_15 : decode cX0_awaitFree 15 = .ok (.aload_n 1, 1) := by decide +kernel
theorem dX0_awaitFree_16 : decode cX0_awaitFree 16 = .ok (.getfield 47, 3) := by decide +kernel
theorem dX0_awaitFree_19 : decode cX0_awaitFree 19 = .ok (.iload_n 2, 1) := by decide +kernel
theorem dX0_awaitFree_20 : decode cX0_awaitFree 20 = .ok (.iaload, 1) := by decide +kernel
theorem dX0_awaitFree_21 : decode cX0_awaitFree 21 = .ok (.istore_n 3, 1) := by decide +kernel
theorem dX0_awaitFree_22 : decode cX0_awaitFree 22 = .ok (.aload_n 0, 1) := by decide +kernel
theorem dX0_awaitFree_23 : decode cX0_awaitFree 23 = .ok (.iconst 0, 1) := by decide +kernel
theorem dX0_awaitFree_24 : decode cX0_awaitFree 24 = .ok (.iload_n 3, 1) := by decide +kernel
theorem dX0_awaitFree_25 : decode cX0_awaitFree 25 = .ok (.invokevirtual 59, 3) := by decide +kernel
theorem dX0_awaitFree_28 : decode cX0_awaitFree 28 = .ok (.iconst (-1), 1) := by decide +kernel
theorem dX0_awaitFree_29 : decode cX0_awaitFree 29 = .ok (.if_icmp .ne 9, 3) := by decide +kernel
theorem dX0_awaitFree_32 : decode cX0_awaitFree 32 = .ok (.aload_n 0, 1) := by decide +kernel
theorem dX0_awaitFree_33 : decode cX0_awaitFree 33 = .ok (.iload_n 3, 1) := by decide +kernel
theorem dX0_awaitFree_34 : decode cX0_awaitFree 34 = .ok (.iconst (-1), 1) := by decide +kernel
theorem dX0_awaitFree_35 : decode cX0_awaitFree 35 = .ok (.invokevirtual 82, 3) := by decide +kernel
theorem dX0_awaitFree_38 : decode cX0_awaitFree 38 = .ok (.iinc 2 1, 3) := by decide +kernel
theorem dX0_awaitFree_41 : decode cX0_awaitFree 41 = .ok (.goto (-34), 3) := by decide +kernel
theorem dX0_awaitFree_44 : decode cX0_awaitFree 44 = .ok (.return_, 1) := by decide +kernel
set_option maxRecDepth 20000 in
theorem ggX0_awaitInstead_X0_await : GoodIn wsX0_awaitInstead wsX0_await := goodIn_r _ [6, 7, 8, 9, 10, 11, 12, 13, 14, 15] (by decide +kernel) (by decide +kernel)
set_option maxRecDepth 20000 in
theorem gX0_awaitInstead_X0_await : GoodIn wsX0_awaitInstead (wsV RX0 82 RX0 yX0_await wsX0_await) := goodIn_app (goodIn_of _ (by decide +kernel)) ggX0_awaitInstead_X0_await
theorem dX0_awaitInstead_0 : decode cX0_awaitInstead 0 = .ok (.aload_n 0, 1) := by decide +kernel
theorem dX0_awaitInstead_1 : decode cX0_awaitInstead 1 = .ok (.getfield 11, 3) := by decide +kernel
theorem dX0_awaitInstead_4 : decode cX0_awaitInstead 4 = .ok (.iconst 0, 1) := by decide +kernel
theorem dX0_awaitInstead_5 : decode cX0_awaitInstead 5 = .ok (.aaload, 1) := by decide +kernel
theorem dX0_awaitInstead_6 : decode cX0_awaitInstead 6 = .ok (.iload_n 2, 1) := by decide +kernel
theorem dX0_awaitInstead_7 : decode cX0_awaitInstead 7 = .ok (.iaload, 1) := by decide +kernel
theorem dX0_awaitInstead_8 : decode cX0_awaitInstead 8 = .ok (.istore 4, 2) := by decide +kernel
theorem dX0_awaitInstead_10 : decode cX0_awaitInstead 10 = .ok (.iconst 0, 1) := by decide +kernel
theorem dX0_awaitInstead_11 : decode cX0_awaitInstead 11 = .ok (.istore 5, 2) := by decide +kernel
theorem dX0_awaitInstead_13 : decode cX0_awaitInstead 13 = .ok (.iload 5, 2) := by decide +kernel
theorem dX0_awaitInstead_15 : decode cX0_awaitInstead 15 = .ok (.aload_n 1, 1) := by decide +kernel
theorem dX0_awaitInstead_16 : decode cX0_awaitInstead 16 = .ok (.getfield 37, 3) := by decide +kernel
theorem dX0_awaitInstead_19 : decode cX0_awaitInstead 19 = .ok (.if_icmp .ge 39, 3) := by decide +kernel
theorem dX0_awaitInstead_22 : decode cX0_awaitInstead 22 = .ok (.iload 4, 2) := by decide +kernel
theorem dX0_awaitInstead_24 : decode cX0_awaitInstead 24 = .ok (.iconst (-1), 1) := by decide +kernel
theorem dX0_awaitInstead_25 : decode cX0_awaitInstead 25 = .ok (.if_icmp .eq 33, 3) := by decide +kernel
theorem dX0_awaitInstead_28 : decode cX0_awaitInstead 28 = .ok (.iload 4, 2) := by decide +kernel
theorem dX0_awaitInstead_30 : decode cX0_awaitInstead 30 = .ok (.iload_n 2, 1) := by decide +kernel
theorem dX0_awaitInstead_31 : decode cX0_awaitInstead 31 = .ok (.if_icmp .eq 10, 3) := by decide +kernel
theorem dX0_awaitInstead_34 : decode cX0_awaitInstead 34 = .ok (.aload_n 0, 1) := by decide +kernel
theorem dX0_awaitInstead_35 : decode cX0_awaitInstead 35 = .ok (.iload 4, 2) := by decide +kernel
theorem dX0_awaitInstead_37 : decode cX0_awaitInstead 37 = .ok (.iload_n 3, 1) := by decide +kernel
theorem dX0_awaitInstead_38 : decode cX0_awaitInstead 38 = .ok (.invokevirtual 82, 3) := by decide +kernel
theorem dX0_awaitInstead_41 : decode cX0_awaitInstead 41 = .ok (.aload_n 1, 1) := by decide +kernel
theorem dX0_awaitInstead_42 : decode cX0_awaitInstead 42 = .ok (.getfield 85, 3) := by decide +kernel
theorem dX0_awaitInstead_45 : decode cX0_awaitInstead 45 = .ok (.iconst 0, 1) := by decide +kernel
theorem dX0_awaitInstead_46 : decode cX0_awaitInstead 46 = .ok (.aaload, 1) := by decide +kernel
theorem dX0_awaitInstead_47 : decode cX0_awaitInstead 47 = .ok (.iload 4, 2) := by decide +kernel
theorem dX0_awaitInstead_49 : decode cX0_awaitInstead 49 = .ok (.iaload, 1) := by decide +kernel
theorem dX0_awaitInstead_50 : decode cX0_awaitInstead 50 = .ok (.istore 4, 2) := by decide +kernel
theorem dX0_awaitInstead_52 : decode cX0_awaitInstead 52 = .ok (.iinc 5 1, 3) := by decide +kernel
theorem dX0_awaitInstead_55 : decode cX0_awaitInstead 55 = .ok (.goto (-42), 3) := by decide +kernel
theorem dX0_awaitInstead_58 : decode cX0_awaitInstead 58 = .ok (.return_, 1) := by decide +kernel
theorem dX0_await_0 : decode cX0_await 0 = .ok (.aload_n 0, 1) := by decide +kernel
theorem dX0_await_1 : decode cX0_await 1 = .ok (.getfield 23, 3) := by decide +kernel
theorem dX0_await_4 : decode cX0_await 4 = .ok (.iload_n 1, 1) := by decide +kernel
theorem dX0_await_5 : decode cX0_await 5 = .ok (.iload_n 2, 1) := by decide +kernel
theorem dX0_await_6 : decode cX0_await 6 = .ok (.iastore, 1) := by decide +kernel
theorem dX0_await_7 : decode cX0_await 7 = .ok (.aload_n 0, 1) := by decide +kernel
theorem dX0_await_8 : decode cX0_await 8 = .ok (.getfield 19, 3) := by decide +kernel
theorem dX0_await_11 : decode cX0_await 11 = .ok (.aload_n 0, 1) := by decide +kernel
theorem dX0_await_12 : decode cX0_await 12 = .ok (.getfield 71, 3) := by decide +kernel
theorem dX0_await_15 : decode cX0_await 15 = .ok (.iload_n 1, 1) := by decide +kernel
theorem dX0_await_16 : decode cX0_await 16 = .ok (.iastore, 1) := by decide +kernel
theorem dX0_await_17 : decode cX0_await 17 = .ok (.aload_n 0, 1) := by decide +kernel
theorem dX0_await_18 : decode cX0_await 18 = .ok (.dup, 1) := by decide +kernel
theorem dX0_await_19 : decode cX0_await 19 = .ok (.getfield 71, 3) := by decide +kernel
theorem dX0_await_22 : decode cX0_await 22 = .ok (.iconst 1, 1) := by decide +kernel
theorem dX0_await_23 : decode cX0_await 23 = .ok (.iadd, 1) := by decide +kernel
theorem dX0_await_24 : decode cX0_await 24 = .ok (.putfield 71, 3) := by decide +kernel
theorem dX0_await_27 : decode cX0_await 27 = .ok (.return_, 1) := by decide +kernel
set_option maxRecDepth 20000 in
theorem ggX0_turn_X0_choose : GoodIn wsX0_turn wsX0_choose := goodIn_r _ [6, 7, 8, 9, 10, 11, 12, 13, 14] (by decide +kernel) (by decide +kernel)
set_option maxRecDepth 20000 in
theorem gX0_turn_X0_choose : GoodIn wsX0_turn (wsV RX0 63 RX0 yX0_choose wsX0_choose) := goodIn_app (goodIn_of _ (by decide +kernel)) ggX0_turn_X0_choose
theorem dX0_turn_0 : decode cX0_turn 0 = .ok (.iload_n 1, 1) := by decide +kernel
theorem dX0_turn_1 : decode cX0_turn 1 = .ok (.istore_n 3, 1) := by decide +kernel
theorem dX0_turn_2 : decode cX0_turn 2 = .ok (.iconst 0, 1) := by decide +kernel
theorem dX0_turn_3 : decode cX0_turn 3 = .ok (.istore 4, 2) := by decide +kernel
theorem dX0_turn_5 : decode cX0_turn 5 = .ok (.iload 4, 2) := by decide +kernel
theorem dX0_turn_7 : decode cX0_turn 7 = .ok (.iload_n 2, 1) := by decide +kernel
theorem dX0_turn_8 : decode cX0_turn 8 = .ok (.if_icmp .ge 26, 3) := by decide +kernel
theorem dX0_turn_11 : decode cX0_turn 11 = .ok (.iload_n 3, 1) := by decide +kernel
theorem dX0_turn_12 : decode cX0_turn 12 = .ok (.iconst (-1), 1) := by decide +kernel
theorem dX0_turn_13 : decode cX0_turn 13 = .ok (.if_icmp .eq 21, 3) := by decide +kernel
theorem dX0_turn_16 : decode cX0_turn 16 = .ok (.aload_n 0, 1) := by decide +kernel
theorem dX0_turn_17 : decode cX0_turn 17 = .ok (.iload_n 3, 1) := by decide +kernel
theorem dX0_turn_18 : decode cX0_turn 18 = .ok (.invokevirtual 63, 3) := by decide +kernel
theorem dX0_turn_21 : decode cX0_turn 21 = .ok (.aload_n 0, 1) := by decide +kernel
theorem dX0_turn_22 : decode cX0_turn 22 = .ok (.getfield 23, 3) := by decide +kernel
theorem dX0_turn_25 : decode cX0_turn 25 = .ok (.iload_n 3, 1) := by decide +kernel
theorem dX0_turn_26 : decode cX0_turn 26 = .ok (.iaload, 1) := by decide +kernel
theorem dX0_turn_27 : decode cX0_turn 27 = .ok (.istore_n 3, 1) := by decide +kernel
theorem dX0_turn_28 : decode cX0_turn 28 = .ok (.iinc 4 1, 3) := by decide +kernel
theorem dX0_turn_31 : decode cX0_turn 31 = .ok (.goto (-26), 3) := by decide +kernel
theorem dX0_turn_34 : decode cX0_turn 34 = .ok (.return_, 1) := by decide +kernel
theorem dX1_init_0 : decode cX1_init 0 = .ok (.aload_n 0, 1) := by decide +kernel
theorem dX1_init_1 : decode cX1_init 1 = .ok (.invokespecial 3, 3) := by decide +kernel
theorem dX1_init_4 : decode cX1_init 4 = .ok (.aload_n 0, 1) := by decide +kernel
theorem dX1_init_5 : decode cX1_init 5 = .ok (.sipush 300, 3) := by decide +kernel
theorem dX1_init_8 : decode cX1_init 8 = .ok (.newarray .int, 2) := by decide +kernel
theorem dX1_init_10 : decode cX1_init 10 = .ok (.putfield 9, 3) := by decide +kernel
theorem dX1_init_13 : decode cX1_init 13 = .ok (.aload_n 0, 1) := by decide +kernel
theorem dX1_init_14 : decode cX1_init 14 = .ok (.sipush 300, 3) := by decide +kernel
theorem dX1_init_17 : decode cX1_init 17 = .ok (.newarray .int, 2) := by decide +kernel
theorem dX1_init_19 : decode cX1_init 19 = .ok (.putfield 15, 3) := by decide +kernel
theorem dX1_init_22 : decode cX1_init 22 = .ok (.aload_n 0, 1) := by decide +kernel
theorem dX1_init_23 : decode cX1_init 23 = .ok (.iconst 2, 1) := by decide +kernel
theorem dX1_init_24 : decode cX1_init 24 = .ok (.sipush 300, 3) := by decide +kernel
theorem dX1_init_27 : decode cX1_init 27 = .ok (.multianewarray 18 2, 4) := by decide +kernel
theorem dX1_init_31 : decode cX1_init 31 = .ok (.putfield 20, 3) := by decide +kernel
theorem dX1_init_34 : decode cX1_init 34 = .ok (.return_, 1) := by decide +kernel
set_option maxRecDepth 20000 in
theorem ggX1_partOf_X1_start : GoodIn wsX1_partOf wsX1_start := goodIn_r _ [6, 7, 8, 9, 5, 10, 1, 11, 12, 13, 14, 15, 16, 17, 18, 19, 20, 21, 22, 23, 24, 25, 26, 27, 28, 29, 30, 31, 32, 33, 34, 35, 36, 37, 38, 39, 40, 41, 42, 43, 44, 45, 46, 47, 48, 49, 50, 51] (by decide +kernel) (by decide +kernel)
set_option maxRecDepth 20000 in
theorem gX1_partOf_X1_start : GoodIn wsX1_partOf (wsV RX1 23 RX1 yX1_start wsX1_start) := goodIn_app (goodIn_of _ (by decide +kernel)) ggX1_partOf_X1_start
theorem dX1_partOf_0 : decode cX1_partOf 0 = .ok (.aload_n 0, 1) := by decide +kernel
theorem dX1_partOf_1 : decode cX1_partOf 1 = .ok (.aload_n 1, 1) := by decide +kernel
theorem dX1_partOf_2 : decode cX1_partOf 2 = .ok (.iload_n 2, 1) := by decide +kernel
theorem dX1_partOf_3 : decode cX1_partOf 3 = .ok (.iload_n 3, 1) := by decide +kernel
theorem dX1_partOf_4 : decode cX1_partOf 4 = .ok (.invokevirtual 23, 3) := by decide +kernel
theorem dX1_partOf_7 : decode cX1_partOf 7 = .ok (.aload_n 0, 1) := by decide +kernel
theorem dX1_partOf_8 : decode cX1_partOf 8 = .ok (.getfield 27, 3) := by decide +kernel
theorem dX1_partOf_11 : decode cX1_partOf 11 = .ok (.ireturn, 1) := by decide +kernel
set_option maxRecDepth 20000 in
theorem ggX1_leastRow_X1_start : GoodIn wsX1_leastRow wsX1_start := goodIn_r _ [8, 9, 10, 11, 7, 12, 1, 3, 13, 14, 15, 16, 17, 18, 19, 20, 21, 22, 23, 24, 25, 26, 27, 28, 29, 2, 30, 31, 32, 33, 34, 35, 36, 37, 38, 39, 40, 41, 42, 43, 44, 45, 46, 47, 48, 49, 50, 51] (by decide +kernel) (by decide +kernel)
set_option maxRecDepth 20000 in
theorem gX1_leastRow_X1_start : GoodIn wsX1_leastRow (wsV RX1 23 RX1 yX1_start wsX1_start) := goodIn_app (goodIn_of _ (by decide +kernel)) ggX1_leastRow_X1_start
theorem dX1_leastRow_0 : decode cX1_leastRow 0 = .ok (.aload_n 0, 1) := by decide +kernel
theorem dX1_leastRow_1 : decode cX1_leastRow 1 = .ok (.aload_n 1, 1) := by decide +kernel
theorem dX1_leastRow_2 : decode cX1_leastRow 2 = .ok (.iload_n 2, 1) := by decide +kernel
theorem dX1_leastRow_3 : decode cX1_leastRow 3 = .ok (.iload_n 3, 1) := by decide +kernel
theorem dX1_leastRow_4 : decode cX1_leastRow 4 = .ok (.invokevirtual 23, 3) := by decide +kernel
theorem dX1_leastRow_7 : decode cX1_leastRow 7 = .ok (.iconst 0, 1) := by decide +kernel
theorem dX1_leastRow_8 : decode cX1_leastRow 8 = .ok (.istore 6, 2) := by decide +kernel
theorem dX1_leastRow_10 : decode cX1_leastRow 10 = .ok (.iload 6, 2) := by decide +kernel
theorem dX1_leastRow_12 : decode cX1_leastRow 12 = .ok (.aload_n 0, 1) := by decide +kernel
theorem dX1_leastRow_13 : decode cX1_leastRow 13 = .ok (.getfield 27, 3) := by decide +kernel
theorem dX1_leastRow_16 : decode cX1_leastRow 16 = .ok (.if_icmp .ge 42, 3) := by decide +kernel
theorem dX1_leastRow_19 : decode cX1_leastRow 19 = .ok (.aload_n 1, 1) := by decide +kernel
theorem dX1_leastRow_20 : decode cX1_leastRow 20 = .ok (.getfield 31, 3) := by decide +kernel
theorem dX1_leastRow_23 : decode cX1_leastRow 23 = .ok (.iload 4, 2) := by decide +kernel
theorem dX1_leastRow_25 : decode cX1_leastRow 25 = .ok (.aaload, 1) := by decide +kernel
theorem dX1_leastRow_26 : decode cX1_leastRow 26 = .ok (.aload_n 0, 1) := by decide +kernel
theorem dX1_leastRow_27 : decode cX1_leastRow 27 = .ok (.getfield 9, 3) := by decide +kernel
theorem dX1_leastRow_30 : decode cX1_leastRow 30 = .ok (.iload 6, 2) := by decide +kernel
theorem dX1_leastRow_32 : decode cX1_leastRow 32 = .ok (.iaload, 1) := by decide +kernel
theorem dX1_leastRow_33 : decode cX1_leastRow 33 = .ok (.iaload, 1) := by decide +kernel
theorem dX1_leastRow_34 : decode cX1_leastRow 34 = .ok (.iload 5, 2) := by decide +kernel
theorem dX1_leastRow_36 : decode cX1_leastRow 36 = .ok (.if_icmp .ne 16, 3) := by decide +kernel
theorem dX1_leastRow_39 : decode cX1_leastRow 39 = .ok (.aload_n 0, 1) := by decide +kernel
theorem dX1_leastRow_40 : decode cX1_leastRow 40 = .ok (.getfield 15, 3) := by decide +kernel
theorem dX1_leastRow_43 : decode cX1_leastRow 43 = .ok (.aload_n 0, 1) := by decide +kernel
theorem dX1_leastRow_44 : decode cX1_leastRow 44 = .ok (.getfield 9, 3) := by decide +kernel
theorem dX1_leastRow_47 : decode cX1_leastRow 47 = .ok (.iload 6, 2) := by decide +kernel
theorem dX1_leastRow_49 : decode cX1_leastRow 49 = .ok (.iaload, 1) := by decide +kernel
theorem dX1_leastRow_50 : decode cX1_leastRow 50 = .ok (.iaload, 1) := by decide +kernel
theorem dX1_leastRow_51 : decode cX1_leastRow 51 = .ok (.ireturn, 1) := by decide +kernel
theorem dX1_leastRow_52 : decode cX1_leastRow 52 = .ok (.iinc 6 1, 3) := by decide +kernel
theorem dX1_leastRow_55 : decode cX1_leastRow 55 = .ok (.goto (-45), 3) := by decide +kernel
theorem dX1_leastRow_58 : decode cX1_leastRow 58 = .ok (.iconst 0, 1) := by decide +kernel
theorem dX1_leastRow_59 : decode cX1_leastRow 59 = .ok (.ireturn, 1) := by decide +kernel
set_option maxRecDepth 20000 in
theorem ggX1_allParts_X1_forget : GoodIn wsX1_allParts wsX1_forget := goodIn_r _ [6, 7, 1, 8, 9, 10, 11, 12, 38, 39, 40, 41] (by decide +kernel) (by decide +kernel)
set_option maxRecDepth 20000 in
theorem gX1_allParts_X1_forget : GoodIn wsX1_allParts (wsV RX1 36 RX1 yX1_forget wsX1_forget) := goodIn_app (goodIn_of _ (by decide +kernel)) ggX1_allParts_X1_forget
set_option maxRecDepth 20000 in
theorem ggX1_allParts_X1_spreadFrom : GoodIn wsX1_allParts wsX1_spreadFrom := goodIn_r _ [16, 7, 17, 1, 18, 19, 20, 5, 21, 8, 22, 23, 24, 25, 26, 27, 28, 29, 30, 31, 32, 38, 39, 40, 41, 33, 34, 35, 36, 37] (by decide +kernel) (by decide +kernel)
set_option maxRecDepth 20000 in
theorem gX1_allParts_X1_spreadFrom : GoodIn wsX1_allParts (wsV RX1 45 RX1 yX1_spreadFrom wsX1_spreadFrom) := goodIn_app (goodIn_of _ (by decide +kernel)) ggX1_allParts_X1_spreadFrom
theorem dX1_allParts_0 : decode cX1_allParts 0 = .ok (.iconst 0, 1) := by decide +kernel
theorem dX1_allParts_1 : decode cX1_allParts 1 = .ok (.istore_n 2, 1) := by decide +kernel
theorem dX1_allParts_2 : decode cX1_allParts 2 = .ok (.aload_n 0, 1) := by decide +kernel
theorem dX1_allParts_3 : decode cX1_allParts 3 = .ok (.invokevirtual 36, 3) := by decide +kernel
theorem dX1_allParts_6 : decode cX1_allParts 6 = .ok (.iconst 0, 1) := by decide +kernel
theorem dX1_allParts_7 : decode cX1_allParts 7 = .ok (.istore_n 3, 1) := by decide +kernel
theorem dX1_allParts_8 : decode cX1_allParts 8 = .ok (.iload_n 3, 1) := by decide +kernel
theorem dX1_allParts_9 : decode cX1_allParts 9 = .ok (.aload_n 1, 1) := by decide +kernel
theorem dX1_allParts_10 : decode cX1_allParts 10 = .ok (.getfield 39, 3) := by decide +kernel
theorem dX1_allParts_13 : decode cX1_allParts 13 = .ok (.if_icmp .ge 38, 3) := by decide +kernel
theorem dX1_allParts_16 : decode cX1_allParts 16 = .ok (.aload_n 1, 1) := by decide +kernel
theorem dX1_allParts_17 : decode cX1_allParts 17 = .ok (.getfield 42, 3) := by decide +kernel
theorem dX1_allParts_20 : decode cX1_allParts 20 = .ok (.iload_n 3, 1) := by decide +kernel
theorem dX1_allParts_21 : decode cX1_allParts 21 = .ok (.iaload, 1) := by decide +kernel
theorem dX1_allParts_22 : decode cX1_allParts 22 = .ok (.istore 4, 2) := by decide +kernel
theorem dX1_allParts_24 : decode cX1_allParts 24 = .ok (.aload_n 0, 1) := by decide +kernel
theorem dX1_allParts_25 : decode cX1_allParts 25 = .ok (.getfield 15, 3) := by decide +kernel
theorem dX1_allParts_28 : decode cX1_allParts 28 = .ok (.iload 4, 2) := by decide +kernel
theorem dX1_allParts_30 : decode cX1_allParts 30 = .ok (.iaload, 1) := by decide +kernel
theorem dX1_allParts_31 : decode cX1_allParts 31 = .ok (.ifCond .ne 14, 3) := by decide +kernel
theorem dX1_allParts_34 : decode cX1_allParts 34 = .ok (.iinc 2 1, 3) := by decide +kernel
theorem dX1_allParts_37 : decode cX1_allParts 37 = .ok (.aload_n 0, 1) := by decide +kernel
theorem dX1_allParts_38 : decode cX1_allParts 38 = .ok (.aload_n 1, 1) := by decide +kernel
theorem dX1_allParts_39 : decode cX1_allParts 39 = .ok (.iconst 0, 1) := by decide +kernel
theorem dX1_allParts_40 : decode cX1_allParts 40 = .ok (.iload 4, 2) := by decide +kernel
theorem dX1_allParts_42 : decode cX1_allParts 42 = .ok (.invokevirtual 45, 3) := by decide +kernel
theorem dX1_allParts_45 : decode cX1_allParts 45 = .ok (.iinc 3 1, 3) := by decide +kernel
theorem dX1_allParts_48 : decode cX1_allParts 48 = .ok (.goto (-40), 3) := by decide +kernel
theorem dX1_allParts_51 : decode cX1_allParts 51 = .ok (.iload_n 2, 1) := by decide +kernel
theorem dX1_allParts_52 : decode cX1_allParts 52 = .ok (.ireturn, 1) := by decide +kernel
set_option maxRecDepth 20000 in
theorem ggX1_start_X1_forget : GoodIn wsX1_start wsX1_forget := goodIn_r _ [5, 6, 7, 8, 9, 10, 11, 12, 39, 40, 41, 42] (by decide +kernel) (by decide +kernel)
set_option maxRecDepth 20000 in
theorem gX1_start_X1_forget : GoodIn wsX1_start (wsV RX1 36 RX1 yX1_forget wsX1_forget) := goodIn_app (goodIn_of _ (by decide +kernel)) ggX1_start_X1_forget
set_option maxRecDepth 20000 in
theorem ggX1_start_X2_firstOf : GoodIn wsX1_start wsX2_firstOf := goodIn_r _ [17, 18, 19, 20, 43, 44, 45, 46, 47] (by decide +kernel) (by decide +kernel)
set_option maxRecDepth 20000 in
theorem gX1_start_X2_firstOf : GoodIn wsX1_start (wsV RX1 48 RX2 yX2_firstOf wsX2_firstOf) := goodIn_app (goodIn_of _ (by decide +kernel)) ggX1_start_X2_firstOf
set_option maxRecDepth 20000 in
theorem ggX1_start_X1_spreadFrom : GoodIn wsX1_start wsX1_spreadFrom := goodIn_r _ [24, 6, 25, 7, 26, 27, 28, 4, 29, 8, 30, 31, 32, 16, 33, 18, 34, 35, 36, 37, 38, 39, 40, 41, 42, 43, 44, 45, 46, 47] (by decide +kernel) (by decide +kernel)
set_option maxRecDepth 20000 in
theorem gX1_start_X1_spreadFrom : GoodIn wsX1_start (wsV RX1 45 RX1 yX1_spreadFrom wsX1_spreadFrom) := goodIn_app (goodIn_of _ (by decide +kernel)) ggX1_start_X1_spreadFrom
theorem dX1_start_0 : decode cX1_start 0 = .ok (.aload_n 0, 1) := by decide +kernel
theorem dX1_start_1 : decode cX1_start 1 = .ok (.invokevirtual 36, 3) := by decide +kernel
theorem dX1_start_4 : decode cX1_start 4 = .ok (.aload_n 1, 1) := by decide +kernel
theorem dX1_start_5 : decode cX1_start 5 = .ok (.iload_n 2, 1) := by decide +kernel
theorem dX1_start_6 : decode cX1_start 6 = .ok (.iload_n 3, 1) := by decide +kernel
theorem dX1_start_7 : decode cX1_start 7 = .ok (.invokevirtual 48, 3) := by decide +kernel
theorem dX1_start_10 : decode cX1_start 10 = .ok (.istore 4, 2) := by decide +kernel
theorem dX1_start_12 : decode cX1_start 12 = .ok (.iload 4, 2) := by decide +kernel
theorem dX1_start_14 : decode cX1_start 14 = .ok (.iconst (-1), 1) := by decide +kernel
theorem dX1_start_15 : decode cX1_start 15 = .ok (.if_icmp .eq 11, 3) := by decide +kernel
theorem dX1_start_18 : decode cX1_start 18 = .ok (.aload_n 0, 1) := by decide +kernel
theorem dX1_start_19 : decode cX1_start 19 = .ok (.aload_n 1, 1) := by decide +kernel
theorem dX1_start_20 : decode cX1_start 20 = .ok (.iload_n 2, 1) := by decide +kernel
theorem dX1_start_21 : decode cX1_start 21 = .ok (.iload 4, 2) := by decide +kernel
theorem dX1_start_23 : decode cX1_start 23 = .ok (.invokevirtual 45, 3) := by decide +kernel
theorem dX1_start_26 : decode cX1_start 26 = .ok (.return_, 1) := by decide +kernel
set_option maxRecDepth 20000 in
theorem ggX1_forget_J7_fill_53178 : GoodIn wsX1_forget wsJ7_fill_53178 := goodIn_r _ [7] (by decide +kernel) (by decide +kernel)
set_option maxRecDepth 20000 in
theorem gX1_forget_J7_fill_53178 : GoodIn wsX1_forget (va_wsS RX1 52 yJ7_fill_53178 wsJ7_fill_53178) := goodIn_app (goodIn_of _ (by decide +kernel)) ggX1_forget_J7_fill_53178
theorem dX1_forget_0 : decode cX1_forget 0 = .ok (.aload_n 0, 1) := by decide +kernel
theorem dX1_forget_1 : decode cX1_forget 1 = .ok (.iconst 0, 1) := by decide +kernel
theorem dX1_forget_2 : decode cX1_forget 2 = .ok (.putfield 27, 3) := by decide +kernel
theorem dX1_forget_5 : decode cX1_forget 5 = .ok (.aload_n 0, 1) := by decide +kernel
theorem dX1_forget_6 : decode cX1_forget 6 = .ok (.getfield 15, 3) := by decide +kernel
theorem dX1_forget_9 : decode cX1_forget 9 = .ok (.iconst 0, 1) := by decide +kernel
theorem dX1_forget_10 : decode cX1_forget 10 = .ok (.invokestatic 52, 3) := by decide +kernel
theorem dX1_forget_13 : decode cX1_forget 13 = .ok (.aload_n 0, 1) := by decide +kernel
theorem dX1_forget_14 : decode cX1_forget 14 = .ok (.getfield 20, 3) := by decide +kernel
theorem dX1_forget_17 : decode cX1_forget 17 = .ok (.iconst 0, 1) := by decide +kernel
theorem dX1_forget_18 : decode cX1_forget 18 = .ok (.aaload, 1) := by decide +kernel
theorem dX1_forget_19 : decode cX1_forget 19 = .ok (.iconst 0, 1) := by decide +kernel
theorem dX1_forget_20 : decode cX1_forget 20 = .ok (.invokestatic 52, 3) := by decide +kernel
theorem dX1_forget_23 : decode cX1_forget 23 = .ok (.aload_n 0, 1) := by decide +kernel
theorem dX1_forget_24 : decode cX1_forget 24 = .ok (.getfield 20, 3) := by decide +kernel
theorem dX1_forget_27 : decode cX1_forget 27 = .ok (.iconst 1, 1) := by decide +kernel
theorem dX1_forget_28 : decode cX1_forget 28 = .ok (.aaload, 1) := by decide +kernel
theorem dX1_forget_29 : decode cX1_forget 29 = .ok (.iconst 0, 1) := by decide +kernel
theorem dX1_forget_30 : decode cX1_forget 30 = .ok (.invokestatic 52, 3) := by decide +kernel
theorem dX1_forget_33 : decode cX1_forget 33 = .ok (.return_, 1) := by decide +kernel
set_option maxRecDepth 20000 in
theorem ggX1_spreadFrom_X1_walk : GoodIn wsX1_spreadFrom wsX1_walk := goodIn_r _ [8, 9, 10, 11, 12, 13, 14, 15, 16, 17, 18, 19, 7, 20, 3, 2, 1, 21, 22, 23, 24, 25, 26, 27, 28, 29] (by decide +kernel) (by decide +kernel)
set_option maxRecDepth 20000 in
theorem gX1_spreadFrom_X1_walk : GoodIn wsX1_spreadFrom (wsV RX1 58 RX1 yX1_walk wsX1_walk) := goodIn_app (goodIn_of _ (by decide +kernel)) ggX1_spreadFrom_X1_walk
theorem dX1_spreadFrom_0 : decode cX1_spreadFrom 0 = .ok (.aload_n 0, 1) := by decide +kernel
theorem dX1_spreadFrom_1 : decode cX1_spreadFrom 1 = .ok (.getfield 27, 3) := by decide +kernel
theorem dX1_spreadFrom_4 : decode cX1_spreadFrom 4 = .ok (.istore 4, 2) := by decide +kernel
theorem dX1_spreadFrom_6 : decode cX1_spreadFrom 6 = .ok (.aload_n 0, 1) := by decide +kernel
theorem dX1_spreadFrom_7 : decode cX1_spreadFrom 7 = .ok (.aload_n 1, 1) := by decide +kernel
theorem dX1_spreadFrom_8 : decode cX1_spreadFrom 8 = .ok (.iload_n 2, 1) := by decide +kernel
theorem dX1_spreadFrom_9 : decode cX1_spreadFrom 9 = .ok (.iload_n 3, 1) := by decide +kernel
theorem dX1_spreadFrom_10 : decode cX1_spreadFrom 10 = .ok (.iconst 1, 1) := by decide +kernel
theorem dX1_spreadFrom_11 : decode cX1_spreadFrom 11 = .ok (.invokevirtual 58, 3) := by decide +kernel
theorem dX1_spreadFrom_14 : decode cX1_spreadFrom 14 = .ok (.iload 4, 2) := by decide +kernel
theorem dX1_spreadFrom_16 : decode cX1_spreadFrom 16 = .ok (.istore 5, 2) := by decide +kernel
theorem dX1_spreadFrom_18 : decode cX1_spreadFrom 18 = .ok (.iload 5, 2) := by decide +kernel
theorem dX1_spreadFrom_20 : decode cX1_spreadFrom 20 = .ok (.aload_n 0, 1) := by decide +kernel
theorem dX1_spreadFrom_21 : decode cX1_spreadFrom 21 = .ok (.getfield 27, 3) := by decide +kernel
theorem dX1_spreadFrom_24 : decode cX1_spreadFrom 24 = .ok (.if_icmp .ge 60, 3) := by decide +kernel
theorem dX1_spreadFrom_27 : decode cX1_spreadFrom 27 = .ok (.iload 5, 2) := by decide +kernel
theorem dX1_spreadFrom_29 : decode cX1_spreadFrom 29 = .ok (.sipush 300, 3) := by decide +kernel
theorem dX1_spreadFrom_32 : decode cX1_spreadFrom 32 = .ok (.if_icmp .ge 52, 3) := by decide +kernel
theorem dX1_spreadFrom_35 : decode cX1_spreadFrom 35 = .ok (.aload_n 0, 1) := by decide +kernel
theorem dX1_spreadFrom_36 : decode cX1_spreadFrom 36 = .ok (.getfield 9, 3) := by decide +kernel
theorem dX1_spreadFrom_39 : decode cX1_spreadFrom 39 = .ok (.iload 5, 2) := by decide +kernel
theorem dX1_spreadFrom_41 : decode cX1_spreadFrom 41 = .ok (.iaload, 1) := by decide +kernel
theorem dX1_spreadFrom_42 : decode cX1_spreadFrom 42 = .ok (.istore 6, 2) := by decide +kernel
theorem dX1_spreadFrom_44 : decode cX1_spreadFrom 44 = .ok (.aload_n 0, 1) := by decide +kernel
theorem dX1_spreadFrom_45 : decode cX1_spreadFrom 45 = .ok (.aload_n 1, 1) := by decide +kernel
theorem dX1_spreadFrom_46 : decode cX1_spreadFrom 46 = .ok (.iconst 0, 1) := by decide +kernel
theorem dX1_spreadFrom_47 : decode cX1_spreadFrom 47 = .ok (.iload 6, 2) := by decide +kernel
theorem dX1_spreadFrom_49 : decode cX1_spreadFrom 49 = .ok (.aload_n 0, 1) := by decide +kernel
theorem dX1_spreadFrom_50 : decode cX1_spreadFrom 50 = .ok (.getfield 15, 3) := by decide +kernel
theorem dX1_spreadFrom_53 : decode cX1_spreadFrom 53 = .ok (.iload 6, 2) := by decide +kernel
theorem dX1_spreadFrom_55 : decode cX1_spreadFrom 55 = .ok (.iaload, 1) := by decide +kernel
theorem dX1_spreadFrom_56 : decode cX1_spreadFrom 56 = .ok (.iconst 1, 1) := by decide +kernel
theorem dX1_spreadFrom_57 : decode cX1_spreadFrom 57 = .ok (.iadd, 1) := by decide +kernel
theorem dX1_spreadFrom_58 : decode cX1_spreadFrom 58 = .ok (.invokevirtual 58, 3) := by decide +kernel
theorem dX1_spreadFrom_61 : decode cX1_spreadFrom 61 = .ok (.aload_n 0, 1) := by decide +kernel
theorem dX1_spreadFrom_62 : decode cX1_spreadFrom 62 = .ok (.aload_n 1, 1) := by decide +kernel
theorem dX1_spreadFrom_63 : decode cX1_spreadFrom 63 = .ok (.iconst 1, 1) := by decide +kernel
theorem dX1_spreadFrom_64 : decode cX1_spreadFrom 64 = .ok (.iload 6, 2) := by decide +kernel
theorem dX1_spreadFrom_66 : decode cX1_spreadFrom 66 = .ok (.aload_n 0, 1) := by decide +kernel
theorem dX1_spreadFrom_67 : decode cX1_spreadFrom 67 = .ok (.getfield 15, 3) := by decide +kernel
theorem dX1_spreadFrom_70 : decode cX1_spreadFrom 70 = .ok (.iload 6, 2) := by decide +kernel
theorem dX1_spreadFrom_72 : decode cX1_spreadFrom 72 = .ok (.iaload, 1) := by decide +kernel
theorem dX1_spreadFrom_73 : decode cX1_spreadFrom 73 = .ok (.iconst 1, 1) := by decide +kernel
theorem dX1_spreadFrom_74 : decode cX1_spreadFrom 74 = .ok (.iadd, 1) := by decide +kernel
theorem dX1_spreadFrom_75 : decode cX1_spreadFrom 75 = .ok (.invokevirtual 58, 3) := by decide +kernel
theorem dX1_spreadFrom_78 : decode cX1_spreadFrom 78 = .ok (.iinc 5 1, 3) := by decide +kernel
theorem dX1_spreadFrom_81 : decode cX1_spreadFrom 81 = .ok (.goto (-63), 3) := by decide +kernel
theorem dX1_spreadFrom_84 : decode cX1_spreadFrom 84 = .ok (.return_, 1) := by decide +kernel
set_option maxRecDepth 20000 in
theorem ggX1_walk_X2_headOf : GoodIn wsX1_walk wsX2_headOf := goodIn_r _ [6, 7, 8, 21, 22, 23, 24, 25] (by decide +kernel) (by decide +kernel)
set_option maxRecDepth 20000 in
theorem gX1_walk_X2_headOf : GoodIn wsX1_walk (wsV RX1 62 RX2 yX2_headOf wsX2_headOf) := goodIn_app (goodIn_of _ (by decide +kernel)) ggX1_walk_X2_headOf
set_option maxRecDepth 20000 in
theorem ggX1_walk_X1_reach : GoodIn wsX1_walk wsX1_reach := goodIn_r _ [13, 14, 15, 16, 17, 18, 19, 20] (by decide +kernel) (by decide +kernel)
set_option maxRecDepth 20000 in
theorem gX1_walk_X1_reach : GoodIn wsX1_walk (wsV RX1 65 RX1 yX1_reach wsX1_reach) := goodIn_app (goodIn_of _ (by decide +kernel)) ggX1_walk_X1_reach
theorem dX1_walk_0 : decode cX1_walk 0 = .ok (.aload_n 0, 1) := by decide +kernel
theorem dX1_walk_1 : decode cX1_walk 1 = .ok (.getfield 20, 3) := by decide +kernel
theorem dX1_walk_4 : decode cX1_walk 4 = .ok (.iload_n 2, 1) := by decide +kernel
theorem dX1_walk_5 : decode cX1_walk 5 = .ok (.aaload, 1) := by decide +kernel
theorem dX1_walk_6 : decode cX1_walk 6 = .ok (.iload_n 3, 1) := by decide +kernel
theorem dX1_walk_7 : decode cX1_walk 7 = .ok (.iaload, 1) := by decide +kernel
theorem dX1_walk_8 : decode cX1_walk 8 = .ok (.iconst 1, 1) := by decide +kernel
theorem dX1_walk_9 : decode cX1_walk 9 = .ok (.if_icmp .ne 4, 3) := by decide +kernel
theorem dX1_walk_12 : decode cX1_walk 12 = .ok (.return_, 1) := by decide +kernel
theorem dX1_walk_13 : decode cX1_walk 13 = .ok (.aload_n 1, 1) := by decide +kernel
theorem dX1_walk_14 : decode cX1_walk 14 = .ok (.iload_n 2, 1) := by decide +kernel
theorem dX1_walk_15 : decode cX1_walk 15 = .ok (.iload_n 3, 1) := by decide +kernel
theorem dX1_walk_16 : decode cX1_walk 16 = .ok (.invokevirtual 62, 3) := by decide +kernel
theorem dX1_walk_19 : decode cX1_walk 19 = .ok (.istore 5, 2) := by decide +kernel
theorem dX1_walk_21 : decode cX1_walk 21 = .ok (.iconst 0, 1) := by decide +kernel
theorem dX1_walk_22 : decode cX1_walk 22 = .ok (.istore 6, 2) := by decide +kernel
theorem dX1_walk_24 : decode cX1_walk 24 = .ok (.iload 6, 2) := by decide +kernel
theorem dX1_walk_26 : decode cX1_walk 26 = .ok (.aload_n 1, 1) := by decide +kernel
theorem dX1_walk_27 : decode cX1_walk 27 = .ok (.getfield 39, 3) := by decide +kernel
theorem dX1_walk_30 : decode cX1_walk 30 = .ok (.if_icmp .ge 44, 3) := by decide +kernel
theorem dX1_walk_33 : decode cX1_walk 33 = .ok (.iload 5, 2) := by decide +kernel
theorem dX1_walk_35 : decode cX1_walk 35 = .ok (.iconst (-1), 1) := by decide +kernel
theorem dX1_walk_36 : decode cX1_walk 36 = .ok (.if_icmp .eq 38, 3) := by decide +kernel
theorem dX1_walk_39 : decode cX1_walk 39 = .ok (.aload_n 0, 1) := by decide +kernel
theorem dX1_walk_40 : decode cX1_walk 40 = .ok (.getfield 20, 3) := by decide +kernel
theorem dX1_walk_43 : decode cX1_walk 43 = .ok (.iload_n 2, 1) := by decide +kernel
theorem dX1_walk_44 : decode cX1_walk 44 = .ok (.aaload, 1) := by decide +kernel
theorem dX1_walk_45 : decode cX1_walk 45 = .ok (.iload 5, 2) := by decide +kernel
theorem dX1_walk_47 : decode cX1_walk 47 = .ok (.iconst 1, 1) := by decide +kernel
theorem dX1_walk_48 : decode cX1_walk 48 = .ok (.iastore, 1) := by decide +kernel
theorem dX1_walk_49 : decode cX1_walk 49 = .ok (.aload_n 0, 1) := by decide +kernel
theorem dX1_walk_50 : decode cX1_walk 50 = .ok (.iload 5, 2) := by decide +kernel
theorem dX1_walk_52 : decode cX1_walk 52 = .ok (.iload 4, 2) := by decide +kernel
theorem dX1_walk_54 : decode cX1_walk 54 = .ok (.invokevirtual 65, 3) := by decide +kernel
theorem dX1_walk_57 : decode cX1_walk 57 = .ok (.aload_n 1, 1) := by decide +kernel
theorem dX1_walk_58 : decode cX1_walk 58 = .ok (.getfield 69, 3) := by decide +kernel
theorem dX1_walk_61 : decode cX1_walk 61 = .ok (.iload_n 2, 1) := by decide +kernel
theorem dX1_walk_62 : decode cX1_walk 62 = .ok (.aaload, 1) := by decide +kernel
theorem dX1_walk_63 : decode cX1_walk 63 = .ok (.iload 5, 2) := by decide +kernel
theorem dX1_walk_65 : decode cX1_walk 65 = .ok (.iaload, 1) := by decide +kernel
theorem dX1_walk_66 : decode cX1_walk 66 = .ok (.istore 5, 2) := by decide +kernel
theorem dX1_walk_68 : decode cX1_walk 68 = .ok (.iinc 6 1, 3) := by decide +kernel
theorem dX1_walk_71 : decode cX1_walk 71 = .ok (.goto (-47), 3) := by decide +kernel
theorem dX1_walk_74 : decode cX1_walk 74 = .ok (.return_, 1) := by decide +kernel
theorem dX1_reach_0 : decode cX1_reach 0 = .ok (.aload_n 0, 1) := by decide +kernel
theorem dX1_reach_1 : decode cX1_reach 1 = .ok (.getfield 15, 3) := by decide +kernel
theorem dX1_reach_4 : decode cX1_reach 4 = .ok (.iload_n 1, 1) := by decide +kernel
theorem dX1_reach_5 : decode cX1_reach 5 = .ok (.iaload, 1) := by decide +kernel
theorem dX1_reach_6 : decode cX1_reach 6 = .ok (.ifCond .ne 30, 3) := by decide +kernel
theorem dX1_reach_9 : decode cX1_reach 9 = .ok (.aload_n 0, 1) := by decide +kernel
theorem dX1_reach_10 : decode cX1_reach 10 = .ok (.getfield 15, 3) := by decide +kernel
theorem dX1_reach_13 : decode cX1_reach 13 = .ok (.iload_n 1, 1) := by decide +kernel
theorem dX1_reach_14 : decode cX1_reach 14 = .ok (.iload_n 2, 1) := by decide +kernel
theorem dX1_reach_15 : decode cX1_reach 15 = .ok (.iastore, 1) := by decide +kernel
theorem dX1_reach_16 : decode cX1_reach 16 = .ok (.aload_n 0, 1) := by decide +kernel
theorem dX1_reach_17 : decode cX1_reach 17 = .ok (.getfield 9, 3) := by decide +kernel
theorem dX1_reach_20 : decode cX1_reach 20 = .ok (.aload_n 0, 1) := by decide +kernel
theorem dX1_reach_21 : decode cX1_reach 21 = .ok (.getfield 27, 3) := by decide +kernel
theorem dX1_reach_24 : decode cX1_reach 24 = .ok (.iload_n 1, 1) := by decide +kernel
theorem dX1_reach_25 : decode cX1_reach 25 = .ok (.iastore, 1) := by decide +kernel
theorem dX1_reach_26 : decode cX1_reach 26 = .ok (.aload_n 0, 1) := by decide +kernel
theorem dX1_reach_27 : decode cX1_reach 27 = .ok (.dup, 1) := by decide +kernel
theorem dX1_reach_28 : decode cX1_reach 28 = .ok (.getfield 27, 3) := by decide +kernel
theorem dX1_reach_31 : decode cX1_reach 31 = .ok (.iconst 1, 1) := by decide +kernel
theorem dX1_reach_32 : decode cX1_reach 32 = .ok (.iadd, 1) := by decide +kernel
theorem dX1_reach_33 : decode cX1_reach 33 = .ok (.putfield 27, 3) := by decide +kernel
theorem dX1_reach_36 : decode cX1_reach 36 = .ok (.return_, 1) := by decide +kernel
theorem dX2_init_0 : decode cX2_init 0 = .ok (.aload_n 0, 1) := by decide +kernel
theorem dX2_init_1 : decode cX2_init 1 = .ok (.invokespecial 3, 3) := by decide +kernel
theorem dX2_init_4 : decode cX2_init 4 = .ok (.aload_n 0, 1) := by decide +kernel
theorem dX2_init_5 : decode cX2_init 5 = .ok (.sipush 300, 3) := by decide +kernel
theorem dX2_init_8 : decode cX2_init 8 = .ok (.newarray .int, 2) := by decide +kernel
theorem dX2_init_10 : decode cX2_init 10 = .ok (.putfield 9, 3) := by decide +kernel
theorem dX2_init_13 : decode cX2_init 13 = .ok (.aload_n 0, 1) := by decide +kernel
theorem dX2_init_14 : decode cX2_init 14 = .ok (.iconst 2, 1) := by decide +kernel
theorem dX2_init_15 : decode cX2_init 15 = .ok (.sipush 300, 3) := by decide +kernel
theorem dX2_init_18 : decode cX2_init 18 = .ok (.multianewarray 15 2, 4) := by decide +kernel
theorem dX2_init_22 : decode cX2_init 22 = .ok (.putfield 17, 3) := by decide +kernel
theorem dX2_init_25 : decode cX2_init 25 = .ok (.aload_n 0, 1) := by decide +kernel
theorem dX2_init_26 : decode cX2_init 26 = .ok (.iconst 2, 1) := by decide +kernel
theorem dX2_init_27 : decode cX2_init 27 = .ok (.sipush 300, 3) := by decide +kernel
theorem dX2_init_30 : decode cX2_init 30 = .ok (.multianewarray 15 2, 4) := by decide +kernel
theorem dX2_init_34 : decode cX2_init 34 = .ok (.putfield 20, 3) := by decide +kernel
theorem dX2_init_37 : decode cX2_init 37 = .ok (.aload_n 0, 1) := by decide +kernel
theorem dX2_init_38 : decode cX2_init 38 = .ok (.iconst 2, 1) := by decide +kernel
theorem dX2_init_39 : decode cX2_init 39 = .ok (.sipush 300, 3) := by decide +kernel
theorem dX2_init_42 : decode cX2_init 42 = .ok (.multianewarray 15 2, 4) := by decide +kernel
theorem dX2_init_46 : decode cX2_init 46 = .ok (.putfield 23, 3) := by decide +kernel
theorem dX2_init_49 : decode cX2_init 49 = .ok (.iconst 0, 1) := by decide +kernel
theorem dX2_init_50 : decode cX2_init 50 = .ok (.istore_n 1, 1) := by decide +kernel
theorem dX2_init_51 : decode cX2_init 51 = .ok (.iload_n 1, 1) := by decide +kernel
theorem dX2_init_52 : decode cX2_init 52 = .ok (.sipush 300, 3) := by decide +kernel
theorem dX2_init_55 : decode cX2_init 55 = .ok (.if_icmp .ge 16, 3) := by decide +kernel
theorem dX2_init_58 : decode cX2_init 58 = .ok (.aload_n 0, 1) := by decide +kernel
theorem dX2_init_59 : decode cX2_init 59 = .ok (.getfield 9, 3) := by decide +kernel
theorem dX2_init_62 : decode cX2_init 62 = .ok (.iload_n 1, 1) := by decide +kernel
theorem dX2_init_63 : decode cX2_init 63 = .ok (.iload_n 1, 1) := by decide +kernel
theorem dX2_init_64 : decode cX2_init 64 = .ok (.iastore, 1) := by decide +kernel
theorem dX2_init_65 : decode cX2_init 65 = .ok (.iinc 1 1, 3) := by decide +kernel
theorem dX2_init_68 : decode cX2_init 68 = .ok (.goto (-17), 3) := by decide +kernel
theorem dX2_init_71 : decode cX2_init 71 = .ok (.return_, 1) := by decide +kernel
theorem dX2_placeOf_0 : decode cX2_placeOf 0 = .ok (.iconst 0, 1) := by decide +kernel
theorem dX2_placeOf_1 : decode cX2_placeOf 1 = .ok (.istore_n 3, 1) := by decide +kernel
theorem dX2_placeOf_2 : decode cX2_placeOf 2 = .ok (.iload_n 3, 1) := by decide +kernel
theorem dX2_placeOf_3 : decode cX2_placeOf 3 = .ok (.aload_n 0, 1) := by decide +kernel
theorem dX2_placeOf_4 : decode cX2_placeOf 4 = .ok (.getfield 26, 3) := by decide +kernel
theorem dX2_placeOf_7 : decode cX2_placeOf 7 = .ok (.if_icmp .ge 45, 3) := by decide +kernel
theorem dX2_placeOf_10 : decode cX2_placeOf 10 = .ok (.aload_n 0, 1) := by decide +kernel
theorem dX2_placeOf_11 : decode cX2_placeOf 11 = .ok (.getfield 9, 3) := by decide +kernel
theorem dX2_placeOf_14 : decode cX2_placeOf 14 = .ok (.iload_n 3, 1) := by decide +kernel
theorem dX2_placeOf_15 : decode cX2_placeOf 15 = .ok (.iaload, 1) := by decide +kernel
theorem dX2_placeOf_16 : decode cX2_placeOf 16 = .ok (.istore 4, 2) := by decide +kernel
theorem dX2_placeOf_18 : decode cX2_placeOf 18 = .ok (.aload_n 0, 1) := by decide +kernel
theorem dX2_placeOf_19 : decode cX2_placeOf 19 = .ok (.getfield 17, 3) := by decide +kernel
theorem dX2_placeOf_22 : decode cX2_placeOf 22 = .ok (.iconst 0, 1) := by decide +kernel
theorem dX2_placeOf_23 : decode cX2_placeOf 23 = .ok (.aaload, 1) := by decide +kernel
theorem dX2_placeOf_24 : decode cX2_placeOf 24 = .ok (.iload 4, 2) := by decide +kernel
theorem dX2_placeOf_26 : decode cX2_placeOf 26 = .ok (.iaload, 1) := by decide +kernel
theorem dX2_placeOf_27 : decode cX2_placeOf 27 = .ok (.iload_n 1, 1) := by decide +kernel
theorem dX2_placeOf_28 : decode cX2_placeOf 28 = .ok (.if_icmp .ne 18, 3) := by decide +kernel
theorem dX2_placeOf_31 : decode cX2_placeOf 31 = .ok (.aload_n 0, 1) := by decide +kernel
theorem dX2_placeOf_32 : decode cX2_placeOf 32 = .ok (.getfield 17, 3) := by decide +kernel
theorem dX2_placeOf_35 : decode cX2_placeOf 35 = .ok (.iconst 1, 1) := by decide +kernel
theorem dX2_placeOf_36 : decode cX2_placeOf 36 = .ok (.aaload, 1) := by decide +kernel
theorem dX2_placeOf_37 : decode cX2_placeOf 37 = .ok (.iload 4, 2) := by decide +kernel
theorem dX2_placeOf_39 : decode cX2_placeOf 39 = .ok (.iaload, 1) := by decide +kernel
theorem dX2_placeOf_40 : decode cX2_placeOf 40 = .ok (.iload_n 2, 1) := by decide +kernel
theorem dX2_placeOf_41 : decode cX2_placeOf 41 = .ok (.if_icmp .ne 5, 3) := by decide +kernel
theorem dX2_placeOf_44 : decode cX2_placeOf 44 = .ok (.iload_n 3, 1) := by decide +kernel
theorem dX2_placeOf_45 : decode cX2_placeOf 45 = .ok (.ireturn, 1) := by decide +kernel
theorem dX2_placeOf_46 : decode cX2_placeOf 46 = .ok (.iinc 3 1, 3) := by decide +kernel
theorem dX2_placeOf_49 : decode cX2_placeOf 49 = .ok (.goto (-47), 3) := by decide +kernel
theorem dX2_placeOf_52 : decode cX2_placeOf 52 = .ok (.iconst (-1), 1) := by decide +kernel
theorem dX2_placeOf_53 : decode cX2_placeOf 53 = .ok (.ireturn, 1) := by decide +kernel
theorem dX2_firstOf_0 : decode cX2_firstOf 0 = .ok (.iconst 0, 1) := by decide +kernel
theorem dX2_firstOf_1 : decode cX2_firstOf 1 = .ok (.istore_n 3, 1) := by decide +kernel
theorem dX2_firstOf_2 : decode cX2_firstOf 2 = .ok (.iload_n 3, 1) := by decide +kernel
theorem dX2_firstOf_3 : decode cX2_firstOf 3 = .ok (.aload_n 0, 1) := by decide +kernel
theorem dX2_firstOf_4 : decode cX2_firstOf 4 = .ok (.getfield 26, 3) := by decide +kernel
theorem dX2_firstOf_7 : decode cX2_firstOf 7 = .ok (.if_icmp .ge 33, 3) := by decide +kernel
theorem dX2_firstOf_10 : decode cX2_firstOf 10 = .ok (.aload_n 0, 1) := by decide +kernel
theorem dX2_firstOf_11 : decode cX2_firstOf 11 = .ok (.getfield 17, 3) := by decide +kernel
theorem dX2_firstOf_14 : decode cX2_firstOf 14 = .ok (.iload_n 1, 1) := by decide +kernel
theorem dX2_firstOf_15 : decode cX2_firstOf 15 = .ok (.aaload, 1) := by decide +kernel
theorem dX2_firstOf_16 : decode cX2_firstOf 16 = .ok (.aload_n 0, 1) := by decide +kernel
theorem dX2_firstOf_17 : decode cX2_firstOf 17 = .ok (.getfield 9, 3) := by decide +kernel
theorem dX2_firstOf_20 : decode cX2_firstOf 20 = .ok (.iload_n 3, 1) := by decide +kernel
theorem dX2_firstOf_21 : decode cX2_firstOf 21 = .ok (.iaload, 1) := by decide +kernel
theorem dX2_firstOf_22 : decode cX2_firstOf 22 = .ok (.iaload, 1) := by decide +kernel
theorem dX2_firstOf_23 : decode cX2_firstOf 23 = .ok (.iload_n 2, 1) := by decide +kernel
theorem dX2_firstOf_24 : decode cX2_firstOf 24 = .ok (.if_icmp .ne 10, 3) := by decide +kernel
theorem dX2_firstOf_27 : decode cX2_firstOf 27 = .ok (.aload_n 0, 1) := by decide +kernel
theorem dX2_firstOf_28 : decode cX2_firstOf 28 = .ok (.getfield 9, 3) := by decide +kernel
theorem dX2_firstOf_31 : decode cX2_firstOf 31 = .ok (.iload_n 3, 1) := by decide +kernel
theorem dX2_firstOf_32 : decode cX2_firstOf 32 = .ok (.iaload, 1) := by decide +kernel
theorem dX2_firstOf_33 : decode cX2_firstOf 33 = .ok (.ireturn, 1) := by decide +kernel
theorem dX2_firstOf_34 : decode cX2_firstOf 34 = .ok (.iinc 3 1, 3) := by decide +kernel
theorem dX2_firstOf_37 : decode cX2_firstOf 37 = .ok (.goto (-35), 3) := by decide +kernel
theorem dX2_firstOf_40 : decode cX2_firstOf 40 = .ok (.iconst (-1), 1) := by decide +kernel
theorem dX2_firstOf_41 : decode cX2_firstOf 41 = .ok (.ireturn, 1) := by decide +kernel
theorem dX2_lastOf_0 : decode cX2_lastOf 0 = .ok (.aload_n 0, 1) := by decide +kernel
theorem dX2_lastOf_1 : decode cX2_lastOf 1 = .ok (.getfield 26, 3) := by decide +kernel
theorem dX2_lastOf_4 : decode cX2_lastOf 4 = .ok (.iconst 1, 1) := by decide +kernel
theorem dX2_lastOf_5 : decode cX2_lastOf 5 = .ok (.isub, 1) := by decide +kernel
theorem dX2_lastOf_6 : decode cX2_lastOf 6 = .ok (.istore_n 3, 1) := by decide +kernel
theorem dX2_lastOf_7 : decode cX2_lastOf 7 = .ok (.iload_n 3, 1) := by decide +kernel
theorem dX2_lastOf_8 : decode cX2_lastOf 8 = .ok (.ifCond .lt 33, 3) := by decide +kernel
theorem dX2_lastOf_11 : decode cX2_lastOf 11 = .ok (.aload_n 0, 1) := by decide +kernel
theorem dX2_lastOf_12 : decode cX2_lastOf 12 = .ok (.getfield 17, 3) := by decide +kernel
theorem dX2_lastOf_15 : decode cX2_lastOf 15 = .ok (.iload_n 1, 1) := by decide +kernel
theorem dX2_lastOf_16 : decode cX2_lastOf 16 = .ok (.aaload, 1) := by decide +kernel
theorem dX2_lastOf_17 : decode cX2_lastOf 17 = .ok (.aload_n 0, 1) := by decide +kernel
theorem dX2_lastOf_18 : decode cX2_lastOf 18 = .ok (.getfield 9, 3) := by decide +kernel
theorem dX2_lastOf_21 : decode cX2_lastOf 21 = .ok (.iload_n 3, 1) := by decide +kernel
theorem dX2_lastOf_22 : decode cX2_lastOf 22 = .ok (.iaload, 1) := by decide +kernel
theorem dX2_lastOf_23 : decode cX2_lastOf 23 = .ok (.iaload, 1) := by decide +kernel
theorem dX2_lastOf_24 : decode cX2_lastOf 24 = .ok (.iload_n 2, 1) := by decide +kernel
theorem dX2_lastOf_25 : decode cX2_lastOf 25 = .ok (.if_icmp .ne 10, 3) := by decide +kernel
theorem dX2_lastOf_28 : decode cX2_lastOf 28 = .ok (.aload_n 0, 1) := by decide +kernel
theorem dX2_lastOf_29 : decode cX2_lastOf 29 = .ok (.getfield 9, 3) := by decide +kernel
theorem dX2_lastOf_32 : decode cX2_lastOf 32 = .ok (.iload_n 3, 1) := by decide +kernel
theorem dX2_lastOf_33 : decode cX2_lastOf 33 = .ok (.iaload, 1) := by decide +kernel
theorem dX2_lastOf_34 : decode cX2_lastOf 34 = .ok (.ireturn, 1) := by decide +kernel
theorem dX2_lastOf_35 : decode cX2_lastOf 35 = .ok (.iinc 3 (-1), 3) := by decide +kernel
theorem dX2_lastOf_38 : decode cX2_lastOf 38 = .ok (.goto (-31), 3) := by decide +kernel
theorem dX2_lastOf_41 : decode cX2_lastOf 41 = .ok (.iconst (-1), 1) := by decide +kernel
theorem dX2_lastOf_42 : decode cX2_lastOf 42 = .ok (.ireturn, 1) := by decide +kernel
theorem dX2_headOf_0 : decode cX2_headOf 0 = .ok (.iload_n 2, 1) := by decide +kernel
theorem dX2_headOf_1 : decode cX2_headOf 1 = .ok (.istore_n 3, 1) := by decide +kernel
theorem dX2_headOf_2 : decode cX2_headOf 2 = .ok (.iconst 0, 1) := by decide +kernel
theorem dX2_headOf_3 : decode cX2_headOf 3 = .ok (.istore 4, 2) := by decide +kernel
theorem dX2_headOf_5 : decode cX2_headOf 5 = .ok (.iload 4, 2) := by decide +kernel
theorem dX2_headOf_7 : decode cX2_headOf 7 = .ok (.aload_n 0, 1) := by decide +kernel
theorem dX2_headOf_8 : decode cX2_headOf 8 = .ok (.getfield 26, 3) := by decide +kernel
theorem dX2_headOf_11 : decode cX2_headOf 11 = .ok (.if_icmp .ge 30, 3) := by decide +kernel
theorem dX2_headOf_14 : decode cX2_headOf 14 = .ok (.aload_n 0, 1) := by decide +kernel
theorem dX2_headOf_15 : decode cX2_headOf 15 = .ok (.getfield 20, 3) := by decide +kernel
theorem dX2_headOf_18 : decode cX2_headOf 18 = .ok (.iload_n 1, 1) := by decide +kernel
theorem dX2_headOf_19 : decode cX2_headOf 19 = .ok (.aaload, 1) := by decide +kernel
theorem dX2_headOf_20 : decode cX2_headOf 20 = .ok (.iload_n 3, 1) := by decide +kernel
theorem dX2_headOf_21 : decode cX2_headOf 21 = .ok (.iaload, 1) := by decide +kernel
theorem dX2_headOf_22 : decode cX2_headOf 22 = .ok (.iconst (-1), 1) := by decide +kernel
theorem dX2_headOf_23 : decode cX2_headOf 23 = .ok (.if_icmp .eq 18, 3) := by decide +kernel
theorem dX2_headOf_26 : decode cX2_headOf 26 = .ok (.aload_n 0, 1) := by decide +kernel
theorem dX2_headOf_27 : decode cX2_headOf 27 = .ok (.getfield 20, 3) := by decide +kernel
theorem dX2_headOf_30 : decode cX2_headOf 30 = .ok (.iload_n 1, 1) := by decide +kernel
theorem dX2_headOf_31 : decode cX2_headOf 31 = .ok (.aaload, 1) := by decide +kernel
theorem dX2_headOf_32 : decode cX2_headOf 32 = .ok (.iload_n 3, 1) := by decide +kernel
theorem dX2_headOf_33 : decode cX2_headOf 33 = .ok (.iaload, 1) := by decide +kernel
theorem dX2_headOf_34 : decode cX2_headOf 34 = .ok (.istore_n 3, 1) := by decide +kernel
theorem dX2_headOf_35 : decode cX2_headOf 35 = .ok (.iinc 4 1, 3) := by decide +kernel
theorem dX2_headOf_38 : decode cX2_headOf 38 = .ok (.goto (-33), 3) := by decide +kernel
theorem dX2_headOf_41 : decode cX2_headOf 41 = .ok (.iload_n 3, 1) := by decide +kernel
theorem dX2_headOf_42 : decode cX2_headOf 42 = .ok (.ireturn, 1) := by decide +kernel
set_option maxRecDepth 20000 in
theorem ggX2_lengthOf_X2_firstOf : GoodIn wsX2_lengthOf wsX2_firstOf := goodIn_r _ [7, 1, 8, 9, 10, 11, 12, 13, 14] (by decide +kernel) (by decide +kernel)
set_option maxRecDepth 20000 in
theorem gX2_lengthOf_X2_firstOf : GoodIn wsX2_lengthOf (wsV RX2 30 RX2 yX2_firstOf wsX2_firstOf) := goodIn_app (goodIn_of _ (by decide +kernel)) ggX2_lengthOf_X2_firstOf
theorem dX2_lengthOf_0 : decode cX2_lengthOf 0 = .ok (.iconst 0, 1) := by decide +kernel
theorem dX2_lengthOf_1 : decode cX2_lengthOf 1 = .ok (.istore_n 3, 1) := by decide +kernel
theorem dX2_lengthOf_2 : decode cX2_lengthOf 2 = .ok (.aload_n 0, 1) := by decide +kernel
theorem dX2_lengthOf_3 : decode cX2_lengthOf 3 = .ok (.iload_n 1, 1) := by decide +kernel
theorem dX2_lengthOf_4 : decode cX2_lengthOf 4 = .ok (.iload_n 2, 1) := by decide +kernel
theorem dX2_lengthOf_5 : decode cX2_lengthOf 5 = .ok (.invokevirtual 30, 3) := by decide +kernel
theorem dX2_lengthOf_8 : decode cX2_lengthOf 8 = .ok (.istore 4, 2) := by decide +kernel
theorem dX2_lengthOf_10 : decode cX2_lengthOf 10 = .ok (.iconst 0, 1) := by decide +kernel
theorem dX2_lengthOf_11 : decode cX2_lengthOf 11 = .ok (.istore 5, 2) := by decide +kernel
theorem dX2_lengthOf_13 : decode cX2_lengthOf 13 = .ok (.iload 5, 2) := by decide +kernel
theorem dX2_lengthOf_15 : decode cX2_lengthOf 15 = .ok (.aload_n 0, 1) := by decide +kernel
theorem dX2_lengthOf_16 : decode cX2_lengthOf 16 = .ok (.getfield 26, 3) := by decide +kernel
theorem dX2_lengthOf_19 : decode cX2_lengthOf 19 = .ok (.if_icmp .ge 29, 3) := by decide +kernel
theorem dX2_lengthOf_22 : decode cX2_lengthOf 22 = .ok (.iload 4, 2) := by decide +kernel
theorem dX2_lengthOf_24 : decode cX2_lengthOf 24 = .ok (.iconst (-1), 1) := by decide +kernel
theorem dX2_lengthOf_25 : decode cX2_lengthOf 25 = .ok (.if_icmp .eq 23, 3) := by decide +kernel
theorem dX2_lengthOf_28 : decode cX2_lengthOf 28 = .ok (.iinc 3 1, 3) := by decide +kernel
theorem dX2_lengthOf_31 : decode cX2_lengthOf 31 = .ok (.aload_n 0, 1) := by decide +kernel
theorem dX2_lengthOf_32 : decode cX2_lengthOf 32 = .ok (.getfield 23, 3) := by decide +kernel
theorem dX2_lengthOf_35 : decode cX2_lengthOf 35 = .ok (.iload_n 1, 1) := by decide +kernel
theorem dX2_lengthOf_36 : decode cX2_lengthOf 36 = .ok (.aaload, 1) := by decide +kernel
theorem dX2_lengthOf_37 : decode cX2_lengthOf 37 = .ok (.iload 4, 2) := by decide +kernel
theorem dX2_lengthOf_39 : decode cX2_lengthOf 39 = .ok (.iaload, 1) := by decide +kernel
theorem dX2_lengthOf_40 : decode cX2_lengthOf 40 = .ok (.istore 4, 2) := by decide +kernel
theorem dX2_lengthOf_42 : decode cX2_lengthOf 42 = .ok (.iinc 5 1, 3) := by decide +kernel
theorem dX2_lengthOf_45 : decode cX2_lengthOf 45 = .ok (.goto (-32), 3) := by decide +kernel
theorem dX2_lengthOf_48 : decode cX2_lengthOf 48 = .ok (.iload_n 3, 1) := by decide +kernel
theorem dX2_lengthOf_49 : decode cX2_lengthOf 49 = .ok (.ireturn, 1) := by decide +kernel
set_option maxRecDepth 20000 in
theorem ggX2_inThread_X2_firstOf : GoodIn wsX2_inThread wsX2_firstOf := goodIn_r _ [7, 1, 8, 9, 10, 11, 12, 13, 14] (by decide +kernel) (by decide +kernel)
set_option maxRecDepth 20000 in
theorem gX2_inThread_X2_firstOf : GoodIn wsX2_inThread (wsV RX2 30 RX2 yX2_firstOf wsX2_firstOf) := goodIn_app (goodIn_of _ (by decide +kernel)) ggX2_inThread_X2_firstOf
theorem dX2_inThread_0 : decode cX2_inThread 0 = .ok (.iload_n 3, 1) := by decide +kernel
theorem dX2_inThread_1 : decode cX2_inThread 1 = .ok (.ifCond .lt 11, 3) := by decide +kernel
theorem dX2_inThread_4 : decode cX2_inThread 4 = .ok (.iload_n 3, 1) := by decide +kernel
theorem dX2_inThread_5 : decode cX2_inThread 5 = .ok (.aload_n 0, 1) := by decide +kernel
theorem dX2_inThread_6 : decode cX2_inThread 6 = .ok (.getfield 26, 3) := by decide +kernel
theorem dX2_inThread_9 : decode cX2_inThread 9 = .ok (.if_icmp .lt 5, 3) := by decide +kernel
theorem dX2_inThread_12 : decode cX2_inThread 12 = .ok (.iconst (-1), 1) := by decide +kernel
theorem dX2_inThread_13 : decode cX2_inThread 13 = .ok (.ireturn, 1) := by decide +kernel
theorem dX2_inThread_14 : decode cX2_inThread 14 = .ok (.aload_n 0, 1) := by decide +kernel
theorem dX2_inThread_15 : decode cX2_inThread 15 = .ok (.iload_n 1, 1) := by decide +kernel
theorem dX2_inThread_16 : decode cX2_inThread 16 = .ok (.iload_n 2, 1) := by decide +kernel
theorem dX2_inThread_17 : decode cX2_inThread 17 = .ok (.invokevirtual 30, 3) := by decide +kernel
theorem dX2_inThread_20 : decode cX2_inThread 20 = .ok (.istore 4, 2) := by decide +kernel
theorem dX2_inThread_22 : decode cX2_inThread 22 = .ok (.iconst 0, 1) := by decide +kernel
theorem dX2_inThread_23 : decode cX2_inThread 23 = .ok (.istore 5, 2) := by decide +kernel
theorem dX2_inThread_25 : decode cX2_inThread 25 = .ok (.iload 5, 2) := by decide +kernel
theorem dX2_inThread_27 : decode cX2_inThread 27 = .ok (.iload_n 3, 1) := by decide +kernel
theorem dX2_inThread_28 : decode cX2_inThread 28 = .ok (.if_icmp .ge 26, 3) := by decide +kernel
theorem dX2_inThread_31 : decode cX2_inThread 31 = .ok (.iload 4, 2) := by decide +kernel
theorem dX2_inThread_33 : decode cX2_inThread 33 = .ok (.iconst (-1), 1) := by decide +kernel
theorem dX2_inThread_34 : decode cX2_inThread 34 = .ok (.if_icmp .eq 20, 3) := by decide +kernel
theorem dX2_inThread_37 : decode cX2_inThread 37 = .ok (.aload_n 0, 1) := by decide +kernel
theorem dX2_inThread_38 : decode cX2_inThread 38 = .ok (.getfield 23, 3) := by decide +kernel
theorem dX2_inThread_41 : decode cX2_inThread 41 = .ok (.iload_n 1, 1) := by decide +kernel
theorem dX2_inThread_42 : decode cX2_inThread 42 = .ok (.aaload, 1) := by decide +kernel
theorem dX2_inThread_43 : decode cX2_inThread 43 = .ok (.iload 4, 2) := by decide +kernel
theorem dX2_inThread_45 : decode cX2_inThread 45 = .ok (.iaload, 1) := by decide +kernel
theorem dX2_inThread_46 : decode cX2_inThread 46 = .ok (.istore 4, 2) := by decide +kernel
theorem dX2_inThread_48 : decode cX2_inThread 48 = .ok (.iinc 5 1, 3) := by decide +kernel
theorem dX2_inThread_51 : decode cX2_inThread 51 = .ok (.goto (-26), 3) := by decide +kernel
theorem dX2_inThread_54 : decode cX2_inThread 54 = .ok (.iload 4, 2) := by decide +kernel
theorem dX2_inThread_56 : decode cX2_inThread 56 = .ok (.ireturn, 1) := by decide +kernel
theorem dX2_threadsOn_0 : decode cX2_threadsOn 0 = .ok (.iconst 0, 1) := by decide +kernel
theorem dX2_threadsOn_1 : decode cX2_threadsOn 1 = .ok (.istore_n 2, 1) := by decide +kernel
theorem dX2_threadsOn_2 : decode cX2_threadsOn 2 = .ok (.iconst 0, 1) := by decide +kernel
theorem dX2_threadsOn_3 : decode cX2_threadsOn 3 = .ok (.istore_n 3, 1) := by decide +kernel
theorem dX2_threadsOn_4 : decode cX2_threadsOn 4 = .ok (.iload_n 3, 1) := by decide +kernel
theorem dX2_threadsOn_5 : decode cX2_threadsOn 5 = .ok (.aload_n 0, 1) := by decide +kernel
theorem dX2_threadsOn_6 : decode cX2_threadsOn 6 = .ok (.getfield 26, 3) := by decide +kernel
theorem dX2_threadsOn_9 : decode cX2_threadsOn 9 = .ok (.if_icmp .ge 29, 3) := by decide +kernel
theorem dX2_threadsOn_12 : decode cX2_threadsOn 12 = .ok (.aload_n 0, 1) := by decide +kernel
theorem dX2_threadsOn_13 : decode cX2_threadsOn 13 = .ok (.getfield 20, 3) := by decide +kernel
theorem dX2_threadsOn_16 : decode cX2_threadsOn 16 = .ok (.iload_n 1, 1) := by decide +kernel
theorem dX2_threadsOn_17 : decode cX2_threadsOn 17 = .ok (.aaload, 1) := by decide +kernel
theorem dX2_threadsOn_18 : decode cX2_threadsOn 18 = .ok (.aload_n 0, 1) := by decide +kernel
theorem dX2_threadsOn_19 : decode cX2_threadsOn 19 = .ok (.getfield 9, 3) := by decide +kernel
theorem dX2_threadsOn_22 : decode cX2_threadsOn 22 = .ok (.iload_n 3, 1) := by decide +kernel
theorem dX2_threadsOn_23 : decode cX2_threadsOn 23 = .ok (.iaload, 1) := by decide +kernel
theorem dX2_threadsOn_24 : decode cX2_threadsOn 24 = .ok (.iaload, 1) := by decide +kernel
theorem dX2_threadsOn_25 : decode cX2_threadsOn 25 = .ok (.iconst (-1), 1) := by decide +kernel
theorem dX2_threadsOn_26 : decode cX2_threadsOn 26 = .ok (.if_icmp .ne 6, 3) := by decide +kernel
theorem dX2_threadsOn_29 : decode cX2_threadsOn 29 = .ok (.iinc 2 1, 3) := by decide +kernel
theorem dX2_threadsOn_32 : decode cX2_threadsOn 32 = .ok (.iinc 3 1, 3) := by decide +kernel
theorem dX2_threadsOn_35 : decode cX2_threadsOn 35 = .ok (.goto (-31), 3) := by decide +kernel
theorem dX2_threadsOn_38 : decode cX2_threadsOn 38 = .ok (.iload_n 2, 1) := by decide +kernel
theorem dX2_threadsOn_39 : decode cX2_threadsOn 39 = .ok (.ireturn, 1) := by decide +kernel
set_option maxRecDepth 20000 in
theorem ggX2_append_X2_tieOn : GoodIn wsX2_append wsX2_tieOn := goodIn_r _ [7, 8, 9, 10, 11, 12, 13, 6, 14, 2, 1, 15, 16, 17, 18, 19] (by decide +kernel) (by decide +kernel)
set_option maxRecDepth 20000 in
theorem gX2_append_X2_tieOn : GoodIn wsX2_append (wsV RX2 34 RX2 yX2_tieOn wsX2_tieOn) := goodIn_app (goodIn_of _ (by decide +kernel)) ggX2_append_X2_tieOn
theorem dX2_append_0 : decode cX2_append 0 = .ok (.aload_n 0, 1) := by decide +kernel
theorem dX2_append_1 : decode cX2_append 1 = .ok (.getfield 9, 3) := by decide +kernel
theorem dX2_append_4 : decode cX2_append 4 = .ok (.aload_n 0, 1) := by decide +kernel
theorem dX2_append_5 : decode cX2_append 5 = .ok (.getfield 26, 3) := by decide +kernel
theorem dX2_append_8 : decode cX2_append 8 = .ok (.iaload, 1) := by decide +kernel
theorem dX2_append_9 : decode cX2_append 9 = .ok (.istore_n 3, 1) := by decide +kernel
theorem dX2_append_10 : decode cX2_append 10 = .ok (.aload_n 0, 1) := by decide +kernel
theorem dX2_append_11 : decode cX2_append 11 = .ok (.iconst 0, 1) := by decide +kernel
theorem dX2_append_12 : decode cX2_append 12 = .ok (.iload_n 3, 1) := by decide +kernel
theorem dX2_append_13 : decode cX2_append 13 = .ok (.iload_n 1, 1) := by decide +kernel
theorem dX2_append_14 : decode cX2_append 14 = .ok (.invokevirtual 34, 3) := by decide +kernel
theorem dX2_append_17 : decode cX2_append 17 = .ok (.aload_n 0, 1) := by decide +kernel
theorem dX2_append_18 : decode cX2_append 18 = .ok (.iconst 1, 1) := by decide +kernel
theorem dX2_append_19 : decode cX2_append 19 = .ok (.iload_n 3, 1) := by decide +kernel
theorem dX2_append_20 : decode cX2_append 20 = .ok (.iload_n 2, 1) := by decide +kernel
theorem dX2_append_21 : decode cX2_append 21 = .ok (.invokevirtual 34, 3) := by decide +kernel
theorem dX2_append_24 : decode cX2_append 24 = .ok (.aload_n 0, 1) := by decide +kernel
theorem dX2_append_25 : decode cX2_append 25 = .ok (.dup, 1) := by decide +kernel
theorem dX2_append_26 : decode cX2_append 26 = .ok (.getfield 26, 3) := by decide +kernel
theorem dX2_append_29 : decode cX2_append 29 = .ok (.iconst 1, 1) := by decide +kernel
theorem dX2_append_30 : decode cX2_append 30 = .ok (.iadd, 1) := by decide +kernel
theorem dX2_append_31 : decode cX2_append 31 = .ok (.putfield 26, 3) := by decide +kernel
theorem dX2_append_34 : decode cX2_append 34 = .ok (.return_, 1) := by decide +kernel
set_option maxRecDepth 20000 in
theorem ggX2_tieOn_X2_lastOf : GoodIn wsX2_tieOn wsX2_lastOf := goodIn_r _ [8, 9, 1, 10, 11, 12, 13, 14, 15] (by decide +kernel) (by decide +kernel)
set_option maxRecDepth 20000 in
theorem gX2_tieOn_X2_lastOf : GoodIn wsX2_tieOn (wsV RX2 38 RX2 yX2_lastOf wsX2_lastOf) := goodIn_app (goodIn_of _ (by decide +kernel)) ggX2_tieOn_X2_lastOf
theorem dX2_tieOn_0 : decode cX2_tieOn 0 = .ok (.aload_n 0, 1) := by decide +kernel
theorem dX2_tieOn_1 : decode cX2_tieOn 1 = .ok (.iload_n 1, 1) := by decide +kernel
theorem dX2_tieOn_2 : decode cX2_tieOn 2 = .ok (.iload_n 3, 1) := by decide +kernel
theorem dX2_tieOn_3 : decode cX2_tieOn 3 = .ok (.invokevirtual 38, 3) := by decide +kernel
theorem dX2_tieOn_6 : decode cX2_tieOn 6 = .ok (.istore 4, 2) := by decide +kernel
theorem dX2_tieOn_8 : decode cX2_tieOn 8 = .ok (.aload_n 0, 1) := by decide +kernel
theorem dX2_tieOn_9 : decode cX2_tieOn 9 = .ok (.getfield 17, 3) := by decide +kernel
theorem dX2_tieOn_12 : decode cX2_tieOn 12 = .ok (.iload_n 1, 1) := by decide +kernel
theorem dX2_tieOn_13 : decode cX2_tieOn 13 = .ok (.aaload, 1) := by decide +kernel
theorem dX2_tieOn_14 : decode cX2_tieOn 14 = .ok (.iload_n 2, 1) := by decide +kernel
theorem dX2_tieOn_15 : decode cX2_tieOn 15 = .ok (.iload_n 3, 1) := by decide +kernel
theorem dX2_tieOn_16 : decode cX2_tieOn 16 = .ok (.iastore, 1) := by decide +kernel
theorem dX2_tieOn_17 : decode cX2_tieOn 17 = .ok (.aload_n 0, 1) := by decide +kernel
theorem dX2_tieOn_18 : decode cX2_tieOn 18 = .ok (.getfield 20, 3) := by decide +kernel
theorem dX2_tieOn_21 : decode cX2_tieOn 21 = .ok (.iload_n 1, 1) := by decide +kernel
theorem dX2_tieOn_22 : decode cX2_tieOn 22 = .ok (.aaload, 1) := by decide +kernel
theorem dX2_tieOn_23 : decode cX2_tieOn 23 = .ok (.iload_n 2, 1) := by decide +kernel
theorem dX2_tieOn_24 : decode cX2_tieOn 24 = .ok (.iload 4, 2) := by decide +kernel
theorem dX2_tieOn_26 : decode cX2_tieOn 26 = .ok (.iastore, 1) := by decide +kernel
theorem dX2_tieOn_27 : decode cX2_tieOn 27 = .ok (.aload_n 0, 1) := by decide +kernel
theorem dX2_tieOn_28 : decode cX2_tieOn 28 = .ok (.getfield 23, 3) := by decide +kernel
theorem dX2_tieOn_31 : decode cX2_tieOn 31 = .ok (.iload_n 1, 1) := by decide +kernel
theorem dX2_tieOn_32 : decode cX2_tieOn 32 = .ok (.aaload, 1) := by decide +kernel
theorem dX2_tieOn_33 : decode cX2_tieOn 33 = .ok (.iload_n 2, 1) := by decide +kernel
theorem dX2_tieOn_34 : decode cX2_tieOn 34 = .ok (.iconst (-1), 1) := by decide +kernel
theorem dX2_tieOn_35 : decode cX2_tieOn 35 = .ok (.iastore, 1) := by decide +kernel
theorem dX2_tieOn_36 : decode cX2_tieOn 36 = .ok (.iload 4, 2) := by decide +kernel
theorem dX2_tieOn_38 : decode cX2_tieOn 38 = .ok (.iconst (-1), 1) := by decide +kernel
theorem dX2_tieOn_39 : decode cX2_tieOn 39 = .ok (.if_icmp .eq 13, 3) := by decide +kernel
theorem dX2_tieOn_42 : decode cX2_tieOn 42 = .ok (.aload_n 0, 1) := by decide +kernel
theorem dX2_tieOn_43 : decode cX2_tieOn 43 = .ok (.getfield 23, 3) := by decide +kernel
theorem dX2_tieOn_46 : decode cX2_tieOn 46 = .ok (.iload_n 1, 1) := by decide +kernel
theorem dX2_tieOn_47 : decode cX2_tieOn 47 = .ok (.aaload, 1) := by decide +kernel
theorem dX2_tieOn_48 : decode cX2_tieOn 48 = .ok (.iload 4, 2) := by decide +kernel
theorem dX2_tieOn_50 : decode cX2_tieOn 50 = .ok (.iload_n 2, 1) := by decide +kernel
theorem dX2_tieOn_51 : decode cX2_tieOn 51 = .ok (.iastore, 1) := by decide +kernel
theorem dX2_tieOn_52 : decode cX2_tieOn 52 = .ok (.return_, 1) := by decide +kernel

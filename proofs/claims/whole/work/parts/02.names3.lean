theorem dX4_find_0 : decode cX4_find 0 = .ok (.iconst (-1), 1) := by decide +kernel
theorem dX4_find_1 : decode cX4_find 1 = .ok (.istore_n 3, 1) := by decide +kernel
theorem dX4_find_2 : decode cX4_find 2 = .ok (.iconst 0, 1) := by decide +kernel
theorem dX4_find_3 : decode cX4_find 3 = .ok (.istore 4, 2) := by decide +kernel
theorem dX4_find_5 : decode cX4_find 5 = .ok (.iload 4, 2) := by decide +kernel
theorem dX4_find_7 : decode cX4_find 7 = .ok (.aload_n 0, 1) := by decide +kernel
theorem dX4_find_8 : decode cX4_find 8 = .ok (.getfield 47, 3) := by decide +kernel
theorem dX4_find_11 : decode cX4_find 11 = .ok (.if_icmp .ge 38, 3) := by decide +kernel
theorem dX4_find_14 : decode cX4_find 14 = .ok (.aload_n 0, 1) := by decide +kernel
theorem dX4_find_15 : decode cX4_find 15 = .ok (.getfield 7, 3) := by decide +kernel
theorem dX4_find_18 : decode cX4_find 18 = .ok (.iload 4, 2) := by decide +kernel
theorem dX4_find_20 : decode cX4_find 20 = .ok (.iaload, 1) := by decide +kernel
theorem dX4_find_21 : decode cX4_find 21 = .ok (.iload_n 1, 1) := by decide +kernel
theorem dX4_find_22 : decode cX4_find 22 = .ok (.if_icmp .ne 19, 3) := by decide +kernel
theorem dX4_find_25 : decode cX4_find 25 = .ok (.aload_n 0, 1) := by decide +kernel
theorem dX4_find_26 : decode cX4_find 26 = .ok (.getfield 13, 3) := by decide +kernel
theorem dX4_find_29 : decode cX4_find 29 = .ok (.iload 4, 2) := by decide +kernel
theorem dX4_find_31 : decode cX4_find 31 = .ok (.iaload, 1) := by decide +kernel
theorem dX4_find_32 : decode cX4_find 32 = .ok (.iload_n 2, 1) := by decide +kernel
theorem dX4_find_33 : decode cX4_find 33 = .ok (.if_icmp .ne 8, 3) := by decide +kernel
theorem dX4_find_36 : decode cX4_find 36 = .ok (.iload 4, 2) := by decide +kernel
theorem dX4_find_38 : decode cX4_find 38 = .ok (.goto 4, 3) := by decide +kernel
theorem dX4_find_41 : decode cX4_find 41 = .ok (.iload_n 3, 1) := by decide +kernel
theorem dX4_find_42 : decode cX4_find 42 = .ok (.istore_n 3, 1) := by decide +kernel
theorem dX4_find_43 : decode cX4_find 43 = .ok (.iinc 4 1, 3) := by decide +kernel
theorem dX4_find_46 : decode cX4_find 46 = .ok (.goto (-41), 3) := by decide +kernel
theorem dX4_find_49 : decode cX4_find 49 = .ok (.iload_n 3, 1) := by decide +kernel
theorem dX4_find_50 : decode cX4_find 50 = .ok (.ireturn, 1) := by decide +kernel
theorem dX4_isSide_0 : decode cX4_isSide 0 = .ok (.iload_n 0, 1) := by decide +kernel
theorem dX4_isSide_1 : decode cX4_isSide 1 = .ok (.ifCond .eq 8, 3) := by decide +kernel
theorem dX4_isSide_4 : decode cX4_isSide 4 = .ok (.iload_n 0, 1) := by decide +kernel
theorem dX4_isSide_5 : decode cX4_isSide 5 = .ok (.iconst 1, 1) := by decide +kernel
theorem dX4_isSide_6 : decode cX4_isSide 6 = .ok (.if_icmp .ne 7, 3) := by decide +kernel
theorem dX4_isSide_9 : decode cX4_isSide 9 = .ok (.iconst 1, 1) := by decide +kernel
theorem dX4_isSide_10 : decode cX4_isSide 10 = .ok (.goto 4, 3) := by decide +kernel
theorem dX4_isSide_13 : decode cX4_isSide 13 = .ok (.iconst 0, 1) := by decide +kernel
theorem dX4_isSide_14 : decode cX4_isSide 14 = .ok (.ireturn, 1) := by decide +kernel
theorem dX4_own_0 : decode cX4_own 0 = .ok (.iload_n 1, 1) := by decide +kernel
theorem dX4_own_1 : decode cX4_own 1 = .ok (.ifCond .ne 12, 3) := by decide +kernel
theorem dX4_own_4 : decode cX4_own 4 = .ok (.aload_n 0, 1) := by decide +kernel
theorem dX4_own_5 : decode cX4_own 5 = .ok (.getfield 7, 3) := by decide +kernel
theorem dX4_own_8 : decode cX4_own 8 = .ok (.iload_n 2, 1) := by decide +kernel
theorem dX4_own_9 : decode cX4_own 9 = .ok (.iaload, 1) := by decide +kernel
theorem dX4_own_10 : decode cX4_own 10 = .ok (.goto 9, 3) := by decide +kernel
theorem dX4_own_13 : decode cX4_own 13 = .ok (.aload_n 0, 1) := by decide +kernel
theorem dX4_own_14 : decode cX4_own 14 = .ok (.getfield 13, 3) := by decide +kernel
theorem dX4_own_17 : decode cX4_own 17 = .ok (.iload_n 2, 1) := by decide +kernel
theorem dX4_own_18 : decode cX4_own 18 = .ok (.iaload, 1) := by decide +kernel
theorem dX4_own_19 : decode cX4_own 19 = .ok (.ireturn, 1) := by decide +kernel
theorem dX4_add_0 : decode cX4_add 0 = .ok (.aload_n 0, 1) := by decide +kernel
theorem dX4_add_1 : decode cX4_add 1 = .ok (.getfield 7, 3) := by decide +kernel
theorem dX4_add_4 : decode cX4_add 4 = .ok (.aload_n 0, 1) := by decide +kernel
theorem dX4_add_5 : decode cX4_add 5 = .ok (.getfield 47, 3) := by decide +kernel
theorem dX4_add_8 : decode cX4_add 8 = .ok (.iload_n 1, 1) := by decide +kernel
theorem dX4_add_9 : decode cX4_add 9 = .ok (.iastore, 1) := by decide +kernel
theorem dX4_add_10 : decode cX4_add 10 = .ok (.aload_n 0, 1) := by decide +kernel
theorem dX4_add_11 : decode cX4_add 11 = .ok (.getfield 13, 3) := by decide +kernel
theorem dX4_add_14 : decode cX4_add 14 = .ok (.aload_n 0, 1) := by decide +kernel
theorem dX4_add_15 : decode cX4_add 15 = .ok (.getfield 47, 3) := by decide +kernel
theorem dX4_add_18 : decode cX4_add 18 = .ok (.iload_n 2, 1) := by decide +kernel
theorem dX4_add_19 : decode cX4_add 19 = .ok (.iastore, 1) := by decide +kernel
theorem dX4_add_20 : decode cX4_add 20 = .ok (.aload_n 0, 1) := by decide +kernel
theorem dX4_add_21 : decode cX4_add 21 = .ok (.dup, 1) := by decide +kernel
theorem dX4_add_22 : decode cX4_add 22 = .ok (.getfield 47, 3) := by decide +kernel
theorem dX4_add_25 : decode cX4_add 25 = .ok (.iconst 1, 1) := by decide +kernel
theorem dX4_add_26 : decode cX4_add 26 = .ok (.iadd, 1) := by decide +kernel
theorem dX4_add_27 : decode cX4_add 27 = .ok (.putfield 47, 3) := by decide +kernel
theorem dX4_add_30 : decode cX4_add 30 = .ok (.return_, 1) := by decide +kernel
theorem dX4_remove_0 : decode cX4_remove 0 = .ok (.aload_n 0, 1) := by decide +kernel
theorem dX4_remove_1 : decode cX4_remove 1 = .ok (.dup, 1) := by decide +kernel
theorem dX4_remove_2 : decode cX4_remove 2 = .ok (.getfield 47, 3) := by decide +kernel
theorem dX4_remove_5 : decode cX4_remove 5 = .ok (.iconst 1, 1) := by decide +kernel
theorem dX4_remove_6 : decode cX4_remove 6 = .ok (.isub, 1) := by decide +kernel
theorem dX4_remove_7 : decode cX4_remove 7 = .ok (.putfield 47, 3) := by decide +kernel
theorem dX4_remove_10 : decode cX4_remove 10 = .ok (.iload_n 1, 1) := by decide +kernel
theorem dX4_remove_11 : decode cX4_remove 11 = .ok (.istore_n 2, 1) := by decide +kernel
theorem dX4_remove_12 : decode cX4_remove 12 = .ok (.iload_n 2, 1) := by decide +kernel
theorem dX4_remove_13 : decode cX4_remove 13 = .ok (.aload_n 0, 1) := by decide +kernel
theorem dX4_remove_14 : decode cX4_remove 14 = .ok (.getfield 47, 3) := by decide +kernel
theorem dX4_remove_17 : decode cX4_remove 17 = .ok (.if_icmp .ge 37, 3) := by decide +kernel
theorem dX4_remove_20 : decode cX4_remove 20 = .ok (.aload_n 0, 1) := by decide +kernel
theorem dX4_remove_21 : decode cX4_remove 21 = .ok (.getfield 7, 3) := by decide +kernel
theorem dX4_remove_24 : decode cX4_remove 24 = .ok (.iload_n 2, 1) := by decide +kernel
theorem dX4_remove_25 : decode cX4_remove 25 = .ok (.aload_n 0, 1) := by decide +kernel
theorem dX4_remove_26 : decode cX4_remove 26 = .ok (.getfield 7, 3) := by decide +kernel
theorem dX4_remove_29 : decode cX4_remove 29 = .ok (.iload_n 2, 1) := by decide +kernel
theorem dX4_remove_30 : decode cX4_remove 30 = .ok (.iconst 1, 1) := by decide +kernel
theorem dX4_remove_31 : decode cX4_remove 31 = .ok (.iadd, 1) := by decide +kernel
theorem dX4_remove_32 : decode cX4_remove 32 = .ok (.iaload, 1) := by decide +kernel
theorem dX4_remove_33 : decode cX4_remove 33 = .ok (.iastore, 1) := by decide +kernel
theorem dX4_remove_34 : decode cX4_remove 34 = .ok (.aload_n 0, 1) := by decide +kernel
theorem dX4_remove_35 : decode cX4_remove 35 = .ok (.getfield 13, 3) := by decide +kernel
theorem dX4_remove_38 : decode cX4_remove 38 = .ok (.iload_n 2, 1) := by decide +kernel
theorem dX4_remove_39 : decode cX4_remove 39 = .ok (.aload_n 0, 1) := by decide +kernel
theorem dX4_remove_40 : decode cX4_remove 40 = .ok (.getfield 13, 3) := by decide +kernel
theorem dX4_remove_43 : decode cX4_remove 43 = .ok (.iload_n 2, 1) := by decide +kernel
theorem dX4_remove_44 : decode cX4_remove 44 = .ok (.iconst 1, 1) := by decide +kernel
theorem dX4_remove_45 : decode cX4_remove 45 = .ok (.iadd, 1) := by decide +kernel
theorem dX4_remove_46 : decode cX4_remove 46 = .ok (.iaload, 1) := by decide +kernel
theorem dX4_remove_47 : decode cX4_remove 47 = .ok (.iastore, 1) := by decide +kernel
theorem dX4_remove_48 : decode cX4_remove 48 = .ok (.iinc 2 1, 3) := by decide +kernel
theorem dX4_remove_51 : decode cX4_remove 51 = .ok (.goto (-39), 3) := by decide +kernel
theorem dX4_remove_54 : decode cX4_remove 54 = .ok (.return_, 1) := by decide +kernel
set_option maxRecDepth 20000 in
theorem ggX4_link_X4_find : GoodIn wsX4_link wsX4_find := goodIn_r _ [6, 1, 7, 8, 13, 14, 15, 16, 17, 18, 19, 20, 21, 22, 23, 24, 25, 26, 27] (by decide +kernel) (by decide +kernel)
set_option maxRecDepth 20000 in
theorem gX4_link_X4_find : GoodIn wsX4_link (wsV RX4 51 RX4 yX4_find wsX4_find) := goodIn_app (goodIn_of _ (by decide +kernel)) ggX4_link_X4_find
set_option maxRecDepth 20000 in
theorem ggX4_link_X4_add : GoodIn wsX4_link wsX4_add := goodIn_r _ [12, 7, 1, 8, 13, 14, 15, 16, 17, 18, 19, 20, 21, 22, 23, 24, 25, 26, 27] (by decide +kernel) (by decide +kernel)
set_option maxRecDepth 20000 in
theorem gX4_link_X4_add : GoodIn wsX4_link (wsV RX4 55 RX4 yX4_add wsX4_add) := goodIn_app (goodIn_of _ (by decide +kernel)) ggX4_link_X4_add
theorem dX4_link_0 : decode cX4_link 0 = .ok (.aload_n 0, 1) := by decide +kernel
theorem dX4_link_1 : decode cX4_link 1 = .ok (.iload_n 1, 1) := by decide +kernel
theorem dX4_link_2 : decode cX4_link 2 = .ok (.iload_n 2, 1) := by decide +kernel
theorem dX4_link_3 : decode cX4_link 3 = .ok (.invokevirtual 51, 3) := by decide +kernel
theorem dX4_link_6 : decode cX4_link 6 = .ok (.iconst (-1), 1) := by decide +kernel
theorem dX4_link_7 : decode cX4_link 7 = .ok (.if_icmp .eq 5, 3) := by decide +kernel
theorem dX4_link_10 : decode cX4_link 10 = .ok (.iconst (-1), 1) := by decide +kernel
theorem dX4_link_11 : decode cX4_link 11 = .ok (.ireturn, 1) := by decide +kernel
theorem dX4_link_12 : decode cX4_link 12 = .ok (.aload_n 0, 1) := by decide +kernel
theorem dX4_link_13 : decode cX4_link 13 = .ok (.getfield 47, 3) := by decide +kernel
theorem dX4_link_16 : decode cX4_link 16 = .ok (.sipush 300, 3) := by decide +kernel
theorem dX4_link_19 : decode cX4_link 19 = .ok (.if_icmp .ne 6, 3) := by decide +kernel
theorem dX4_link_22 : decode cX4_link 22 = .ok (.bipush (-2), 2) := by decide +kernel
theorem dX4_link_24 : decode cX4_link 24 = .ok (.ireturn, 1) := by decide +kernel
theorem dX4_link_25 : decode cX4_link 25 = .ok (.aload_n 0, 1) := by decide +kernel
theorem dX4_link_26 : decode cX4_link 26 = .ok (.iload_n 1, 1) := by decide +kernel
theorem dX4_link_27 : decode cX4_link 27 = .ok (.iload_n 2, 1) := by decide +kernel
theorem dX4_link_28 : decode cX4_link 28 = .ok (.invokevirtual 55, 3) := by decide +kernel
theorem dX4_link_31 : decode cX4_link 31 = .ok (.aload_n 0, 1) := by decide +kernel
theorem dX4_link_32 : decode cX4_link 32 = .ok (.getfield 47, 3) := by decide +kernel
theorem dX4_link_35 : decode cX4_link 35 = .ok (.ireturn, 1) := by decide +kernel
set_option maxRecDepth 20000 in
theorem ggX4_unlink_X4_find : GoodIn wsX4_unlink wsX4_find := goodIn_r _ [6, 1, 7, 8, 13, 14, 15, 16, 17, 18, 19, 20, 21, 22, 23, 24, 25, 26, 27] (by decide +kernel) (by decide +kernel)
set_option maxRecDepth 20000 in
theorem gX4_unlink_X4_find : GoodIn wsX4_unlink (wsV RX4 51 RX4 yX4_find wsX4_find) := goodIn_app (goodIn_of _ (by decide +kernel)) ggX4_unlink_X4_find
set_option maxRecDepth 20000 in
theorem ggX4_unlink_X4_remove : GoodIn wsX4_unlink wsX4_remove := goodIn_r _ [12, 1, 7, 8, 13, 14, 15, 16, 17, 18, 19, 20, 21, 22, 23, 24, 25, 26, 27] (by decide +kernel) (by decide +kernel)
set_option maxRecDepth 20000 in
theorem gX4_unlink_X4_remove : GoodIn wsX4_unlink (wsV RX4 59 RX4 yX4_remove wsX4_remove) := goodIn_app (goodIn_of _ (by decide +kernel)) ggX4_unlink_X4_remove
theorem dX4_unlink_0 : decode cX4_unlink 0 = .ok (.aload_n 0, 1) := by decide +kernel
theorem dX4_unlink_1 : decode cX4_unlink 1 = .ok (.iload_n 1, 1) := by decide +kernel
theorem dX4_unlink_2 : decode cX4_unlink 2 = .ok (.iload_n 2, 1) := by decide +kernel
theorem dX4_unlink_3 : decode cX4_unlink 3 = .ok (.invokevirtual 51, 3) := by decide +kernel
theorem dX4_unlink_6 : decode cX4_unlink 6 = .ok (.istore_n 3, 1) := by decide +kernel
theorem dX4_unlink_7 : decode cX4_unlink 7 = .ok (.iload_n 3, 1) := by decide +kernel
theorem dX4_unlink_8 : decode cX4_unlink 8 = .ok (.iconst (-1), 1) := by decide +kernel
theorem dX4_unlink_9 : decode cX4_unlink 9 = .ok (.if_icmp .ne 5, 3) := by decide +kernel
theorem dX4_unlink_12 : decode cX4_unlink 12 = .ok (.iconst (-1), 1) := by decide +kernel
theorem dX4_unlink_13 : decode cX4_unlink 13 = .ok (.ireturn, 1) := by decide +kernel
theorem dX4_unlink_14 : decode cX4_unlink 14 = .ok (.aload_n 0, 1) := by decide +kernel
theorem dX4_unlink_15 : decode cX4_unlink 15 = .ok (.iload_n 3, 1) := by decide +kernel
theorem dX4_unlink_16 : decode cX4_unlink 16 = .ok (.invokevirtual 59, 3) := by decide +kernel
theorem dX4_unlink_19 : decode cX4_unlink 19 = .ok (.aload_n 0, 1) := by decide +kernel
theorem dX4_unlink_20 : decode cX4_unlink 20 = .ok (.getfield 47, 3) := by decide +kernel
theorem dX4_unlink_23 : decode cX4_unlink 23 = .ok (.ireturn, 1) := by decide +kernel
set_option maxRecDepth 20000 in
theorem ggX4_place_X4_find : GoodIn wsX4_place wsX4_find := goodIn_r _ [5, 6, 7, 8, 9, 10, 11, 12, 13, 14, 15, 16, 17, 18, 19, 20, 21, 22, 23] (by decide +kernel) (by decide +kernel)
set_option maxRecDepth 20000 in
theorem gX4_place_X4_find : GoodIn wsX4_place (wsV RX4 51 RX4 yX4_find wsX4_find) := goodIn_app (goodIn_of _ (by decide +kernel)) ggX4_place_X4_find
theorem dX4_place_0 : decode cX4_place 0 = .ok (.aload_n 0, 1) := by decide +kernel
theorem dX4_place_1 : decode cX4_place 1 = .ok (.iload_n 1, 1) := by decide +kernel
theorem dX4_place_2 : decode cX4_place 2 = .ok (.iload_n 2, 1) := by decide +kernel
theorem dX4_place_3 : decode cX4_place 3 = .ok (.invokevirtual 51, 3) := by decide +kernel
theorem dX4_place_6 : decode cX4_place 6 = .ok (.ireturn, 1) := by decide +kernel
set_option maxRecDepth 20000 in
theorem ggX4_degree_X4_isSide : GoodIn wsX4_degree wsX4_isSide := goodIn_r _ [5] (by decide +kernel) (by decide +kernel)
set_option maxRecDepth 20000 in
theorem gX4_degree_X4_isSide : GoodIn wsX4_degree (va_wsS RX4 63 yX4_isSide wsX4_isSide) := goodIn_app (goodIn_of _ (by decide +kernel)) ggX4_degree_X4_isSide
set_option maxRecDepth 20000 in
theorem ggX4_degree_X4_own : GoodIn wsX4_degree wsX4_own := goodIn_r _ [9, 10, 11, 12, 13, 14, 15, 16, 17, 18, 19, 20, 21, 22, 23, 24, 25, 26] (by decide +kernel) (by decide +kernel)
set_option maxRecDepth 20000 in
theorem gX4_degree_X4_own : GoodIn wsX4_degree (wsV RX4 67 RX4 yX4_own wsX4_own) := goodIn_app (goodIn_of _ (by decide +kernel)) ggX4_degree_X4_own
theorem dX4_degree_0 : decode cX4_degree 0 = .ok (.iload_n 1, 1) := by decide +kernel
theorem dX4_degree_1 : decode cX4_degree 1 = .ok (.invokestatic 63, 3) := by decide +kernel
theorem dX4_degree_4 : decode cX4_degree 4 = .ok (.ifCond .ne 5, 3) := by decide +kernel
theorem dX4_degree_7 : decode cX4_degree 7 = .ok (.iconst (-1), 1) := by decide +kernel
theorem dX4_degree_8 : decode cX4_degree 8 = .ok (.ireturn, 1) := by decide +kernel
theorem dX4_degree_9 : decode cX4_degree 9 = .ok (.iconst 0, 1) := by decide +kernel
theorem dX4_degree_10 : decode cX4_degree 10 = .ok (.istore_n 3, 1) := by decide +kernel
theorem dX4_degree_11 : decode cX4_degree 11 = .ok (.iconst 0, 1) := by decide +kernel
theorem dX4_degree_12 : decode cX4_degree 12 = .ok (.istore 4, 2) := by decide +kernel
theorem dX4_degree_14 : decode cX4_degree 14 = .ok (.iload 4, 2) := by decide +kernel
theorem dX4_degree_16 : decode cX4_degree 16 = .ok (.aload_n 0, 1) := by decide +kernel
theorem dX4_degree_17 : decode cX4_degree 17 = .ok (.getfield 47, 3) := by decide +kernel
theorem dX4_degree_20 : decode cX4_degree 20 = .ok (.if_icmp .ge 28, 3) := by decide +kernel
theorem dX4_degree_23 : decode cX4_degree 23 = .ok (.aload_n 0, 1) := by decide +kernel
theorem dX4_degree_24 : decode cX4_degree 24 = .ok (.iload_n 1, 1) := by decide +kernel
theorem dX4_degree_25 : decode cX4_degree 25 = .ok (.iload 4, 2) := by decide +kernel
theorem dX4_degree_27 : decode cX4_degree 27 = .ok (.invokevirtual 67, 3) := by decide +kernel
theorem dX4_degree_30 : decode cX4_degree 30 = .ok (.iload_n 2, 1) := by decide +kernel
theorem dX4_degree_31 : decode cX4_degree 31 = .ok (.if_icmp .ne 9, 3) := by decide +kernel
theorem dX4_degree_34 : decode cX4_degree 34 = .ok (.iload_n 3, 1) := by decide +kernel
theorem dX4_degree_35 : decode cX4_degree 35 = .ok (.iconst 1, 1) := by decide +kernel
theorem dX4_degree_36 : decode cX4_degree 36 = .ok (.iadd, 1) := by decide +kernel
theorem dX4_degree_37 : decode cX4_degree 37 = .ok (.goto 4, 3) := by decide +kernel
theorem dX4_degree_40 : decode cX4_degree 40 = .ok (.iload_n 3, 1) := by decide +kernel
theorem dX4_degree_41 : decode cX4_degree 41 = .ok (.istore_n 3, 1) := by decide +kernel
theorem dX4_degree_42 : decode cX4_degree 42 = .ok (.iinc 4 1, 3) := by decide +kernel
theorem dX4_degree_45 : decode cX4_degree 45 = .ok (.goto (-31), 3) := by decide +kernel
theorem dX4_degree_48 : decode cX4_degree 48 = .ok (.iload_n 3, 1) := by decide +kernel
theorem dX4_degree_49 : decode cX4_degree 49 = .ok (.ireturn, 1) := by decide +kernel
set_option maxRecDepth 20000 in
theorem ggX4_other_X4_isSide : GoodIn wsX4_other wsX4_isSide := goodIn_r _ [5] (by decide +kernel) (by decide +kernel)
set_option maxRecDepth 20000 in
theorem gX4_other_X4_isSide : GoodIn wsX4_other (va_wsS RX4 63 yX4_isSide wsX4_isSide) := goodIn_app (goodIn_of _ (by decide +kernel)) ggX4_other_X4_isSide
set_option maxRecDepth 20000 in
theorem ggX4_other_X4_own : GoodIn wsX4_other wsX4_own := goodIn_r _ [9, 10, 11, 12, 13, 14, 15, 16, 17, 18, 19, 20, 21, 22, 23, 24, 25, 26] (by decide +kernel) (by decide +kernel)
set_option maxRecDepth 20000 in
theorem gX4_other_X4_own : GoodIn wsX4_other (wsV RX4 67 RX4 yX4_own wsX4_own) := goodIn_app (goodIn_of _ (by decide +kernel)) ggX4_other_X4_own
theorem dX4_other_0 : decode cX4_other 0 = .ok (.iload_n 3, 1) := by decide +kernel
theorem dX4_other_1 : decode cX4_other 1 = .ok (.istore 4, 2) := by decide +kernel
theorem dX4_other_3 : decode cX4_other 3 = .ok (.iconst 0, 1) := by decide +kernel
theorem dX4_other_4 : decode cX4_other 4 = .ok (.istore 5, 2) := by decide +kernel
theorem dX4_other_6 : decode cX4_other 6 = .ok (.iload 5, 2) := by decide +kernel
theorem dX4_other_8 : decode cX4_other 8 = .ok (.aload_n 0, 1) := by decide +kernel
theorem dX4_other_9 : decode cX4_other 9 = .ok (.getfield 47, 3) := by decide +kernel
theorem dX4_other_12 : decode cX4_other 12 = .ok (.if_icmp .ge 49, 3) := by decide +kernel
theorem dX4_other_15 : decode cX4_other 15 = .ok (.iload_n 1, 1) := by decide +kernel
theorem dX4_other_16 : decode cX4_other 16 = .ok (.invokestatic 63, 3) := by decide +kernel
theorem dX4_other_19 : decode cX4_other 19 = .ok (.ifCond .eq 42, 3) := by decide +kernel
theorem dX4_other_22 : decode cX4_other 22 = .ok (.iload_n 3, 1) := by decide +kernel
theorem dX4_other_23 : decode cX4_other 23 = .ok (.ifCond .lt 38, 3) := by decide +kernel
theorem dX4_other_26 : decode cX4_other 26 = .ok (.aload_n 0, 1) := by decide +kernel
theorem dX4_other_27 : decode cX4_other 27 = .ok (.iload_n 1, 1) := by decide +kernel
theorem dX4_other_28 : decode cX4_other 28 = .ok (.iload 5, 2) := by decide +kernel
theorem dX4_other_30 : decode cX4_other 30 = .ok (.invokevirtual 67, 3) := by decide +kernel
theorem dX4_other_33 : decode cX4_other 33 = .ok (.iload_n 2, 1) := by decide +kernel
theorem dX4_other_34 : decode cX4_other 34 = .ok (.if_icmp .ne 21, 3) := by decide +kernel
theorem dX4_other_37 : decode cX4_other 37 = .ok (.iload 4, 2) := by decide +kernel
theorem dX4_other_39 : decode cX4_other 39 = .ok (.ifCond .ne 13, 3) := by decide +kernel
theorem dX4_other_42 : decode cX4_other 42 = .ok (.aload_n 0, 1) := by decide +kernel
theorem dX4_other_43 : decode cX4_other 43 = .ok (.iconst 1, 1) := by decide +kernel
theorem dX4_other_44 : decode cX4_other 44 = .ok (.iload_n 1, 1) := by decide +kernel
theorem dX4_other_45 : decode cX4_other 45 = .ok (.isub, 1) := by decide +kernel
theorem dX4_other_46 : decode cX4_other 46 = .ok (.iload 5, 2) := by decide +kernel
theorem dX4_other_48 : decode cX4_other 48 = .ok (.invokevirtual 67, 3) := by decide +kernel
theorem dX4_other_51 : decode cX4_other 51 = .ok (.ireturn, 1) := by decide +kernel
theorem dX4_other_52 : decode cX4_other 52 = .ok (.iinc 4 (-1), 3) := by decide +kernel
theorem dX4_other_55 : decode cX4_other 55 = .ok (.iinc 5 1, 3) := by decide +kernel
theorem dX4_other_58 : decode cX4_other 58 = .ok (.goto (-52), 3) := by decide +kernel
theorem dX4_other_61 : decode cX4_other 61 = .ok (.iconst 0, 1) := by decide +kernel
theorem dX4_other_62 : decode cX4_other 62 = .ok (.ireturn, 1) := by decide +kernel
set_option maxRecDepth 20000 in
theorem ggX4_drop_X4_isSide : GoodIn wsX4_drop wsX4_isSide := goodIn_r _ [5] (by decide +kernel) (by decide +kernel)
set_option maxRecDepth 20000 in
theorem gX4_drop_X4_isSide : GoodIn wsX4_drop (va_wsS RX4 63 yX4_isSide wsX4_isSide) := goodIn_app (goodIn_of _ (by decide +kernel)) ggX4_drop_X4_isSide
set_option maxRecDepth 20000 in
theorem ggX4_drop_X4_own : GoodIn wsX4_drop wsX4_own := goodIn_r _ [9, 10, 11, 16, 17, 18, 19, 20, 21, 22, 23, 24, 25, 26, 27, 28, 29, 30] (by decide +kernel) (by decide +kernel)
set_option maxRecDepth 20000 in
theorem gX4_drop_X4_own : GoodIn wsX4_drop (wsV RX4 67 RX4 yX4_own wsX4_own) := goodIn_app (goodIn_of _ (by decide +kernel)) ggX4_drop_X4_own
set_option maxRecDepth 20000 in
theorem ggX4_drop_X4_remove : GoodIn wsX4_drop wsX4_remove := goodIn_r _ [15, 1, 10, 11, 16, 17, 18, 19, 20, 21, 22, 23, 24, 25, 26, 27, 28, 29, 30] (by decide +kernel) (by decide +kernel)
set_option maxRecDepth 20000 in
theorem gX4_drop_X4_remove : GoodIn wsX4_drop (wsV RX4 59 RX4 yX4_remove wsX4_remove) := goodIn_app (goodIn_of _ (by decide +kernel)) ggX4_drop_X4_remove
theorem dX4_drop_0 : decode cX4_drop 0 = .ok (.iload_n 1, 1) := by decide +kernel
theorem dX4_drop_1 : decode cX4_drop 1 = .ok (.invokestatic 63, 3) := by decide +kernel
theorem dX4_drop_4 : decode cX4_drop 4 = .ok (.ifCond .ne 5, 3) := by decide +kernel
theorem dX4_drop_7 : decode cX4_drop 7 = .ok (.iconst (-1), 1) := by decide +kernel
theorem dX4_drop_8 : decode cX4_drop 8 = .ok (.ireturn, 1) := by decide +kernel
theorem dX4_drop_9 : decode cX4_drop 9 = .ok (.iconst 0, 1) := by decide +kernel
theorem dX4_drop_10 : decode cX4_drop 10 = .ok (.istore_n 3, 1) := by decide +kernel
theorem dX4_drop_11 : decode cX4_drop 11 = .ok (.aload_n 0, 1) := by decide +kernel
theorem dX4_drop_12 : decode cX4_drop 12 = .ok (.getfield 47, 3) := by decide +kernel
theorem dX4_drop_15 : decode cX4_drop 15 = .ok (.iconst 1, 1) := by decide +kernel
theorem dX4_drop_16 : decode cX4_drop 16 = .ok (.isub, 1) := by decide +kernel
theorem dX4_drop_17 : decode cX4_drop 17 = .ok (.istore 4, 2) := by decide +kernel
theorem dX4_drop_19 : decode cX4_drop 19 = .ok (.iload 4, 2) := by decide +kernel
theorem dX4_drop_21 : decode cX4_drop 21 = .ok (.ifCond .lt 29, 3) := by decide +kernel
theorem dX4_drop_24 : decode cX4_drop 24 = .ok (.aload_n 0, 1) := by decide +kernel
theorem dX4_drop_25 : decode cX4_drop 25 = .ok (.iload_n 1, 1) := by decide +kernel
theorem dX4_drop_26 : decode cX4_drop 26 = .ok (.iload 4, 2) := by decide +kernel
theorem dX4_drop_28 : decode cX4_drop 28 = .ok (.invokevirtual 67, 3) := by decide +kernel
theorem dX4_drop_31 : decode cX4_drop 31 = .ok (.iload_n 2, 1) := by decide +kernel
theorem dX4_drop_32 : decode cX4_drop 32 = .ok (.if_icmp .ne 12, 3) := by decide +kernel
theorem dX4_drop_35 : decode cX4_drop 35 = .ok (.aload_n 0, 1) := by decide +kernel
theorem dX4_drop_36 : decode cX4_drop 36 = .ok (.iload 4, 2) := by decide +kernel
theorem dX4_drop_38 : decode cX4_drop 38 = .ok (.invokevirtual 59, 3) := by decide +kernel
theorem dX4_drop_41 : decode cX4_drop 41 = .ok (.iinc 3 1, 3) := by decide +kernel
theorem dX4_drop_44 : decode cX4_drop 44 = .ok (.iinc 4 (-1), 3) := by decide +kernel
theorem dX4_drop_47 : decode cX4_drop 47 = .ok (.goto (-28), 3) := by decide +kernel
theorem dX4_drop_50 : decode cX4_drop 50 = .ok (.iload_n 3, 1) := by decide +kernel
theorem dX4_drop_51 : decode cX4_drop 51 = .ok (.ireturn, 1) := by decide +kernel
set_option maxRecDepth 20000 in
theorem ggX4_rename_X4_isSide : GoodIn wsX4_rename wsX4_isSide := goodIn_r _ [6] (by decide +kernel) (by decide +kernel)
set_option maxRecDepth 20000 in
theorem gX4_rename_X4_isSide : GoodIn wsX4_rename (va_wsS RX4 63 yX4_isSide wsX4_isSide) := goodIn_app (goodIn_of _ (by decide +kernel)) ggX4_rename_X4_isSide
set_option maxRecDepth 20000 in
theorem ggX4_rename_X4_own : GoodIn wsX4_rename wsX4_own := goodIn_r _ [10, 11, 12, 29, 30, 31, 32, 33, 34, 35, 36, 37, 38, 39, 40, 41, 42, 43] (by decide +kernel) (by decide +kernel)
set_option maxRecDepth 20000 in
theorem gX4_rename_X4_own : GoodIn wsX4_rename (wsV RX4 67 RX4 yX4_own wsX4_own) := goodIn_app (goodIn_of _ (by decide +kernel)) ggX4_rename_X4_own
set_option maxRecDepth 20000 in
theorem ggX4_rename_X4_drop : GoodIn wsX4_rename wsX4_drop := goodIn_r _ [16, 1, 3, 4, 5, 6, 7, 8, 9, 10, 11, 12, 17, 18, 19, 20, 29, 30, 31, 32, 33, 34, 35, 36, 37, 38, 39, 40, 41, 42, 43] (by decide +kernel) (by decide +kernel)
set_option maxRecDepth 20000 in
theorem gX4_rename_X4_drop : GoodIn wsX4_rename (wsV RX4 70 RX4 yX4_drop wsX4_drop) := goodIn_app (goodIn_of _ (by decide +kernel)) ggX4_rename_X4_drop
set_option maxRecDepth 20000 in
theorem ggX4_rename_X4_find : GoodIn wsX4_rename wsX4_find := goodIn_r _ [24, 1, 11, 12, 29, 30, 31, 32, 33, 34, 35, 36, 37, 38, 39, 40, 41, 42, 43] (by decide +kernel) (by decide +kernel)
set_option maxRecDepth 20000 in
theorem gX4_rename_X4_find : GoodIn wsX4_rename (wsV RX4 51 RX4 yX4_find wsX4_find) := goodIn_app (goodIn_of _ (by decide +kernel)) ggX4_rename_X4_find
set_option maxRecDepth 20000 in
theorem ggX4_rename_X4_add : GoodIn wsX4_rename wsX4_add := goodIn_r _ [28, 11, 1, 12, 29, 30, 31, 32, 33, 34, 35, 36, 37, 38, 39, 40, 41, 42, 43] (by decide +kernel) (by decide +kernel)
set_option maxRecDepth 20000 in
theorem gX4_rename_X4_add : GoodIn wsX4_rename (wsV RX4 55 RX4 yX4_add wsX4_add) := goodIn_app (goodIn_of _ (by decide +kernel)) ggX4_rename_X4_add
theorem dX4_rename_0 : decode cX4_rename 0 = .ok (.iload_n 1, 1) := by decide +kernel
theorem dX4_rename_1 : decode cX4_rename 1 = .ok (.invokestatic 63, 3) := by decide +kernel
theorem dX4_rename_4 : decode cX4_rename 4 = .ok (.ifCond .eq 8, 3) := by decide +kernel
theorem dX4_rename_7 : decode cX4_rename 7 = .ok (.iload_n 2, 1) := by decide +kernel
theorem dX4_rename_8 : decode cX4_rename 8 = .ok (.iload_n 3, 1) := by decide +kernel
theorem dX4_rename_9 : decode cX4_rename 9 = .ok (.if_icmp .ne 5, 3) := by decide +kernel
theorem dX4_rename_12 : decode cX4_rename 12 = .ok (.iconst (-1), 1) := by decide +kernel
theorem dX4_rename_13 : decode cX4_rename 13 = .ok (.ireturn, 1) := by decide +kernel
theorem dX4_rename_14 : decode cX4_rename 14 = .ok (.iconst 0, 1) := by decide +kernel
theorem dX4_rename_15 : decode cX4_rename 15 = .ok (.istore 4, 2) := by decide +kernel
theorem dX4_rename_17 : decode cX4_rename 17 = .ok (.iconst 0, 1) := by decide +kernel
theorem dX4_rename_18 : decode cX4_rename 18 = .ok (.istore 5, 2) := by decide +kernel
theorem dX4_rename_20 : decode cX4_rename 20 = .ok (.iload 5, 2) := by decide +kernel
theorem dX4_rename_22 : decode cX4_rename 22 = .ok (.aload_n 0, 1) := by decide +kernel
theorem dX4_rename_23 : decode cX4_rename 23 = .ok (.getfield 47, 3) := by decide +kernel
theorem dX4_rename_26 : decode cX4_rename 26 = .ok (.if_icmp .ge 39, 3) := by decide +kernel
theorem dX4_rename_29 : decode cX4_rename 29 = .ok (.aload_n 0, 1) := by decide +kernel
theorem dX4_rename_30 : decode cX4_rename 30 = .ok (.iload_n 1, 1) := by decide +kernel
theorem dX4_rename_31 : decode cX4_rename 31 = .ok (.iload 5, 2) := by decide +kernel
theorem dX4_rename_33 : decode cX4_rename 33 = .ok (.invokevirtual 67, 3) := by decide +kernel
theorem dX4_rename_36 : decode cX4_rename 36 = .ok (.iload_n 2, 1) := by decide +kernel
theorem dX4_rename_37 : decode cX4_rename 37 = .ok (.if_icmp .ne 22, 3) := by decide +kernel
theorem dX4_rename_40 : decode cX4_rename 40 = .ok (.aload_n 0, 1) := by decide +kernel
theorem dX4_rename_41 : decode cX4_rename 41 = .ok (.getfield 44, 3) := by decide +kernel
theorem dX4_rename_44 : decode cX4_rename 44 = .ok (.iload 4, 2) := by decide +kernel
theorem dX4_rename_46 : decode cX4_rename 46 = .ok (.aload_n 0, 1) := by decide +kernel
theorem dX4_rename_47 : decode cX4_rename 47 = .ok (.iconst 1, 1) := by decide +kernel
theorem dX4_rename_48 : decode cX4_rename 48 = .ok (.iload_n 1, 1) := by decide +kernel
theorem dX4_rename_49 : decode cX4_rename 49 = .ok (.isub, 1) := by decide +kernel
theorem dX4_rename_50 : decode cX4_rename 50 = .ok (.iload 5, 2) := by decide +kernel
theorem dX4_rename_52 : decode cX4_rename 52 = .ok (.invokevirtual 67, 3) := by decide +kernel
theorem dX4_rename_55 : decode cX4_rename 55 = .ok (.iastore, 1) := by decide +kernel
theorem dX4_rename_56 : decode cX4_rename 56 = .ok (.iinc 4 1, 3) := by decide +kernel
theorem dX4_rename_59 : decode cX4_rename 59 = .ok (.iinc 5 1, 3) := by decide +kernel
theorem dX4_rename_62 : decode cX4_rename 62 = .ok (.goto (-42), 3) := by decide +kernel
theorem dX4_rename_65 : decode cX4_rename 65 = .ok (.aload_n 0, 1) := by decide +kernel
theorem dX4_rename_66 : decode cX4_rename 66 = .ok (.iload_n 1, 1) := by decide +kernel
theorem dX4_rename_67 : decode cX4_rename 67 = .ok (.iload_n 2, 1) := by decide +kernel
theorem dX4_rename_68 : decode cX4_rename 68 = .ok (.invokevirtual 70, 3) := by decide +kernel
theorem dX4_rename_71 : decode cX4_rename 71 = .ok (.pop, 1) := by decide +kernel
theorem dX4_rename_72 : decode cX4_rename 72 = .ok (.iconst 0, 1) := by decide +kernel
theorem dX4_rename_73 : decode cX4_rename 73 = .ok (.istore 5, 2) := by decide +kernel
theorem dX4_rename_75 : decode cX4_rename 75 = .ok (.iconst 0, 1) := by decide +kernel
theorem dX4_rename_76 : decode cX4_rename 76 = .ok (.istore 6, 2) := by decide +kernel
theorem dX4_rename_78 : decode cX4_rename 78 = .ok (.iload 6, 2) := by decide +kernel
theorem dX4_rename_80 : decode cX4_rename 80 = .ok (.iload 4, 2) := by decide +kernel
theorem dX4_rename_82 : decode cX4_rename 82 = .ok (.if_icmp .ge 66, 3) := by decide +kernel
theorem dX4_rename_85 : decode cX4_rename 85 = .ok (.iload_n 1, 1) := by decide +kernel
theorem dX4_rename_86 : decode cX4_rename 86 = .ok (.ifCond .ne 7, 3) := by decide +kernel
theorem dX4_rename_89 : decode cX4_rename 89 = .ok (.iload_n 3, 1) := by decide +kernel
theorem dX4_rename_90 : decode cX4_rename 90 = .ok (.goto 10, 3) := by decide +kernel
theorem dX4_rename_93 : decode cX4_rename 93 = .ok (.aload_n 0, 1) := by decide +kernel
theorem dX4_rename_94 : decode cX4_rename 94 = .ok (.getfield 44, 3) := by decide +kernel
theorem dX4_rename_97 : decode cX4_rename 97 = .ok (.iload 6, 2) := by decide +kernel
theorem dX4_rename_99 : decode cX4_rename 99 = .ok (.iaload, 1) := by decide +kernel
theorem dX4_rename_100 : decode cX4_rename 100 = .ok (.istore 7, 2) := by decide +kernel
theorem dX4_rename_102 : decode cX4_rename 102 = .ok (.iload_n 1, 1) := by decide +kernel
theorem dX4_rename_103 : decode cX4_rename 103 = .ok (.ifCond .ne 13, 3) := by decide +kernel
theorem dX4_rename_106 : decode cX4_rename 106 = .ok (.aload_n 0, 1) := by decide +kernel
theorem dX4_rename_107 : decode cX4_rename 107 = .ok (.getfield 44, 3) := by decide +kernel
theorem dX4_rename_110 : decode cX4_rename 110 = .ok (.iload 6, 2) := by decide +kernel
theorem dX4_rename_112 : decode cX4_rename 112 = .ok (.iaload, 1) := by decide +kernel
theorem dX4_rename_113 : decode cX4_rename 113 = .ok (.goto 4, 3) := by decide +kernel
theorem dX4_rename_116 : decode cX4_rename 116 = .ok (.iload_n 3, 1) := by decide +kernel
theorem dX4_rename_117 : decode cX4_rename 117 = .ok (.istore 8, 2) := by decide +kernel
theorem dX4_rename_119 : decode cX4_rename 119 = .ok (.aload_n 0, 1) := by decide +kernel
theorem dX4_rename_120 : decode cX4_rename 120 = .ok (.iload 7, 2) := by decide +kernel
theorem dX4_rename_122 : decode cX4_rename 122 = .ok (.iload 8, 2) := by decide +kernel
theorem dX4_rename_124 : decode cX4_rename 124 = .ok (.invokevirtual 51, 3) := by decide +kernel
theorem dX4_rename_127 : decode cX4_rename 127 = .ok (.iconst (-1), 1) := by decide +kernel
theorem dX4_rename_128 : decode cX4_rename 128 = .ok (.if_icmp .ne 14, 3) := by decide +kernel
theorem dX4_rename_131 : decode cX4_rename 131 = .ok (.aload_n 0, 1) := by decide +kernel
theorem dX4_rename_132 : decode cX4_rename 132 = .ok (.iload 7, 2) := by decide +kernel
theorem dX4_rename_134 : decode cX4_rename 134 = .ok (.iload 8, 2) := by decide +kernel
theorem dX4_rename_136 : decode cX4_rename 136 = .ok (.invokevirtual 55, 3) := by decide +kernel
theorem dX4_rename_139 : decode cX4_rename 139 = .ok (.iinc 5 1, 3) := by decide +kernel
theorem dX4_rename_142 : decode cX4_rename 142 = .ok (.iinc 6 1, 3) := by decide +kernel
theorem dX4_rename_145 : decode cX4_rename 145 = .ok (.goto (-67), 3) := by decide +kernel
theorem dX4_rename_148 : decode cX4_rename 148 = .ok (.iload 5, 2) := by decide +kernel
theorem dX4_rename_150 : decode cX4_rename 150 = .ok (.ireturn, 1) := by decide +kernel
set_option maxRecDepth 20000 in
theorem ggX4_at_X4_isSide : GoodIn wsX4_at wsX4_isSide := goodIn_r _ [5] (by decide +kernel) (by decide +kernel)
set_option maxRecDepth 20000 in
theorem gX4_at_X4_isSide : GoodIn wsX4_at (va_wsS RX4 63 yX4_isSide wsX4_isSide) := goodIn_app (goodIn_of _ (by decide +kernel)) ggX4_at_X4_isSide
set_option maxRecDepth 20000 in
theorem ggX4_at_X4_own : GoodIn wsX4_at wsX4_own := goodIn_r _ [9, 10, 11, 12, 13, 14, 15, 16, 17, 18, 19, 20, 21, 22, 23, 24, 25, 26] (by decide +kernel) (by decide +kernel)
set_option maxRecDepth 20000 in
theorem gX4_at_X4_own : GoodIn wsX4_at (wsV RX4 67 RX4 yX4_own wsX4_own) := goodIn_app (goodIn_of _ (by decide +kernel)) ggX4_at_X4_own
theorem dX4_at_0 : decode cX4_at 0 = .ok (.iload_n 1, 1) := by decide +kernel
theorem dX4_at_1 : decode cX4_at 1 = .ok (.ifCond .lt 27, 3) := by decide +kernel
theorem dX4_at_4 : decode cX4_at 4 = .ok (.iload_n 1, 1) := by decide +kernel
theorem dX4_at_5 : decode cX4_at 5 = .ok (.aload_n 0, 1) := by decide +kernel
theorem dX4_at_6 : decode cX4_at 6 = .ok (.getfield 47, 3) := by decide +kernel
theorem dX4_at_9 : decode cX4_at 9 = .ok (.if_icmp .ge 19, 3) := by decide +kernel
theorem dX4_at_12 : decode cX4_at 12 = .ok (.iload_n 2, 1) := by decide +kernel
theorem dX4_at_13 : decode cX4_at 13 = .ok (.invokestatic 63, 3) := by decide +kernel
theorem dX4_at_16 : decode cX4_at 16 = .ok (.ifCond .eq 12, 3) := by decide +kernel
theorem dX4_at_19 : decode cX4_at 19 = .ok (.aload_n 0, 1) := by decide +kernel
theorem dX4_at_20 : decode cX4_at 20 = .ok (.iload_n 2, 1) := by decide +kernel
theorem dX4_at_21 : decode cX4_at 21 = .ok (.iload_n 1, 1) := by decide +kernel
theorem dX4_at_22 : decode cX4_at 22 = .ok (.invokevirtual 67, 3) := by decide +kernel
theorem dX4_at_25 : decode cX4_at 25 = .ok (.goto 4, 3) := by decide +kernel
theorem dX4_at_28 : decode cX4_at 28 = .ok (.iconst 0, 1) := by decide +kernel
theorem dX4_at_29 : decode cX4_at 29 = .ok (.ireturn, 1) := by decide +kernel
theorem dX4_number_0 : decode cX4_number 0 = .ok (.aload_n 0, 1) := by decide +kernel
theorem dX4_number_1 : decode cX4_number 1 = .ok (.iconst 0, 1) := by decide +kernel
theorem dX4_number_2 : decode cX4_number 2 = .ok (.putfield 73, 3) := by decide +kernel
theorem dX4_number_5 : decode cX4_number 5 = .ok (.aload_n 0, 1) := by decide +kernel
theorem dX4_number_6 : decode cX4_number 6 = .ok (.iconst 0, 1) := by decide +kernel
theorem dX4_number_7 : decode cX4_number 7 = .ok (.putfield 76, 3) := by decide +kernel
theorem dX4_number_10 : decode cX4_number 10 = .ok (.iconst 0, 1) := by decide +kernel
theorem dX4_number_11 : decode cX4_number 11 = .ok (.istore_n 1, 1) := by decide +kernel
theorem dX4_number_12 : decode cX4_number 12 = .ok (.iload_n 1, 1) := by decide +kernel
theorem dX4_number_13 : decode cX4_number 13 = .ok (.aload_n 0, 1) := by decide +kernel
theorem dX4_number_14 : decode cX4_number 14 = .ok (.getfield 47, 3) := by decide +kernel
theorem dX4_number_17 : decode cX4_number 17 = .ok (.if_icmp .ge 164, 3) := by decide +kernel
theorem dX4_number_20 : decode cX4_number 20 = .ok (.iconst (-1), 1) := by decide +kernel
theorem dX4_number_21 : decode cX4_number 21 = .ok (.istore_n 2, 1) := by decide +kernel
theorem dX4_number_22 : decode cX4_number 22 = .ok (.iconst (-1), 1) := by decide +kernel
theorem dX4_number_23 : decode cX4_number 23 = .ok (.istore_n 3, 1) := by decide +kernel
theorem dX4_number_24 : decode cX4_number 24 = .ok (.iconst 0, 1) := by decide +kernel
theorem dX4_number_25 : decode cX4_number 25 = .ok (.istore 4, 2) := by decide +kernel
theorem dX4_number_27 : decode cX4_number 27 = .ok (.iload 4, 2) := by decide +kernel
theorem dX4_number_29 : decode cX4_number 29 = .ok (.iload_n 1, 1) := by decide +kernel
theorem dX4_number_30 : decode cX4_number 30 = .ok (.if_icmp .ge 65, 3) := by decide +kernel
theorem dX4_number_33 : decode cX4_number 33 = .ok (.aload_n 0, 1) := by decide +kernel
theorem dX4_number_34 : decode cX4_number 34 = .ok (.getfield 7, 3) := by decide +kernel
theorem dX4_number_37 : decode cX4_number 37 = .ok (.iload 4, 2) := by decide +kernel
theorem dX4_number_39 : decode cX4_number 39 = .ok (.iaload, 1) := by decide +kernel
theorem dX4_number_40 : decode cX4_number 40 = .ok (.aload_n 0, 1) := by decide +kernel
theorem dX4_number_41 : decode cX4_number 41 = .ok (.getfield 7, 3) := by decide +kernel
theorem dX4_number_44 : decode cX4_number 44 = .ok (.iload_n 1, 1) := by decide +kernel
theorem dX4_number_45 : decode cX4_number 45 = .ok (.iaload, 1) := by decide +kernel
theorem dX4_number_46 : decode cX4_number 46 = .ok (.if_icmp .ne 13, 3) := by decide +kernel
theorem dX4_number_49 : decode cX4_number 49 = .ok (.aload_n 0, 1) := by decide +kernel
theorem dX4_number_50 : decode cX4_number 50 = .ok (.getfield 16, 3) := by decide +kernel
theorem dX4_number_53 : decode cX4_number 53 = .ok (.iload 4, 2) := by decide +kernel
theorem dX4_number_55 : decode cX4_number 55 = .ok (.iaload, 1) := by decide +kernel
theorem dX4_number_56 : decode cX4_number 56 = .ok (.goto 4, 3) := by decide +kernel
theorem dX4_number_59 : decode cX4_number 59 = .ok (.iload_n 2, 1) := by decide +kernel
theorem dX4_number_60 : decode cX4_number 60 = .ok (.istore_n 2, 1) := by decide +kernel
theorem dX4_number_61 : decode cX4_number 61 = .ok (.aload_n 0, 1) := by decide +kernel
theorem dX4_number_62 : decode cX4_number 62 = .ok (.getfield 13, 3) := by decide +kernel
theorem dX4_number_65 : decode cX4_number 65 = .ok (.iload 4, 2) := by decide +kernel
theorem dX4_number_67 : decode cX4_number 67 = .ok (.iaload, 1) := by decide +kernel
theorem dX4_number_68 : decode cX4_number 68 = .ok (.aload_n 0, 1) := by decide +kernel
theorem dX4_number_69 : decode cX4_number 69 = .ok (.getfield 13, 3) := by decide +kernel
theorem dX4_number_72 : decode cX4_number 72 = .ok (.iload_n 1, 1) := by decide +kernel
theorem dX4_number_73 : decode cX4_number 73 = .ok (.iaload, 1) := by decide +kernel
theorem dX4_number_74 : decode cX4_number 74 = .ok (.if_icmp .ne 13, 3) := by decide +kernel
theorem dX4_number_77 : decode cX4_number 77 = .ok (.aload_n 0, 1) := by decide +kernel
theorem dX4_number_78 : decode cX4_number 78 = .ok (.getfield 19, 3) := by decide +kernel
theorem dX4_number_81 : decode cX4_number 81 = .ok (.iload 4, 2) := by decide +kernel
theorem dX4_number_83 : decode cX4_number 83 = .ok (.iaload, 1) := by decide +kernel
theorem dX4_number_84 : decode cX4_number 84 = .ok (.goto 4, 3) := by decide +kernel
theorem dX4_number_87 : decode cX4_number 87 = .ok (.iload_n 3, 1) := by decide +kernel
theorem dX4_number_88 : decode cX4_number 88 = .ok (.istore_n 3, 1) := by decide +kernel
theorem dX4_number_89 : decode cX4_number 89 = .ok (.iinc 4 1, 3) := by decide +kernel
theorem dX4_number_92 : decode cX4_number 92 = .ok (.goto (-65), 3) := by decide +kernel
theorem dX4_number_95 : decode cX4_number 95 = .ok (.iload_n 2, 1) := by decide +kernel
theorem dX4_number_96 : decode cX4_number 96 = .ok (.iconst (-1), 1) := by decide +kernel
theorem dX4_number_97 : decode cX4_number 97 = .ok (.if_icmp .ne 25, 3) := by decide +kernel
theorem dX4_number_100 : decode cX4_number 100 = .ok (.aload_n 0, 1) := by decide +kernel
theorem dX4_number_101 : decode cX4_number 101 = .ok (.getfield 73, 3) := by decide +kernel
theorem dX4_number_104 : decode cX4_number 104 = .ok (.istore_n 2, 1) := by decide +kernel
theorem dX4_number_105 : decode cX4_number 105 = .ok (.aload_n 0, 1) := by decide +kernel
theorem dX4_number_106 : decode cX4_number 106 = .ok (.dup, 1) := by decide +kernel
theorem dX4_number_107 : decode cX4_number 107 = .ok (.getfield 73, 3) := by decide +kernel
theorem dX4_number_110 : decode cX4_number 110 = .ok (.iconst 1, 1) := by decide +kernel
theorem dX4_number_111 : decode cX4_number 111 = .ok (.iadd, 1) := by decide +kernel
theorem dX4_number_112 : decode cX4_number 112 = .ok (.putfield 73, 3) := by decide +kernel
theorem dX4_number_115 : decode cX4_number 115 = .ok (.aload_n 0, 1) := by decide +kernel
theorem dX4_number_116 : decode cX4_number 116 = .ok (.getfield 22, 3) := by decide +kernel
theorem dX4_number_119 : decode cX4_number 119 = .ok (.iload_n 2, 1) := by decide +kernel
theorem dX4_number_120 : decode cX4_number 120 = .ok (.iconst (-1), 1) := by decide +kernel
theorem dX4_number_121 : decode cX4_number 121 = .ok (.iastore, 1) := by decide +kernel
theorem dX4_number_122 : decode cX4_number 122 = .ok (.iload_n 3, 1) := by decide +kernel
theorem dX4_number_123 : decode cX4_number 123 = .ok (.iconst (-1), 1) := by decide +kernel
theorem dX4_number_124 : decode cX4_number 124 = .ok (.if_icmp .ne 18, 3) := by decide +kernel
theorem dX4_number_127 : decode cX4_number 127 = .ok (.aload_n 0, 1) := by decide +kernel
theorem dX4_number_128 : decode cX4_number 128 = .ok (.getfield 76, 3) := by decide +kernel
theorem dX4_number_131 : decode cX4_number 131 = .ok (.istore_n 3, 1) := by decide +kernel
theorem dX4_number_132 : decode cX4_number 132 = .ok (.aload_n 0, 1) := by decide +kernel
theorem dX4_number_133 : decode cX4_number 133 = .ok (.dup, 1) := by decide +kernel
theorem dX4_number_134 : decode cX4_number 134 = .ok (.getfield 76, 3) := by decide +kernel
theorem dX4_number_137 : decode cX4_number 137 = .ok (.iconst 1, 1) := by decide +kernel
theorem dX4_number_138 : decode cX4_number 138 = .ok (.iadd, 1) := by decide +kernel
theorem dX4_number_139 : decode cX4_number 139 = .ok (.putfield 76, 3) := by decide +kernel
theorem dX4_number_142 : decode cX4_number 142 = .ok (.aload_n 0, 1) := by decide +kernel
theorem dX4_number_143 : decode cX4_number 143 = .ok (.getfield 16, 3) := by decide +kernel
theorem dX4_number_146 : decode cX4_number 146 = .ok (.iload_n 1, 1) := by decide +kernel
theorem dX4_number_147 : decode cX4_number 147 = .ok (.iload_n 2, 1) := by decide +kernel
theorem dX4_number_148 : decode cX4_number 148 = .ok (.iastore, 1) := by decide +kernel
theorem dX4_number_149 : decode cX4_number 149 = .ok (.aload_n 0, 1) := by decide +kernel
theorem dX4_number_150 : decode cX4_number 150 = .ok (.getfield 19, 3) := by decide +kernel
theorem dX4_number_153 : decode cX4_number 153 = .ok (.iload_n 1, 1) := by decide +kernel
theorem dX4_number_154 : decode cX4_number 154 = .ok (.iload_n 3, 1) := by decide +kernel
theorem dX4_number_155 : decode cX4_number 155 = .ok (.iastore, 1) := by decide +kernel
theorem dX4_number_156 : decode cX4_number 156 = .ok (.aload_n 0, 1) := by decide +kernel
theorem dX4_number_157 : decode cX4_number 157 = .ok (.getfield 25, 3) := by decide +kernel
theorem dX4_number_160 : decode cX4_number 160 = .ok (.iload_n 1, 1) := by decide +kernel
theorem dX4_number_161 : decode cX4_number 161 = .ok (.aload_n 0, 1) := by decide +kernel
theorem dX4_number_162 : decode cX4_number 162 = .ok (.getfield 22, 3) := by decide +kernel
theorem dX4_number_165 : decode cX4_number 165 = .ok (.iload_n 2, 1) := by decide +kernel
theorem dX4_number_166 : decode cX4_number 166 = .ok (.iaload, 1) := by decide +kernel
theorem dX4_number_167 : decode cX4_number 167 = .ok (.iastore, 1) := by decide +kernel
theorem dX4_number_168 : decode cX4_number 168 = .ok (.aload_n 0, 1) := by decide +kernel
theorem dX4_number_169 : decode cX4_number 169 = .ok (.getfield 22, 3) := by decide +kernel
theorem dX4_number_172 : decode cX4_number 172 = .ok (.iload_n 2, 1) := by decide +kernel
theorem dX4_number_173 : decode cX4_number 173 = .ok (.iload_n 1, 1) := by decide +kernel
theorem dX4_number_174 : decode cX4_number 174 = .ok (.iastore, 1) := by decide +kernel
theorem dX4_number_175 : decode cX4_number 175 = .ok (.iinc 1 1, 3) := by decide +kernel
theorem dX4_number_178 : decode cX4_number 178 = .ok (.goto (-166), 3) := by decide +kernel
theorem dX4_number_181 : decode cX4_number 181 = .ok (.return_, 1) := by decide +kernel
set_option maxRecDepth 20000 in
theorem ggX4_grows_X4_turn : GoodIn wsX4_grows wsX4_turn := goodIn_r _ [12, 2, 1, 6, 13, 14, 15, 16, 17, 18, 19, 20, 21, 22, 23, 24, 25, 26, 27] (by decide +kernel) (by decide +kernel)
set_option maxRecDepth 20000 in
theorem gX4_grows_X4_turn : GoodIn wsX4_grows (wsV RX4 79 RX4 yX4_turn wsX4_turn) := goodIn_app (goodIn_of _ (by decide +kernel)) ggX4_grows_X4_turn
theorem dX4_grows_0 : decode cX4_grows 0 = .ok (.iconst 0, 1) := by decide +kernel
theorem dX4_grows_1 : decode cX4_grows 1 = .ok (.istore_n 2, 1) := by decide +kernel
theorem dX4_grows_2 : decode cX4_grows 2 = .ok (.iload_n 2, 1) := by decide +kernel
theorem dX4_grows_3 : decode cX4_grows 3 = .ok (.aload_n 0, 1) := by decide +kernel
theorem dX4_grows_4 : decode cX4_grows 4 = .ok (.getfield 76, 3) := by decide +kernel
theorem dX4_grows_7 : decode cX4_grows 7 = .ok (.if_icmp .ge 16, 3) := by decide +kernel
theorem dX4_grows_10 : decode cX4_grows 10 = .ok (.aload_n 0, 1) := by decide +kernel
theorem dX4_grows_11 : decode cX4_grows 11 = .ok (.getfield 38, 3) := by decide +kernel
theorem dX4_grows_14 : decode cX4_grows 14 = .ok (.iload_n 2, 1) := by decide +kernel
theorem dX4_grows_15 : decode cX4_grows 15 = .ok (.iconst (-1), 1) := by decide +kernel
theorem dX4_grows_16 : decode cX4_grows 16 = .ok (.iastore, 1) := by decide +kernel
theorem dX4_grows_17 : decode cX4_grows 17 = .ok (.iinc 2 1, 3) := by decide +kernel
theorem dX4_grows_20 : decode cX4_grows 20 = .ok (.goto (-18), 3) := by decide +kernel
theorem dX4_grows_23 : decode cX4_grows 23 = .ok (.iconst 1, 1) := by decide +kernel
theorem dX4_grows_24 : decode cX4_grows 24 = .ok (.istore_n 2, 1) := by decide +kernel
theorem dX4_grows_25 : decode cX4_grows 25 = .ok (.aload_n 0, 1) := by decide +kernel
theorem dX4_grows_26 : decode cX4_grows 26 = .ok (.getfield 35, 3) := by decide +kernel
theorem dX4_grows_29 : decode cX4_grows 29 = .ok (.iconst 0, 1) := by decide +kernel
theorem dX4_grows_30 : decode cX4_grows 30 = .ok (.iload_n 1, 1) := by decide +kernel
theorem dX4_grows_31 : decode cX4_grows 31 = .ok (.iastore, 1) := by decide +kernel
theorem dX4_grows_32 : decode cX4_grows 32 = .ok (.iconst 0, 1) := by decide +kernel
theorem dX4_grows_33 : decode cX4_grows 33 = .ok (.istore_n 3, 1) := by decide +kernel
theorem dX4_grows_34 : decode cX4_grows 34 = .ok (.iload_n 3, 1) := by decide +kernel
theorem dX4_grows_35 : decode cX4_grows 35 = .ok (.iload_n 2, 1) := by decide +kernel
theorem dX4_grows_36 : decode cX4_grows 36 = .ok (.if_icmp .ge 112, 3) := by decide +kernel
theorem dX4_grows_39 : decode cX4_grows 39 = .ok (.aload_n 0, 1) := by decide +kernel
theorem dX4_grows_40 : decode cX4_grows 40 = .ok (.getfield 35, 3) := by decide +kernel
theorem dX4_grows_43 : decode cX4_grows 43 = .ok (.iload_n 3, 1) := by decide +kernel
theorem dX4_grows_44 : decode cX4_grows 44 = .ok (.iaload, 1) := by decide +kernel
theorem dX4_grows_45 : decode cX4_grows 45 = .ok (.istore 4, 2) := by decide +kernel
theorem dX4_grows_47 : decode cX4_grows 47 = .ok (.aload_n 0, 1) := by decide +kernel
theorem dX4_grows_48 : decode cX4_grows 48 = .ok (.getfield 22, 3) := by decide +kernel
theorem dX4_grows_51 : decode cX4_grows 51 = .ok (.iload 4, 2) := by decide +kernel
theorem dX4_grows_53 : decode cX4_grows 53 = .ok (.iaload, 1) := by decide +kernel
theorem dX4_grows_54 : decode cX4_grows 54 = .ok (.istore 5, 2) := by decide +kernel
theorem dX4_grows_56 : decode cX4_grows 56 = .ok (.iload 5, 2) := by decide +kernel
theorem dX4_grows_58 : decode cX4_grows 58 = .ok (.iconst (-1), 1) := by decide +kernel
theorem dX4_grows_59 : decode cX4_grows 59 = .ok (.if_icmp .eq 83, 3) := by decide +kernel
theorem dX4_grows_62 : decode cX4_grows 62 = .ok (.aload_n 0, 1) := by decide +kernel
theorem dX4_grows_63 : decode cX4_grows 63 = .ok (.getfield 19, 3) := by decide +kernel
theorem dX4_grows_66 : decode cX4_grows 66 = .ok (.iload 5, 2) := by decide +kernel
theorem dX4_grows_68 : decode cX4_grows 68 = .ok (.iaload, 1) := by decide +kernel
theorem dX4_grows_69 : decode cX4_grows 69 = .ok (.istore 6, 2) := by decide +kernel
theorem dX4_grows_71 : decode cX4_grows 71 = .ok (.aload_n 0, 1) := by decide +kernel
theorem dX4_grows_72 : decode cX4_grows 72 = .ok (.getfield 38, 3) := by decide +kernel
theorem dX4_grows_75 : decode cX4_grows 75 = .ok (.iload 6, 2) := by decide +kernel
theorem dX4_grows_77 : decode cX4_grows 77 = .ok (.iaload, 1) := by decide +kernel
theorem dX4_grows_78 : decode cX4_grows 78 = .ok (.iconst (-1), 1) := by decide +kernel
theorem dX4_grows_79 : decode cX4_grows 79 = .ok (.if_icmp .eq 6, 3) := by decide +kernel
theorem dX4_grows_82 : decode cX4_grows 82 = .ok (.goto 48, 3) := by decide +kernel
theorem dX4_grows_85 : decode cX4_grows 85 = .ok (.aload_n 0, 1) := by decide +kernel
theorem dX4_grows_86 : decode cX4_grows 86 = .ok (.getfield 38, 3) := by decide +kernel
theorem dX4_grows_89 : decode cX4_grows 89 = .ok (.iload 6, 2) := by decide +kernel
theorem dX4_grows_91 : decode cX4_grows 91 = .ok (.iload 4, 2) := by decide +kernel
theorem dX4_grows_93 : decode cX4_grows 93 = .ok (.iastore, 1) := by decide +kernel
theorem dX4_grows_94 : decode cX4_grows 94 = .ok (.aload_n 0, 1) := by decide +kernel
theorem dX4_grows_95 : decode cX4_grows 95 = .ok (.getfield 28, 3) := by decide +kernel
theorem dX4_grows_98 : decode cX4_grows 98 = .ok (.iload 6, 2) := by decide +kernel
theorem dX4_grows_100 : decode cX4_grows 100 = .ok (.iaload, 1) := by decide +kernel
theorem dX4_grows_101 : decode cX4_grows 101 = .ok (.iconst (-1), 1) := by decide +kernel
theorem dX4_grows_102 : decode cX4_grows 102 = .ok (.if_icmp .ne 12, 3) := by decide +kernel
theorem dX4_grows_105 : decode cX4_grows 105 = .ok (.aload_n 0, 1) := by decide +kernel
theorem dX4_grows_106 : decode cX4_grows 106 = .ok (.iload_n 1, 1) := by decide +kernel
theorem dX4_grows_107 : decode cX4_grows 107 = .ok (.iload 6, 2) := by decide +kernel
theorem dX4_grows_109 : decode cX4_grows 109 = .ok (.invokevirtual 79, 3) := by decide +kernel
theorem dX4_grows_112 : decode cX4_grows 112 = .ok (.iconst 1, 1) := by decide +kernel
theorem dX4_grows_113 : decode cX4_grows 113 = .ok (.ireturn, 1) := by decide +kernel
theorem dX4_grows_114 : decode cX4_grows 114 = .ok (.aload_n 0, 1) := by decide +kernel
theorem dX4_grows_115 : decode cX4_grows 115 = .ok (.getfield 35, 3) := by decide +kernel
theorem dX4_grows_118 : decode cX4_grows 118 = .ok (.iload_n 2, 1) := by decide +kernel
theorem dX4_grows_119 : decode cX4_grows 119 = .ok (.aload_n 0, 1) := by decide +kernel
theorem dX4_grows_120 : decode cX4_grows 120 = .ok (.getfield 28, 3) := by decide +kernel
theorem dX4_grows_123 : decode cX4_grows 123 = .ok (.iload 6, 2) := by decide +kernel
theorem dX4_grows_125 : decode cX4_grows 125 = .ok (.iaload, 1) := by decide +kernel
theorem dX4_grows_126 : decode cX4_grows 126 = .ok (.iastore, 1) := by decide +kernel
theorem dX4_grows_127 : decode cX4_grows 127 = .ok (.iinc 2 1, 3) := by decide +kernel
theorem dX4_grows_130 : decode cX4_grows 130 = .ok (.aload_n 0, 1) := by decide +kernel
theorem dX4_grows_131 : decode cX4_grows 131 = .ok (.getfield 25, 3) := by decide +kernel
theorem dX4_grows_134 : decode cX4_grows 134 = .ok (.iload 5, 2) := by decide +kernel
theorem dX4_grows_136 : decode cX4_grows 136 = .ok (.iaload, 1) := by decide +kernel
theorem dX4_grows_137 : decode cX4_grows 137 = .ok (.istore 5, 2) := by decide +kernel
theorem dX4_grows_139 : decode cX4_grows 139 = .ok (.goto (-83), 3) := by decide +kernel
theorem dX4_grows_142 : decode cX4_grows 142 = .ok (.iinc 3 1, 3) := by decide +kernel
theorem dX4_grows_145 : decode cX4_grows 145 = .ok (.goto (-111), 3) := by decide +kernel
theorem dX4_grows_148 : decode cX4_grows 148 = .ok (.iconst 0, 1) := by decide +kernel
theorem dX4_grows_149 : decode cX4_grows 149 = .ok (.ireturn, 1) := by decide +kernel
theorem dX4_turn_0 : decode cX4_turn 0 = .ok (.iload_n 2, 1) := by decide +kernel
theorem dX4_turn_1 : decode cX4_turn 1 = .ok (.istore_n 3, 1) := by decide +kernel
theorem dX4_turn_2 : decode cX4_turn 2 = .ok (.iconst 1, 1) := by decide +kernel
theorem dX4_turn_3 : decode cX4_turn 3 = .ok (.istore 4, 2) := by decide +kernel
theorem dX4_turn_5 : decode cX4_turn 5 = .ok (.iload 4, 2) := by decide +kernel
theorem dX4_turn_7 : decode cX4_turn 7 = .ok (.ifCond .eq 80, 3) := by decide +kernel
theorem dX4_turn_10 : decode cX4_turn 10 = .ok (.aload_n 0, 1) := by decide +kernel
theorem dX4_turn_11 : decode cX4_turn 11 = .ok (.getfield 38, 3) := by decide +kernel
theorem dX4_turn_14 : decode cX4_turn 14 = .ok (.iload_n 3, 1) := by decide +kernel
theorem dX4_turn_15 : decode cX4_turn 15 = .ok (.iaload, 1) := by decide +kernel
theorem dX4_turn_16 : decode cX4_turn 16 = .ok (.istore 5, 2) := by decide +kernel
theorem dX4_turn_18 : decode cX4_turn 18 = .ok (.iconst (-1), 1) := by decide +kernel
theorem dX4_turn_19 : decode cX4_turn 19 = .ok (.istore 6, 2) := by decide +kernel
theorem dX4_turn_21 : decode cX4_turn 21 = .ok (.iconst 0, 1) := by decide +kernel
theorem dX4_turn_22 : decode cX4_turn 22 = .ok (.istore 7, 2) := by decide +kernel
theorem dX4_turn_24 : decode cX4_turn 24 = .ok (.iload 7, 2) := by decide +kernel
theorem dX4_turn_26 : decode cX4_turn 26 = .ok (.aload_n 0, 1) := by decide +kernel
theorem dX4_turn_27 : decode cX4_turn 27 = .ok (.getfield 76, 3) := by decide +kernel
theorem dX4_turn_30 : decode cX4_turn 30 = .ok (.if_icmp .ge 30, 3) := by decide +kernel
theorem dX4_turn_33 : decode cX4_turn 33 = .ok (.aload_n 0, 1) := by decide +kernel
theorem dX4_turn_34 : decode cX4_turn 34 = .ok (.getfield 28, 3) := by decide +kernel
theorem dX4_turn_37 : decode cX4_turn 37 = .ok (.iload 7, 2) := by decide +kernel
theorem dX4_turn_39 : decode cX4_turn 39 = .ok (.iaload, 1) := by decide +kernel
theorem dX4_turn_40 : decode cX4_turn 40 = .ok (.iload 5, 2) := by decide +kernel
theorem dX4_turn_42 : decode cX4_turn 42 = .ok (.if_icmp .ne 8, 3) := by decide +kernel
theorem dX4_turn_45 : decode cX4_turn 45 = .ok (.iload 7, 2) := by decide +kernel
theorem dX4_turn_47 : decode cX4_turn 47 = .ok (.goto 5, 3) := by decide +kernel
theorem dX4_turn_50 : decode cX4_turn 50 = .ok (.iload 6, 2) := by decide +kernel
theorem dX4_turn_52 : decode cX4_turn 52 = .ok (.istore 6, 2) := by decide +kernel
theorem dX4_turn_54 : decode cX4_turn 54 = .ok (.iinc 7 1, 3) := by decide +kernel
theorem dX4_turn_57 : decode cX4_turn 57 = .ok (.goto (-33), 3) := by decide +kernel
theorem dX4_turn_60 : decode cX4_turn 60 = .ok (.aload_n 0, 1) := by decide +kernel
theorem dX4_turn_61 : decode cX4_turn 61 = .ok (.getfield 28, 3) := by decide +kernel
theorem dX4_turn_64 : decode cX4_turn 64 = .ok (.iload_n 3, 1) := by decide +kernel
theorem dX4_turn_65 : decode cX4_turn 65 = .ok (.iload 5, 2) := by decide +kernel
theorem dX4_turn_67 : decode cX4_turn 67 = .ok (.iastore, 1) := by decide +kernel
theorem dX4_turn_68 : decode cX4_turn 68 = .ok (.iload 5, 2) := by decide +kernel
theorem dX4_turn_70 : decode cX4_turn 70 = .ok (.iload_n 1, 1) := by decide +kernel
theorem dX4_turn_71 : decode cX4_turn 71 = .ok (.if_icmp .eq 7, 3) := by decide +kernel
theorem dX4_turn_74 : decode cX4_turn 74 = .ok (.iconst 1, 1) := by decide +kernel
theorem dX4_turn_75 : decode cX4_turn 75 = .ok (.goto 4, 3) := by decide +kernel
theorem dX4_turn_78 : decode cX4_turn 78 = .ok (.iconst 0, 1) := by decide +kernel
theorem dX4_turn_79 : decode cX4_turn 79 = .ok (.istore 4, 2) := by decide +kernel
theorem dX4_turn_81 : decode cX4_turn 81 = .ok (.iload 6, 2) := by decide +kernel
theorem dX4_turn_83 : decode cX4_turn 83 = .ok (.istore_n 3, 1) := by decide +kernel
theorem dX4_turn_84 : decode cX4_turn 84 = .ok (.goto (-79), 3) := by decide +kernel
theorem dX4_turn_87 : decode cX4_turn 87 = .ok (.return_, 1) := by decide +kernel
set_option maxRecDepth 20000 in
theorem ggX4_matching_X4_number : GoodIn wsX4_matching wsX4_number := goodIn_r _ [8, 3, 1, 9, 10, 11, 12, 13, 14, 15, 26, 27, 28, 29, 30, 31, 32, 33, 34, 35, 36, 37, 38, 39, 40] (by decide +kernel) (by decide +kernel)
set_option maxRecDepth 20000 in
theorem gX4_matching_X4_number : GoodIn wsX4_matching (wsV RX4 82 RX4 yX4_number wsX4_number) := goodIn_app (goodIn_of _ (by decide +kernel)) ggX4_matching_X4_number
set_option maxRecDepth 20000 in
theorem ggX4_matching_X4_grows : GoodIn wsX4_matching wsX4_grows := goodIn_r _ [19, 1, 20, 21, 14, 13, 2, 15, 22, 23, 24, 7, 25, 26, 27, 28, 29, 30, 31, 32, 33, 34, 35, 36, 37, 38, 39, 40] (by decide +kernel) (by decide +kernel)
set_option maxRecDepth 20000 in
theorem gX4_matching_X4_grows : GoodIn wsX4_matching (wsV RX4 85 RX4 yX4_grows wsX4_grows) := goodIn_app (goodIn_of _ (by decide +kernel)) ggX4_matching_X4_grows
theorem dX4_matching_0 : decode cX4_matching 0 = .ok (.aload_n 0, 1) := by decide +kernel
theorem dX4_matching_1 : decode cX4_matching 1 = .ok (.invokevirtual 82, 3) := by decide +kernel
theorem dX4_matching_4 : decode cX4_matching 4 = .ok (.iconst 0, 1) := by decide +kernel
theorem dX4_matching_5 : decode cX4_matching 5 = .ok (.istore_n 1, 1) := by decide +kernel
theorem dX4_matching_6 : decode cX4_matching 6 = .ok (.iload_n 1, 1) := by decide +kernel
theorem dX4_matching_7 : decode cX4_matching 7 = .ok (.aload_n 0, 1) := by decide +kernel
theorem dX4_matching_8 : decode cX4_matching 8 = .ok (.getfield 76, 3) := by decide +kernel
theorem dX4_matching_11 : decode cX4_matching 11 = .ok (.if_icmp .ge 16, 3) := by decide +kernel
theorem dX4_matching_14 : decode cX4_matching 14 = .ok (.aload_n 0, 1) := by decide +kernel
theorem dX4_matching_15 : decode cX4_matching 15 = .ok (.getfield 28, 3) := by decide +kernel
theorem dX4_matching_18 : decode cX4_matching 18 = .ok (.iload_n 1, 1) := by decide +kernel
theorem dX4_matching_19 : decode cX4_matching 19 = .ok (.iconst (-1), 1) := by decide +kernel
theorem dX4_matching_20 : decode cX4_matching 20 = .ok (.iastore, 1) := by decide +kernel
theorem dX4_matching_21 : decode cX4_matching 21 = .ok (.iinc 1 1, 3) := by decide +kernel
theorem dX4_matching_24 : decode cX4_matching 24 = .ok (.goto (-18), 3) := by decide +kernel
theorem dX4_matching_27 : decode cX4_matching 27 = .ok (.iconst 0, 1) := by decide +kernel
theorem dX4_matching_28 : decode cX4_matching 28 = .ok (.istore_n 1, 1) := by decide +kernel
theorem dX4_matching_29 : decode cX4_matching 29 = .ok (.iconst 0, 1) := by decide +kernel
theorem dX4_matching_30 : decode cX4_matching 30 = .ok (.istore_n 2, 1) := by decide +kernel
theorem dX4_matching_31 : decode cX4_matching 31 = .ok (.iload_n 2, 1) := by decide +kernel
theorem dX4_matching_32 : decode cX4_matching 32 = .ok (.aload_n 0, 1) := by decide +kernel
theorem dX4_matching_33 : decode cX4_matching 33 = .ok (.getfield 73, 3) := by decide +kernel
theorem dX4_matching_36 : decode cX4_matching 36 = .ok (.if_icmp .ge 25, 3) := by decide +kernel
theorem dX4_matching_39 : decode cX4_matching 39 = .ok (.aload_n 0, 1) := by decide +kernel
theorem dX4_matching_40 : decode cX4_matching 40 = .ok (.iload_n 2, 1) := by decide +kernel
theorem dX4_matching_41 : decode cX4_matching 41 = .ok (.invokevirtual 85, 3) := by decide +kernel
theorem dX4_matching_44 : decode cX4_matching 44 = .ok (.ifCond .eq 9, 3) := by decide +kernel
theorem dX4_matching_47 : decode cX4_matching 47 = .ok (.iload_n 1, 1) := by decide +kernel
theorem dX4_matching_48 : decode cX4_matching 48 = .ok (.iconst 1, 1) := by decide +kernel
theorem dX4_matching_49 : decode cX4_matching 49 = .ok (.iadd, 1) := by decide +kernel
theorem dX4_matching_50 : decode cX4_matching 50 = .ok (.goto 4, 3) := by decide +kernel
theorem dX4_matching_53 : decode cX4_matching 53 = .ok (.iload_n 1, 1) := by decide +kernel
theorem dX4_matching_54 : decode cX4_matching 54 = .ok (.istore_n 1, 1) := by decide +kernel
theorem dX4_matching_55 : decode cX4_matching 55 = .ok (.iinc 2 1, 3) := by decide +kernel
theorem dX4_matching_58 : decode cX4_matching 58 = .ok (.goto (-27), 3) := by decide +kernel
theorem dX4_matching_61 : decode cX4_matching 61 = .ok (.iload_n 1, 1) := by decide +kernel
theorem dX4_matching_62 : decode cX4_matching 62 = .ok (.ireturn, 1) := by decide +kernel
theorem dX4_touch_0 : decode cX4_touch 0 = .ok (.aload_n 0, 1) := by decide +kernel
theorem dX4_touch_1 : decode cX4_touch 1 = .ok (.getfield 7, 3) := by decide +kernel
theorem dX4_touch_4 : decode cX4_touch 4 = .ok (.iload_n 1, 1) := by decide +kernel
theorem dX4_touch_5 : decode cX4_touch 5 = .ok (.iaload, 1) := by decide +kernel
theorem dX4_touch_6 : decode cX4_touch 6 = .ok (.aload_n 0, 1) := by decide +kernel
theorem dX4_touch_7 : decode cX4_touch 7 = .ok (.getfield 7, 3) := by decide +kernel
theorem dX4_touch_10 : decode cX4_touch 10 = .ok (.iload_n 2, 1) := by decide +kernel
theorem dX4_touch_11 : decode cX4_touch 11 = .ok (.iaload, 1) := by decide +kernel
theorem dX4_touch_12 : decode cX4_touch 12 = .ok (.if_icmp .eq 18, 3) := by decide +kernel
theorem dX4_touch_15 : decode cX4_touch 15 = .ok (.aload_n 0, 1) := by decide +kernel
theorem dX4_touch_16 : decode cX4_touch 16 = .ok (.getfield 13, 3) := by decide +kernel
theorem dX4_touch_19 : decode cX4_touch 19 = .ok (.iload_n 1, 1) := by decide +kernel
theorem dX4_touch_20 : decode cX4_touch 20 = .ok (.iaload, 1) := by decide +kernel
theorem dX4_touch_21 : decode cX4_touch 21 = .ok (.aload_n 0, 1) := by decide +kernel
theorem dX4_touch_22 : decode cX4_touch 22 = .ok (.getfield 13, 3) := by decide +kernel
theorem dX4_touch_25 : decode cX4_touch 25 = .ok (.iload_n 2, 1) := by decide +kernel
theorem dX4_touch_26 : decode cX4_touch 26 = .ok (.iaload, 1) := by decide +kernel
theorem dX4_touch_27 : decode cX4_touch 27 = .ok (.if_icmp .ne 7, 3) := by decide +kernel
theorem dX4_touch_30 : decode cX4_touch 30 = .ok (.iconst 1, 1) := by decide +kernel
theorem dX4_touch_31 : decode cX4_touch 31 = .ok (.goto 4, 3) := by decide +kernel
theorem dX4_touch_34 : decode cX4_touch 34 = .ok (.iconst 0, 1) := by decide +kernel
theorem dX4_touch_35 : decode cX4_touch 35 = .ok (.ireturn, 1) := by decide +kernel

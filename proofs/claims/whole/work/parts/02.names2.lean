set_option maxRecDepth 20000 in
theorem ggX2_takeOut_X2_untie : GoodIn wsX2_takeOut wsX2_untie := goodIn_r _ [11, 12, 13, 14, 15, 16, 17, 18] (by decide +kernel) (by decide +kernel)
set_option maxRecDepth 20000 in
theorem gX2_takeOut_X2_untie : GoodIn wsX2_takeOut (wsV RX2 41 RX2 yX2_untie wsX2_untie) := goodIn_app (goodIn_of _ (by decide +kernel)) ggX2_takeOut_X2_untie
theorem dX2_takeOut_0 : decode cX2_takeOut 0 = .ok (.aload_n 0, 1) := by decide +kernel
theorem dX2_takeOut_1 : decode cX2_takeOut 1 = .ok (.getfield 9, 3) := by decide +kernel
theorem dX2_takeOut_4 : decode cX2_takeOut 4 = .ok (.iload_n 1, 1) := by decide +kernel
theorem dX2_takeOut_5 : decode cX2_takeOut 5 = .ok (.iaload, 1) := by decide +kernel
theorem dX2_takeOut_6 : decode cX2_takeOut 6 = .ok (.istore_n 2, 1) := by decide +kernel
theorem dX2_takeOut_7 : decode cX2_takeOut 7 = .ok (.aload_n 0, 1) := by decide +kernel
theorem dX2_takeOut_8 : decode cX2_takeOut 8 = .ok (.iconst 0, 1) := by decide +kernel
theorem dX2_takeOut_9 : decode cX2_takeOut 9 = .ok (.iload_n 2, 1) := by decide +kernel
theorem dX2_takeOut_10 : decode cX2_takeOut 10 = .ok (.invokevirtual 41, 3) := by decide +kernel
theorem dX2_takeOut_13 : decode cX2_takeOut 13 = .ok (.aload_n 0, 1) := by decide +kernel
theorem dX2_takeOut_14 : decode cX2_takeOut 14 = .ok (.iconst 1, 1) := by decide +kernel
theorem dX2_takeOut_15 : decode cX2_takeOut 15 = .ok (.iload_n 2, 1) := by decide +kernel
theorem dX2_takeOut_16 : decode cX2_takeOut 16 = .ok (.invokevirtual 41, 3) := by decide +kernel
theorem dX2_takeOut_19 : decode cX2_takeOut 19 = .ok (.aload_n 0, 1) := by decide +kernel
theorem dX2_takeOut_20 : decode cX2_takeOut 20 = .ok (.dup, 1) := by decide +kernel
theorem dX2_takeOut_21 : decode cX2_takeOut 21 = .ok (.getfield 26, 3) := by decide +kernel
theorem dX2_takeOut_24 : decode cX2_takeOut 24 = .ok (.iconst 1, 1) := by decide +kernel
theorem dX2_takeOut_25 : decode cX2_takeOut 25 = .ok (.isub, 1) := by decide +kernel
theorem dX2_takeOut_26 : decode cX2_takeOut 26 = .ok (.putfield 26, 3) := by decide +kernel
theorem dX2_takeOut_29 : decode cX2_takeOut 29 = .ok (.aload_n 0, 1) := by decide +kernel
theorem dX2_takeOut_30 : decode cX2_takeOut 30 = .ok (.getfield 9, 3) := by decide +kernel
theorem dX2_takeOut_33 : decode cX2_takeOut 33 = .ok (.iload_n 1, 1) := by decide +kernel
theorem dX2_takeOut_34 : decode cX2_takeOut 34 = .ok (.iconst 1, 1) := by decide +kernel
theorem dX2_takeOut_35 : decode cX2_takeOut 35 = .ok (.iadd, 1) := by decide +kernel
theorem dX2_takeOut_36 : decode cX2_takeOut 36 = .ok (.aload_n 0, 1) := by decide +kernel
theorem dX2_takeOut_37 : decode cX2_takeOut 37 = .ok (.getfield 9, 3) := by decide +kernel
theorem dX2_takeOut_40 : decode cX2_takeOut 40 = .ok (.iload_n 1, 1) := by decide +kernel
theorem dX2_takeOut_41 : decode cX2_takeOut 41 = .ok (.aload_n 0, 1) := by decide +kernel
theorem dX2_takeOut_42 : decode cX2_takeOut 42 = .ok (.getfield 26, 3) := by decide +kernel
theorem dX2_takeOut_45 : decode cX2_takeOut 45 = .ok (.iload_n 1, 1) := by decide +kernel
theorem dX2_takeOut_46 : decode cX2_takeOut 46 = .ok (.isub, 1) := by decide +kernel
theorem dX2_takeOut_47 : decode cX2_takeOut 47 = .ok (.invokestatic 45, 3) := by decide +kernel
theorem dX2_takeOut_50 : decode cX2_takeOut 50 = .ok (.aload_n 0, 1) := by decide +kernel
theorem dX2_takeOut_51 : decode cX2_takeOut 51 = .ok (.getfield 9, 3) := by decide +kernel
theorem dX2_takeOut_54 : decode cX2_takeOut 54 = .ok (.aload_n 0, 1) := by decide +kernel
theorem dX2_takeOut_55 : decode cX2_takeOut 55 = .ok (.getfield 26, 3) := by decide +kernel
theorem dX2_takeOut_58 : decode cX2_takeOut 58 = .ok (.iload_n 2, 1) := by decide +kernel
theorem dX2_takeOut_59 : decode cX2_takeOut 59 = .ok (.iastore, 1) := by decide +kernel
theorem dX2_takeOut_60 : decode cX2_takeOut 60 = .ok (.return_, 1) := by decide +kernel
theorem dX2_untie_0 : decode cX2_untie 0 = .ok (.aload_n 0, 1) := by decide +kernel
theorem dX2_untie_1 : decode cX2_untie 1 = .ok (.getfield 20, 3) := by decide +kernel
theorem dX2_untie_4 : decode cX2_untie 4 = .ok (.iload_n 1, 1) := by decide +kernel
theorem dX2_untie_5 : decode cX2_untie 5 = .ok (.aaload, 1) := by decide +kernel
theorem dX2_untie_6 : decode cX2_untie 6 = .ok (.iload_n 2, 1) := by decide +kernel
theorem dX2_untie_7 : decode cX2_untie 7 = .ok (.iaload, 1) := by decide +kernel
theorem dX2_untie_8 : decode cX2_untie 8 = .ok (.istore_n 3, 1) := by decide +kernel
theorem dX2_untie_9 : decode cX2_untie 9 = .ok (.aload_n 0, 1) := by decide +kernel
theorem dX2_untie_10 : decode cX2_untie 10 = .ok (.getfield 23, 3) := by decide +kernel
theorem dX2_untie_13 : decode cX2_untie 13 = .ok (.iload_n 1, 1) := by decide +kernel
theorem dX2_untie_14 : decode cX2_untie 14 = .ok (.aaload, 1) := by decide +kernel
theorem dX2_untie_15 : decode cX2_untie 15 = .ok (.iload_n 2, 1) := by decide +kernel
theorem dX2_untie_16 : decode cX2_untie 16 = .ok (.iaload, 1) := by decide +kernel
theorem dX2_untie_17 : decode cX2_untie 17 = .ok (.istore 4, 2) := by decide +kernel
theorem dX2_untie_19 : decode cX2_untie 19 = .ok (.iload_n 3, 1) := by decide +kernel
theorem dX2_untie_20 : decode cX2_untie 20 = .ok (.iconst (-1), 1) := by decide +kernel
theorem dX2_untie_21 : decode cX2_untie 21 = .ok (.if_icmp .eq 13, 3) := by decide +kernel
theorem dX2_untie_24 : decode cX2_untie 24 = .ok (.aload_n 0, 1) := by decide +kernel
theorem dX2_untie_25 : decode cX2_untie 25 = .ok (.getfield 23, 3) := by decide +kernel
theorem dX2_untie_28 : decode cX2_untie 28 = .ok (.iload_n 1, 1) := by decide +kernel
theorem dX2_untie_29 : decode cX2_untie 29 = .ok (.aaload, 1) := by decide +kernel
theorem dX2_untie_30 : decode cX2_untie 30 = .ok (.iload_n 3, 1) := by decide +kernel
theorem dX2_untie_31 : decode cX2_untie 31 = .ok (.iload 4, 2) := by decide +kernel
theorem dX2_untie_33 : decode cX2_untie 33 = .ok (.iastore, 1) := by decide +kernel
theorem dX2_untie_34 : decode cX2_untie 34 = .ok (.iload 4, 2) := by decide +kernel
theorem dX2_untie_36 : decode cX2_untie 36 = .ok (.iconst (-1), 1) := by decide +kernel
theorem dX2_untie_37 : decode cX2_untie 37 = .ok (.if_icmp .eq 13, 3) := by decide +kernel
theorem dX2_untie_40 : decode cX2_untie 40 = .ok (.aload_n 0, 1) := by decide +kernel
theorem dX2_untie_41 : decode cX2_untie 41 = .ok (.getfield 20, 3) := by decide +kernel
theorem dX2_untie_44 : decode cX2_untie 44 = .ok (.iload_n 1, 1) := by decide +kernel
theorem dX2_untie_45 : decode cX2_untie 45 = .ok (.aaload, 1) := by decide +kernel
theorem dX2_untie_46 : decode cX2_untie 46 = .ok (.iload 4, 2) := by decide +kernel
theorem dX2_untie_48 : decode cX2_untie 48 = .ok (.iload_n 3, 1) := by decide +kernel
theorem dX2_untie_49 : decode cX2_untie 49 = .ok (.iastore, 1) := by decide +kernel
theorem dX2_untie_50 : decode cX2_untie 50 = .ok (.return_, 1) := by decide +kernel
set_option maxRecDepth 20000 in
theorem ggX2_takeOutAll_X2_takeOut : GoodIn wsX2_takeOutAll wsX2_takeOut := goodIn_r _ [8, 3, 1, 9, 10, 11, 12, 13, 14, 15, 7, 16, 17, 18, 19, 20, 21, 22, 23] (by decide +kernel) (by decide +kernel)
set_option maxRecDepth 20000 in
theorem gX2_takeOutAll_X2_takeOut : GoodIn wsX2_takeOutAll (wsV RX2 51 RX2 yX2_takeOut wsX2_takeOut) := goodIn_app (goodIn_of _ (by decide +kernel)) ggX2_takeOutAll_X2_takeOut
theorem dX2_takeOutAll_0 : decode cX2_takeOutAll 0 = .ok (.iconst 0, 1) := by decide +kernel
theorem dX2_takeOutAll_1 : decode cX2_takeOutAll 1 = .ok (.istore_n 3, 1) := by decide +kernel
theorem dX2_takeOutAll_2 : decode cX2_takeOutAll 2 = .ok (.aload_n 0, 1) := by decide +kernel
theorem dX2_takeOutAll_3 : decode cX2_takeOutAll 3 = .ok (.getfield 26, 3) := by decide +kernel
theorem dX2_takeOutAll_6 : decode cX2_takeOutAll 6 = .ok (.iconst 1, 1) := by decide +kernel
theorem dX2_takeOutAll_7 : decode cX2_takeOutAll 7 = .ok (.isub, 1) := by decide +kernel
theorem dX2_takeOutAll_8 : decode cX2_takeOutAll 8 = .ok (.istore 4, 2) := by decide +kernel
theorem dX2_takeOutAll_10 : decode cX2_takeOutAll 10 = .ok (.iload 4, 2) := by decide +kernel
theorem dX2_takeOutAll_12 : decode cX2_takeOutAll 12 = .ok (.ifCond .lt 36, 3) := by decide +kernel
theorem dX2_takeOutAll_15 : decode cX2_takeOutAll 15 = .ok (.aload_n 0, 1) := by decide +kernel
theorem dX2_takeOutAll_16 : decode cX2_takeOutAll 16 = .ok (.getfield 17, 3) := by decide +kernel
theorem dX2_takeOutAll_19 : decode cX2_takeOutAll 19 = .ok (.iload_n 1, 1) := by decide +kernel
theorem dX2_takeOutAll_20 : decode cX2_takeOutAll 20 = .ok (.aaload, 1) := by decide +kernel
theorem dX2_takeOutAll_21 : decode cX2_takeOutAll 21 = .ok (.aload_n 0, 1) := by decide +kernel
theorem dX2_takeOutAll_22 : decode cX2_takeOutAll 22 = .ok (.getfield 9, 3) := by decide +kernel
theorem dX2_takeOutAll_25 : decode cX2_takeOutAll 25 = .ok (.iload 4, 2) := by decide +kernel
theorem dX2_takeOutAll_27 : decode cX2_takeOutAll 27 = .ok (.iaload, 1) := by decide +kernel
theorem dX2_takeOutAll_28 : decode cX2_takeOutAll 28 = .ok (.iaload, 1) := by decide +kernel
theorem dX2_takeOutAll_29 : decode cX2_takeOutAll 29 = .ok (.iload_n 2, 1) := by decide +kernel
theorem dX2_takeOutAll_30 : decode cX2_takeOutAll 30 = .ok (.if_icmp .ne 12, 3) := by decide +kernel
theorem dX2_takeOutAll_33 : decode cX2_takeOutAll 33 = .ok (.aload_n 0, 1) := by decide +kernel
theorem dX2_takeOutAll_34 : decode cX2_takeOutAll 34 = .ok (.iload 4, 2) := by decide +kernel
theorem dX2_takeOutAll_36 : decode cX2_takeOutAll 36 = .ok (.invokevirtual 51, 3) := by decide +kernel
theorem dX2_takeOutAll_39 : decode cX2_takeOutAll 39 = .ok (.iinc 3 1, 3) := by decide +kernel
theorem dX2_takeOutAll_42 : decode cX2_takeOutAll 42 = .ok (.iinc 4 (-1), 3) := by decide +kernel
theorem dX2_takeOutAll_45 : decode cX2_takeOutAll 45 = .ok (.goto (-35), 3) := by decide +kernel
theorem dX2_takeOutAll_48 : decode cX2_takeOutAll 48 = .ok (.iload_n 3, 1) := by decide +kernel
theorem dX2_takeOutAll_49 : decode cX2_takeOutAll 49 = .ok (.ireturn, 1) := by decide +kernel
set_option maxRecDepth 20000 in
theorem ggX2_moveAll_X2_takeOut : GoodIn wsX2_moveAll wsX2_takeOut := goodIn_r _ [8, 2, 1, 9, 10, 11, 12, 13, 14, 15, 7, 16, 17, 18, 35, 36, 37, 38, 39] (by decide +kernel) (by decide +kernel)
set_option maxRecDepth 20000 in
theorem gX2_moveAll_X2_takeOut : GoodIn wsX2_moveAll (wsV RX2 51 RX2 yX2_takeOut wsX2_takeOut) := goodIn_app (goodIn_of _ (by decide +kernel)) ggX2_moveAll_X2_takeOut
set_option maxRecDepth 20000 in
theorem ggX2_moveAll_X2_placeOf : GoodIn wsX2_moveAll wsX2_placeOf := goodIn_r _ [22, 1, 2, 3, 35, 36, 37, 38, 39] (by decide +kernel) (by decide +kernel)
set_option maxRecDepth 20000 in
theorem gX2_moveAll_X2_placeOf : GoodIn wsX2_moveAll (wsV RX2 55 RX2 yX2_placeOf wsX2_placeOf) := goodIn_app (goodIn_of _ (by decide +kernel)) ggX2_moveAll_X2_placeOf
set_option maxRecDepth 20000 in
theorem ggX2_moveAll_X2_append : GoodIn wsX2_moveAll wsX2_append := goodIn_r _ [26, 2, 1, 27, 28, 29, 7, 30, 3, 17, 18, 31, 32, 33, 34, 35, 36, 37, 38, 39] (by decide +kernel) (by decide +kernel)
set_option maxRecDepth 20000 in
theorem gX2_moveAll_X2_append : GoodIn wsX2_moveAll (wsV RX2 58 RX2 yX2_append wsX2_append) := goodIn_app (goodIn_of _ (by decide +kernel)) ggX2_moveAll_X2_append
theorem dX2_moveAll_0 : decode cX2_moveAll 0 = .ok (.iconst 0, 1) := by decide +kernel
theorem dX2_moveAll_1 : decode cX2_moveAll 1 = .ok (.istore 4, 2) := by decide +kernel
theorem dX2_moveAll_3 : decode cX2_moveAll 3 = .ok (.iconst 0, 1) := by decide +kernel
theorem dX2_moveAll_4 : decode cX2_moveAll 4 = .ok (.istore 5, 2) := by decide +kernel
theorem dX2_moveAll_6 : decode cX2_moveAll 6 = .ok (.aload_n 0, 1) := by decide +kernel
theorem dX2_moveAll_7 : decode cX2_moveAll 7 = .ok (.getfield 26, 3) := by decide +kernel
theorem dX2_moveAll_10 : decode cX2_moveAll 10 = .ok (.istore 6, 2) := by decide +kernel
theorem dX2_moveAll_12 : decode cX2_moveAll 12 = .ok (.iconst 0, 1) := by decide +kernel
theorem dX2_moveAll_13 : decode cX2_moveAll 13 = .ok (.istore 7, 2) := by decide +kernel
theorem dX2_moveAll_15 : decode cX2_moveAll 15 = .ok (.iload 7, 2) := by decide +kernel
theorem dX2_moveAll_17 : decode cX2_moveAll 17 = .ok (.iload 6, 2) := by decide +kernel
theorem dX2_moveAll_19 : decode cX2_moveAll 19 = .ok (.if_icmp .ge 105, 3) := by decide +kernel
theorem dX2_moveAll_22 : decode cX2_moveAll 22 = .ok (.aload_n 0, 1) := by decide +kernel
theorem dX2_moveAll_23 : decode cX2_moveAll 23 = .ok (.getfield 9, 3) := by decide +kernel
theorem dX2_moveAll_26 : decode cX2_moveAll 26 = .ok (.iload 5, 2) := by decide +kernel
theorem dX2_moveAll_28 : decode cX2_moveAll 28 = .ok (.iaload, 1) := by decide +kernel
theorem dX2_moveAll_29 : decode cX2_moveAll 29 = .ok (.istore 8, 2) := by decide +kernel
theorem dX2_moveAll_31 : decode cX2_moveAll 31 = .ok (.aload_n 0, 1) := by decide +kernel
theorem dX2_moveAll_32 : decode cX2_moveAll 32 = .ok (.getfield 17, 3) := by decide +kernel
theorem dX2_moveAll_35 : decode cX2_moveAll 35 = .ok (.iload_n 1, 1) := by decide +kernel
theorem dX2_moveAll_36 : decode cX2_moveAll 36 = .ok (.aaload, 1) := by decide +kernel
theorem dX2_moveAll_37 : decode cX2_moveAll 37 = .ok (.iload 8, 2) := by decide +kernel
theorem dX2_moveAll_39 : decode cX2_moveAll 39 = .ok (.iaload, 1) := by decide +kernel
theorem dX2_moveAll_40 : decode cX2_moveAll 40 = .ok (.iload_n 2, 1) := by decide +kernel
theorem dX2_moveAll_41 : decode cX2_moveAll 41 = .ok (.if_icmp .eq 9, 3) := by decide +kernel
theorem dX2_moveAll_44 : decode cX2_moveAll 44 = .ok (.iinc 5 1, 3) := by decide +kernel
theorem dX2_moveAll_47 : decode cX2_moveAll 47 = .ok (.goto 71, 3) := by decide +kernel
theorem dX2_moveAll_50 : decode cX2_moveAll 50 = .ok (.iload_n 1, 1) := by decide +kernel
theorem dX2_moveAll_51 : decode cX2_moveAll 51 = .ok (.ifCond .ne 7, 3) := by decide +kernel
theorem dX2_moveAll_54 : decode cX2_moveAll 54 = .ok (.iload_n 3, 1) := by decide +kernel
theorem dX2_moveAll_55 : decode cX2_moveAll 55 = .ok (.goto 12, 3) := by decide +kernel
theorem dX2_moveAll_58 : decode cX2_moveAll 58 = .ok (.aload_n 0, 1) := by decide +kernel
theorem dX2_moveAll_59 : decode cX2_moveAll 59 = .ok (.getfield 17, 3) := by decide +kernel
theorem dX2_moveAll_62 : decode cX2_moveAll 62 = .ok (.iconst 0, 1) := by decide +kernel
theorem dX2_moveAll_63 : decode cX2_moveAll 63 = .ok (.aaload, 1) := by decide +kernel
theorem dX2_moveAll_64 : decode cX2_moveAll 64 = .ok (.iload 8, 2) := by decide +kernel
theorem dX2_moveAll_66 : decode cX2_moveAll 66 = .ok (.iaload, 1) := by decide +kernel
theorem dX2_moveAll_67 : decode cX2_moveAll 67 = .ok (.istore 9, 2) := by decide +kernel
theorem dX2_moveAll_69 : decode cX2_moveAll 69 = .ok (.iload_n 1, 1) := by decide +kernel
theorem dX2_moveAll_70 : decode cX2_moveAll 70 = .ok (.iconst 1, 1) := by decide +kernel
theorem dX2_moveAll_71 : decode cX2_moveAll 71 = .ok (.if_icmp .ne 7, 3) := by decide +kernel
theorem dX2_moveAll_74 : decode cX2_moveAll 74 = .ok (.iload_n 3, 1) := by decide +kernel
theorem dX2_moveAll_75 : decode cX2_moveAll 75 = .ok (.goto 12, 3) := by decide +kernel
theorem dX2_moveAll_78 : decode cX2_moveAll 78 = .ok (.aload_n 0, 1) := by decide +kernel
theorem dX2_moveAll_79 : decode cX2_moveAll 79 = .ok (.getfield 17, 3) := by decide +kernel
theorem dX2_moveAll_82 : decode cX2_moveAll 82 = .ok (.iconst 1, 1) := by decide +kernel
theorem dX2_moveAll_83 : decode cX2_moveAll 83 = .ok (.aaload, 1) := by decide +kernel
theorem dX2_moveAll_84 : decode cX2_moveAll 84 = .ok (.iload 8, 2) := by decide +kernel
theorem dX2_moveAll_86 : decode cX2_moveAll 86 = .ok (.iaload, 1) := by decide +kernel
theorem dX2_moveAll_87 : decode cX2_moveAll 87 = .ok (.istore 10, 2) := by decide +kernel
theorem dX2_moveAll_89 : decode cX2_moveAll 89 = .ok (.aload_n 0, 1) := by decide +kernel
theorem dX2_moveAll_90 : decode cX2_moveAll 90 = .ok (.iload 5, 2) := by decide +kernel
theorem dX2_moveAll_92 : decode cX2_moveAll 92 = .ok (.invokevirtual 51, 3) := by decide +kernel
theorem dX2_moveAll_95 : decode cX2_moveAll 95 = .ok (.aload_n 0, 1) := by decide +kernel
theorem dX2_moveAll_96 : decode cX2_moveAll 96 = .ok (.iload 9, 2) := by decide +kernel
theorem dX2_moveAll_98 : decode cX2_moveAll 98 = .ok (.iload 10, 2) := by decide +kernel
theorem dX2_moveAll_100 : decode cX2_moveAll 100 = .ok (.invokevirtual 55, 3) := by decide +kernel
theorem dX2_moveAll_103 : decode cX2_moveAll 103 = .ok (.iconst (-1), 1) := by decide +kernel
theorem dX2_moveAll_104 : decode cX2_moveAll 104 = .ok (.if_icmp .ne 14, 3) := by decide +kernel
theorem dX2_moveAll_107 : decode cX2_moveAll 107 = .ok (.aload_n 0, 1) := by decide +kernel
theorem dX2_moveAll_108 : decode cX2_moveAll 108 = .ok (.iload 9, 2) := by decide +kernel
theorem dX2_moveAll_110 : decode cX2_moveAll 110 = .ok (.iload 10, 2) := by decide +kernel
theorem dX2_moveAll_112 : decode cX2_moveAll 112 = .ok (.invokevirtual 58, 3) := by decide +kernel
theorem dX2_moveAll_115 : decode cX2_moveAll 115 = .ok (.iinc 4 1, 3) := by decide +kernel
theorem dX2_moveAll_118 : decode cX2_moveAll 118 = .ok (.iinc 7 1, 3) := by decide +kernel
theorem dX2_moveAll_121 : decode cX2_moveAll 121 = .ok (.goto (-106), 3) := by decide +kernel
theorem dX2_moveAll_124 : decode cX2_moveAll 124 = .ok (.iload 4, 2) := by decide +kernel
theorem dX2_moveAll_126 : decode cX2_moveAll 126 = .ok (.ireturn, 1) := by decide +kernel
set_option maxRecDepth 20000 in
theorem ggX2_areSound_X2_firstOf : GoodIn wsX2_areSound wsX2_firstOf := goodIn_r _ [8, 1, 3, 2, 15, 16, 17, 18, 19] (by decide +kernel) (by decide +kernel)
set_option maxRecDepth 20000 in
theorem gX2_areSound_X2_firstOf : GoodIn wsX2_areSound (wsV RX2 30 RX2 yX2_firstOf wsX2_firstOf) := goodIn_app (goodIn_of _ (by decide +kernel)) ggX2_areSound_X2_firstOf
set_option maxRecDepth 20000 in
theorem ggX2_areSound_X2_isSoundFrom : GoodIn wsX2_areSound wsX2_isSoundFrom := goodIn_r _ [12, 2, 3, 1, 13, 14, 15, 16, 17, 18, 19] (by decide +kernel) (by decide +kernel)
set_option maxRecDepth 20000 in
theorem gX2_areSound_X2_isSoundFrom : GoodIn wsX2_areSound (wsV RX2 61 RX2 yX2_isSoundFrom wsX2_isSoundFrom) := goodIn_app (goodIn_of _ (by decide +kernel)) ggX2_areSound_X2_isSoundFrom
theorem dX2_areSound_0 : decode cX2_areSound 0 = .ok (.iconst 0, 1) := by decide +kernel
theorem dX2_areSound_1 : decode cX2_areSound 1 = .ok (.istore_n 2, 1) := by decide +kernel
theorem dX2_areSound_2 : decode cX2_areSound 2 = .ok (.iload_n 2, 1) := by decide +kernel
theorem dX2_areSound_3 : decode cX2_areSound 3 = .ok (.aload_n 0, 1) := by decide +kernel
theorem dX2_areSound_4 : decode cX2_areSound 4 = .ok (.getfield 26, 3) := by decide +kernel
theorem dX2_areSound_7 : decode cX2_areSound 7 = .ok (.if_icmp .ge 44, 3) := by decide +kernel
theorem dX2_areSound_10 : decode cX2_areSound 10 = .ok (.aload_n 0, 1) := by decide +kernel
theorem dX2_areSound_11 : decode cX2_areSound 11 = .ok (.getfield 9, 3) := by decide +kernel
theorem dX2_areSound_14 : decode cX2_areSound 14 = .ok (.iload_n 2, 1) := by decide +kernel
theorem dX2_areSound_15 : decode cX2_areSound 15 = .ok (.iaload, 1) := by decide +kernel
theorem dX2_areSound_16 : decode cX2_areSound 16 = .ok (.istore_n 3, 1) := by decide +kernel
theorem dX2_areSound_17 : decode cX2_areSound 17 = .ok (.aload_n 0, 1) := by decide +kernel
theorem dX2_areSound_18 : decode cX2_areSound 18 = .ok (.iload_n 1, 1) := by decide +kernel
theorem dX2_areSound_19 : decode cX2_areSound 19 = .ok (.aload_n 0, 1) := by decide +kernel
theorem dX2_areSound_20 : decode cX2_areSound 20 = .ok (.getfield 17, 3) := by decide +kernel
theorem dX2_areSound_23 : decode cX2_areSound 23 = .ok (.iload_n 1, 1) := by decide +kernel
theorem dX2_areSound_24 : decode cX2_areSound 24 = .ok (.aaload, 1) := by decide +kernel
theorem dX2_areSound_25 : decode cX2_areSound 25 = .ok (.iload_n 3, 1) := by decide +kernel
theorem dX2_areSound_26 : decode cX2_areSound 26 = .ok (.iaload, 1) := by decide +kernel
theorem dX2_areSound_27 : decode cX2_areSound 27 = .ok (.invokevirtual 30, 3) := by decide +kernel
theorem dX2_areSound_30 : decode cX2_areSound 30 = .ok (.iload_n 3, 1) := by decide +kernel
theorem dX2_areSound_31 : decode cX2_areSound 31 = .ok (.if_icmp .ne 14, 3) := by decide +kernel
theorem dX2_areSound_34 : decode cX2_areSound 34 = .ok (.aload_n 0, 1) := by decide +kernel
theorem dX2_areSound_35 : decode cX2_areSound 35 = .ok (.iload_n 1, 1) := by decide +kernel
theorem dX2_areSound_36 : decode cX2_areSound 36 = .ok (.iload_n 2, 1) := by decide +kernel
theorem dX2_areSound_37 : decode cX2_areSound 37 = .ok (.invokevirtual 61, 3) := by decide +kernel
theorem dX2_areSound_40 : decode cX2_areSound 40 = .ok (.ifCond .ne 5, 3) := by decide +kernel
theorem dX2_areSound_43 : decode cX2_areSound 43 = .ok (.iconst 0, 1) := by decide +kernel
theorem dX2_areSound_44 : decode cX2_areSound 44 = .ok (.ireturn, 1) := by decide +kernel
theorem dX2_areSound_45 : decode cX2_areSound 45 = .ok (.iinc 2 1, 3) := by decide +kernel
theorem dX2_areSound_48 : decode cX2_areSound 48 = .ok (.goto (-46), 3) := by decide +kernel
theorem dX2_areSound_51 : decode cX2_areSound 51 = .ok (.iconst 1, 1) := by decide +kernel
theorem dX2_areSound_52 : decode cX2_areSound 52 = .ok (.ireturn, 1) := by decide +kernel
theorem dX2_isSoundFrom_0 : decode cX2_isSoundFrom 0 = .ok (.aload_n 0, 1) := by decide +kernel
theorem dX2_isSoundFrom_1 : decode cX2_isSoundFrom 1 = .ok (.getfield 9, 3) := by decide +kernel
theorem dX2_isSoundFrom_4 : decode cX2_isSoundFrom 4 = .ok (.iload_n 2, 1) := by decide +kernel
theorem dX2_isSoundFrom_5 : decode cX2_isSoundFrom 5 = .ok (.iaload, 1) := by decide +kernel
theorem dX2_isSoundFrom_6 : decode cX2_isSoundFrom 6 = .ok (.istore_n 3, 1) := by decide +kernel
theorem dX2_isSoundFrom_7 : decode cX2_isSoundFrom 7 = .ok (.iconst (-1), 1) := by decide +kernel
theorem dX2_isSoundFrom_8 : decode cX2_isSoundFrom 8 = .ok (.istore 4, 2) := by decide +kernel
theorem dX2_isSoundFrom_10 : decode cX2_isSoundFrom 10 = .ok (.aload_n 0, 1) := by decide +kernel
theorem dX2_isSoundFrom_11 : decode cX2_isSoundFrom 11 = .ok (.getfield 17, 3) := by decide +kernel
theorem dX2_isSoundFrom_14 : decode cX2_isSoundFrom 14 = .ok (.iload_n 1, 1) := by decide +kernel
theorem dX2_isSoundFrom_15 : decode cX2_isSoundFrom 15 = .ok (.aaload, 1) := by decide +kernel
theorem dX2_isSoundFrom_16 : decode cX2_isSoundFrom 16 = .ok (.iload_n 3, 1) := by decide +kernel
theorem dX2_isSoundFrom_17 : decode cX2_isSoundFrom 17 = .ok (.iaload, 1) := by decide +kernel
theorem dX2_isSoundFrom_18 : decode cX2_isSoundFrom 18 = .ok (.istore 5, 2) := by decide +kernel
theorem dX2_isSoundFrom_20 : decode cX2_isSoundFrom 20 = .ok (.iload_n 2, 1) := by decide +kernel
theorem dX2_isSoundFrom_21 : decode cX2_isSoundFrom 21 = .ok (.istore 6, 2) := by decide +kernel
theorem dX2_isSoundFrom_23 : decode cX2_isSoundFrom 23 = .ok (.iload 6, 2) := by decide +kernel
theorem dX2_isSoundFrom_25 : decode cX2_isSoundFrom 25 = .ok (.aload_n 0, 1) := by decide +kernel
theorem dX2_isSoundFrom_26 : decode cX2_isSoundFrom 26 = .ok (.getfield 26, 3) := by decide +kernel
theorem dX2_isSoundFrom_29 : decode cX2_isSoundFrom 29 = .ok (.if_icmp .ge 71, 3) := by decide +kernel
theorem dX2_isSoundFrom_32 : decode cX2_isSoundFrom 32 = .ok (.aload_n 0, 1) := by decide +kernel
theorem dX2_isSoundFrom_33 : decode cX2_isSoundFrom 33 = .ok (.getfield 9, 3) := by decide +kernel
theorem dX2_isSoundFrom_36 : decode cX2_isSoundFrom 36 = .ok (.iload 6, 2) := by decide +kernel
theorem dX2_isSoundFrom_38 : decode cX2_isSoundFrom 38 = .ok (.iaload, 1) := by decide +kernel
theorem dX2_isSoundFrom_39 : decode cX2_isSoundFrom 39 = .ok (.istore 7, 2) := by decide +kernel
theorem dX2_isSoundFrom_41 : decode cX2_isSoundFrom 41 = .ok (.aload_n 0, 1) := by decide +kernel
theorem dX2_isSoundFrom_42 : decode cX2_isSoundFrom 42 = .ok (.getfield 17, 3) := by decide +kernel
theorem dX2_isSoundFrom_45 : decode cX2_isSoundFrom 45 = .ok (.iload_n 1, 1) := by decide +kernel
theorem dX2_isSoundFrom_46 : decode cX2_isSoundFrom 46 = .ok (.aaload, 1) := by decide +kernel
theorem dX2_isSoundFrom_47 : decode cX2_isSoundFrom 47 = .ok (.iload 7, 2) := by decide +kernel
theorem dX2_isSoundFrom_49 : decode cX2_isSoundFrom 49 = .ok (.iaload, 1) := by decide +kernel
theorem dX2_isSoundFrom_50 : decode cX2_isSoundFrom 50 = .ok (.iload 5, 2) := by decide +kernel
theorem dX2_isSoundFrom_52 : decode cX2_isSoundFrom 52 = .ok (.if_icmp .eq 6, 3) := by decide +kernel
theorem dX2_isSoundFrom_55 : decode cX2_isSoundFrom 55 = .ok (.goto 39, 3) := by decide +kernel
theorem dX2_isSoundFrom_58 : decode cX2_isSoundFrom 58 = .ok (.iload 7, 2) := by decide +kernel
theorem dX2_isSoundFrom_60 : decode cX2_isSoundFrom 60 = .ok (.iload_n 3, 1) := by decide +kernel
theorem dX2_isSoundFrom_61 : decode cX2_isSoundFrom 61 = .ok (.if_icmp .ne 17, 3) := by decide +kernel
theorem dX2_isSoundFrom_64 : decode cX2_isSoundFrom 64 = .ok (.aload_n 0, 1) := by decide +kernel
theorem dX2_isSoundFrom_65 : decode cX2_isSoundFrom 65 = .ok (.getfield 20, 3) := by decide +kernel
theorem dX2_isSoundFrom_68 : decode cX2_isSoundFrom 68 = .ok (.iload_n 1, 1) := by decide +kernel
theorem dX2_isSoundFrom_69 : decode cX2_isSoundFrom 69 = .ok (.aaload, 1) := by decide +kernel
theorem dX2_isSoundFrom_70 : decode cX2_isSoundFrom 70 = .ok (.iload 7, 2) := by decide +kernel
theorem dX2_isSoundFrom_72 : decode cX2_isSoundFrom 72 = .ok (.iaload, 1) := by decide +kernel
theorem dX2_isSoundFrom_73 : decode cX2_isSoundFrom 73 = .ok (.iload 4, 2) := by decide +kernel
theorem dX2_isSoundFrom_75 : decode cX2_isSoundFrom 75 = .ok (.if_icmp .eq 5, 3) := by decide +kernel
theorem dX2_isSoundFrom_78 : decode cX2_isSoundFrom 78 = .ok (.iconst 0, 1) := by decide +kernel
theorem dX2_isSoundFrom_79 : decode cX2_isSoundFrom 79 = .ok (.ireturn, 1) := by decide +kernel
theorem dX2_isSoundFrom_80 : decode cX2_isSoundFrom 80 = .ok (.iload 7, 2) := by decide +kernel
theorem dX2_isSoundFrom_82 : decode cX2_isSoundFrom 82 = .ok (.istore 4, 2) := by decide +kernel
theorem dX2_isSoundFrom_84 : decode cX2_isSoundFrom 84 = .ok (.aload_n 0, 1) := by decide +kernel
theorem dX2_isSoundFrom_85 : decode cX2_isSoundFrom 85 = .ok (.getfield 23, 3) := by decide +kernel
theorem dX2_isSoundFrom_88 : decode cX2_isSoundFrom 88 = .ok (.iload_n 1, 1) := by decide +kernel
theorem dX2_isSoundFrom_89 : decode cX2_isSoundFrom 89 = .ok (.aaload, 1) := by decide +kernel
theorem dX2_isSoundFrom_90 : decode cX2_isSoundFrom 90 = .ok (.iload 7, 2) := by decide +kernel
theorem dX2_isSoundFrom_92 : decode cX2_isSoundFrom 92 = .ok (.iaload, 1) := by decide +kernel
theorem dX2_isSoundFrom_93 : decode cX2_isSoundFrom 93 = .ok (.istore_n 3, 1) := by decide +kernel
theorem dX2_isSoundFrom_94 : decode cX2_isSoundFrom 94 = .ok (.iinc 6 1, 3) := by decide +kernel
theorem dX2_isSoundFrom_97 : decode cX2_isSoundFrom 97 = .ok (.goto (-74), 3) := by decide +kernel
theorem dX2_isSoundFrom_100 : decode cX2_isSoundFrom 100 = .ok (.iload_n 3, 1) := by decide +kernel
theorem dX2_isSoundFrom_101 : decode cX2_isSoundFrom 101 = .ok (.iconst (-1), 1) := by decide +kernel
theorem dX2_isSoundFrom_102 : decode cX2_isSoundFrom 102 = .ok (.if_icmp .ne 7, 3) := by decide +kernel
theorem dX2_isSoundFrom_105 : decode cX2_isSoundFrom 105 = .ok (.iconst 1, 1) := by decide +kernel
theorem dX2_isSoundFrom_106 : decode cX2_isSoundFrom 106 = .ok (.goto 4, 3) := by decide +kernel
theorem dX2_isSoundFrom_109 : decode cX2_isSoundFrom 109 = .ok (.iconst 0, 1) := by decide +kernel
theorem dX2_isSoundFrom_110 : decode cX2_isSoundFrom 110 = .ok (.ireturn, 1) := by decide +kernel
set_option maxRecDepth 20000 in
theorem ggX3_init_X2_init : GoodIn wsX3_init wsX2_init := goodIn_r _ [18, 19, 2, 3, 20, 21, 22, 23, 24, 25, 42, 43, 44, 45, 46] (by decide +kernel) (by decide +kernel)
set_option maxRecDepth 20000 in
theorem gX3_init_X2_init : GoodIn wsX3_init (wsX2_init) := ggX3_init_X2_init
set_option maxRecDepth 20000 in
theorem ggX3_init_X1_init : GoodIn wsX3_init wsX1_init := goodIn_r _ [27, 28, 2, 3, 20, 29, 30, 31, 32, 50, 51, 52, 53] (by decide +kernel) (by decide +kernel)
set_option maxRecDepth 20000 in
theorem gX3_init_X1_init_n18 : GoodIn wsX3_init (wsX1_init) := ggX3_init_X1_init
set_option maxRecDepth 20000 in
theorem ggX3_init_X0_init : GoodIn wsX3_init wsX0_init := goodIn_r _ [34, 35, 2, 3, 36, 20, 37, 38, 39, 40, 41, 54, 55, 56, 57, 58, 59] (by decide +kernel) (by decide +kernel)
set_option maxRecDepth 20000 in
theorem gX3_init_X0_init_n25 : GoodIn wsX3_init (wsX0_init) := ggX3_init_X0_init
theorem dX3_init_0 : decode cX3_init 0 = .ok (.aload_n 0, 1) := by decide +kernel
theorem dX3_init_1 : decode cX3_init 1 = .ok (.invokespecial 1, 3) := by decide +kernel
theorem dX3_init_4 : decode cX3_init 4 = .ok (.aload_n 0, 1) := by decide +kernel
theorem dX3_init_5 : decode cX3_init 5 = .ok (.new 7, 3) := by decide +kernel
theorem dX3_init_8 : decode cX3_init 8 = .ok (.dup, 1) := by decide +kernel
theorem dX3_init_9 : decode cX3_init 9 = .ok (.invokespecial 9, 3) := by decide +kernel
theorem dX3_init_12 : decode cX3_init 12 = .ok (.putfield 10, 3) := by decide +kernel
theorem dX3_init_15 : decode cX3_init 15 = .ok (.aload_n 0, 1) := by decide +kernel
theorem dX3_init_16 : decode cX3_init 16 = .ok (.new 16, 3) := by decide +kernel
theorem dX3_init_19 : decode cX3_init 19 = .ok (.dup, 1) := by decide +kernel
theorem dX3_init_20 : decode cX3_init 20 = .ok (.invokespecial 18, 3) := by decide +kernel
theorem dX3_init_23 : decode cX3_init 23 = .ok (.putfield 19, 3) := by decide +kernel
theorem dX3_init_26 : decode cX3_init 26 = .ok (.aload_n 0, 1) := by decide +kernel
theorem dX3_init_27 : decode cX3_init 27 = .ok (.new 23, 3) := by decide +kernel
theorem dX3_init_30 : decode cX3_init 30 = .ok (.dup, 1) := by decide +kernel
theorem dX3_init_31 : decode cX3_init 31 = .ok (.invokespecial 25, 3) := by decide +kernel
theorem dX3_init_34 : decode cX3_init 34 = .ok (.putfield 26, 3) := by decide +kernel
theorem dX3_init_37 : decode cX3_init 37 = .ok (.return_, 1) := by decide +kernel
set_option maxRecDepth 20000 in
theorem ggX3_link_X2_placeOf : GoodIn wsX3_link wsX2_placeOf := goodIn_r _ [6, 7, 8, 9, 27, 28, 29, 30, 31] (by decide +kernel) (by decide +kernel)
set_option maxRecDepth 20000 in
theorem gX3_link_X2_placeOf : GoodIn wsX3_link (wsV RX3 30 RX2 yX2_placeOf wsX2_placeOf) := goodIn_app (goodIn_of _ (by decide +kernel)) ggX3_link_X2_placeOf
set_option maxRecDepth 20000 in
theorem ggX3_link_X2_append : GoodIn wsX3_link wsX2_append := goodIn_r _ [13, 8, 7, 14, 15, 16, 5, 17, 9, 18, 19, 20, 21, 22, 23, 27, 28, 29, 30, 31] (by decide +kernel) (by decide +kernel)
set_option maxRecDepth 20000 in
theorem gX3_link_X2_append : GoodIn wsX3_link (wsV RX3 38 RX2 yX2_append wsX2_append) := goodIn_app (goodIn_of _ (by decide +kernel)) ggX3_link_X2_append
theorem dX3_link_0 : decode cX3_link 0 = .ok (.aload_n 0, 1) := by decide +kernel
theorem dX3_link_1 : decode cX3_link 1 = .ok (.getfield 10, 3) := by decide +kernel
theorem dX3_link_4 : decode cX3_link 4 = .ok (.iload_n 1, 1) := by decide +kernel
theorem dX3_link_5 : decode cX3_link 5 = .ok (.iload_n 2, 1) := by decide +kernel
theorem dX3_link_6 : decode cX3_link 6 = .ok (.invokevirtual 30, 3) := by decide +kernel
theorem dX3_link_9 : decode cX3_link 9 = .ok (.iconst (-1), 1) := by decide +kernel
theorem dX3_link_10 : decode cX3_link 10 = .ok (.if_icmp .eq 5, 3) := by decide +kernel
theorem dX3_link_13 : decode cX3_link 13 = .ok (.iconst (-1), 1) := by decide +kernel
theorem dX3_link_14 : decode cX3_link 14 = .ok (.ireturn, 1) := by decide +kernel
theorem dX3_link_15 : decode cX3_link 15 = .ok (.aload_n 0, 1) := by decide +kernel
theorem dX3_link_16 : decode cX3_link 16 = .ok (.getfield 10, 3) := by decide +kernel
theorem dX3_link_19 : decode cX3_link 19 = .ok (.getfield 34, 3) := by decide +kernel
theorem dX3_link_22 : decode cX3_link 22 = .ok (.sipush 300, 3) := by decide +kernel
theorem dX3_link_25 : decode cX3_link 25 = .ok (.if_icmp .lt 6, 3) := by decide +kernel
theorem dX3_link_28 : decode cX3_link 28 = .ok (.bipush (-2), 2) := by decide +kernel
theorem dX3_link_30 : decode cX3_link 30 = .ok (.ireturn, 1) := by decide +kernel
theorem dX3_link_31 : decode cX3_link 31 = .ok (.aload_n 0, 1) := by decide +kernel
theorem dX3_link_32 : decode cX3_link 32 = .ok (.getfield 10, 3) := by decide +kernel
theorem dX3_link_35 : decode cX3_link 35 = .ok (.iload_n 1, 1) := by decide +kernel
theorem dX3_link_36 : decode cX3_link 36 = .ok (.iload_n 2, 1) := by decide +kernel
theorem dX3_link_37 : decode cX3_link 37 = .ok (.invokevirtual 38, 3) := by decide +kernel
theorem dX3_link_40 : decode cX3_link 40 = .ok (.aload_n 0, 1) := by decide +kernel
theorem dX3_link_41 : decode cX3_link 41 = .ok (.getfield 10, 3) := by decide +kernel
theorem dX3_link_44 : decode cX3_link 44 = .ok (.getfield 34, 3) := by decide +kernel
theorem dX3_link_47 : decode cX3_link 47 = .ok (.ireturn, 1) := by decide +kernel
set_option maxRecDepth 20000 in
theorem ggX3_unlink_X2_placeOf : GoodIn wsX3_unlink wsX2_placeOf := goodIn_r _ [6, 7, 8, 9, 27, 28, 29, 30, 31] (by decide +kernel) (by decide +kernel)
set_option maxRecDepth 20000 in
theorem gX3_unlink_X2_placeOf : GoodIn wsX3_unlink (wsV RX3 30 RX2 yX2_placeOf wsX2_placeOf) := goodIn_app (goodIn_of _ (by decide +kernel)) ggX3_unlink_X2_placeOf
set_option maxRecDepth 20000 in
theorem ggX3_unlink_X2_takeOut : GoodIn wsX3_unlink wsX2_takeOut := goodIn_r _ [13, 8, 7, 14, 15, 16, 17, 18, 19, 20, 5, 21, 22, 23, 27, 28, 29, 30, 31] (by decide +kernel) (by decide +kernel)
set_option maxRecDepth 20000 in
theorem gX3_unlink_X2_takeOut : GoodIn wsX3_unlink (wsV RX3 42 RX2 yX2_takeOut wsX2_takeOut) := goodIn_app (goodIn_of _ (by decide +kernel)) ggX3_unlink_X2_takeOut
theorem dX3_unlink_0 : decode cX3_unlink 0 = .ok (.aload_n 0, 1) := by decide +kernel
theorem dX3_unlink_1 : decode cX3_unlink 1 = .ok (.getfield 10, 3) := by decide +kernel
theorem dX3_unlink_4 : decode cX3_unlink 4 = .ok (.iload_n 1, 1) := by decide +kernel
theorem dX3_unlink_5 : decode cX3_unlink 5 = .ok (.iload_n 2, 1) := by decide +kernel
theorem dX3_unlink_6 : decode cX3_unlink 6 = .ok (.invokevirtual 30, 3) := by decide +kernel
theorem dX3_unlink_9 : decode cX3_unlink 9 = .ok (.istore_n 3, 1) := by decide +kernel
theorem dX3_unlink_10 : decode cX3_unlink 10 = .ok (.iload_n 3, 1) := by decide +kernel
theorem dX3_unlink_11 : decode cX3_unlink 11 = .ok (.iconst (-1), 1) := by decide +kernel
theorem dX3_unlink_12 : decode cX3_unlink 12 = .ok (.if_icmp .ne 5, 3) := by decide +kernel
theorem dX3_unlink_15 : decode cX3_unlink 15 = .ok (.iconst (-1), 1) := by decide +kernel
theorem dX3_unlink_16 : decode cX3_unlink 16 = .ok (.ireturn, 1) := by decide +kernel
theorem dX3_unlink_17 : decode cX3_unlink 17 = .ok (.aload_n 0, 1) := by decide +kernel
theorem dX3_unlink_18 : decode cX3_unlink 18 = .ok (.getfield 10, 3) := by decide +kernel
theorem dX3_unlink_21 : decode cX3_unlink 21 = .ok (.iload_n 3, 1) := by decide +kernel
theorem dX3_unlink_22 : decode cX3_unlink 22 = .ok (.invokevirtual 42, 3) := by decide +kernel
theorem dX3_unlink_25 : decode cX3_unlink 25 = .ok (.aload_n 0, 1) := by decide +kernel
theorem dX3_unlink_26 : decode cX3_unlink 26 = .ok (.getfield 10, 3) := by decide +kernel
theorem dX3_unlink_29 : decode cX3_unlink 29 = .ok (.getfield 34, 3) := by decide +kernel
theorem dX3_unlink_32 : decode cX3_unlink 32 = .ok (.ireturn, 1) := by decide +kernel
set_option maxRecDepth 20000 in
theorem ggX3_place_X2_placeOf : GoodIn wsX3_place wsX2_placeOf := goodIn_r _ [6, 7, 8, 9, 13, 14, 15, 16, 17] (by decide +kernel) (by decide +kernel)
set_option maxRecDepth 20000 in
theorem gX3_place_X2_placeOf : GoodIn wsX3_place (wsV RX3 30 RX2 yX2_placeOf wsX2_placeOf) := goodIn_app (goodIn_of _ (by decide +kernel)) ggX3_place_X2_placeOf
theorem dX3_place_0 : decode cX3_place 0 = .ok (.aload_n 0, 1) := by decide +kernel
theorem dX3_place_1 : decode cX3_place 1 = .ok (.getfield 10, 3) := by decide +kernel
theorem dX3_place_4 : decode cX3_place 4 = .ok (.iload_n 1, 1) := by decide +kernel
theorem dX3_place_5 : decode cX3_place 5 = .ok (.iload_n 2, 1) := by decide +kernel
theorem dX3_place_6 : decode cX3_place 6 = .ok (.invokevirtual 30, 3) := by decide +kernel
theorem dX3_place_9 : decode cX3_place 9 = .ok (.ireturn, 1) := by decide +kernel
set_option maxRecDepth 20000 in
theorem ggX3_degree_X3_isSide : GoodIn wsX3_degree wsX3_isSide := goodIn_r _ [5] (by decide +kernel) (by decide +kernel)
set_option maxRecDepth 20000 in
theorem gX3_degree_X3_isSide : GoodIn wsX3_degree (va_wsS RX3 46 yX3_isSide wsX3_isSide) := goodIn_app (goodIn_of _ (by decide +kernel)) ggX3_degree_X3_isSide
set_option maxRecDepth 20000 in
theorem ggX3_degree_X2_lengthOf : GoodIn wsX3_degree wsX2_lengthOf := goodIn_r _ [10, 11, 12, 13, 14, 15, 9, 16, 17, 18, 22, 23, 24, 25, 26] (by decide +kernel) (by decide +kernel)
set_option maxRecDepth 20000 in
theorem gX3_degree_X2_lengthOf : GoodIn wsX3_degree (wsV RX3 50 RX2 yX2_lengthOf wsX2_lengthOf) := goodIn_app (goodIn_of _ (by decide +kernel)) ggX3_degree_X2_lengthOf
theorem dX3_degree_0 : decode cX3_degree 0 = .ok (.iload_n 1, 1) := by decide +kernel
theorem dX3_degree_1 : decode cX3_degree 1 = .ok (.invokestatic 46, 3) := by decide +kernel
theorem dX3_degree_4 : decode cX3_degree 4 = .ok (.ifCond .eq 15, 3) := by decide +kernel
theorem dX3_degree_7 : decode cX3_degree 7 = .ok (.aload_n 0, 1) := by decide +kernel
theorem dX3_degree_8 : decode cX3_degree 8 = .ok (.getfield 10, 3) := by decide +kernel
theorem dX3_degree_11 : decode cX3_degree 11 = .ok (.iload_n 1, 1) := by decide +kernel
theorem dX3_degree_12 : decode cX3_degree 12 = .ok (.iload_n 2, 1) := by decide +kernel
theorem dX3_degree_13 : decode cX3_degree 13 = .ok (.invokevirtual 50, 3) := by decide +kernel
theorem dX3_degree_16 : decode cX3_degree 16 = .ok (.goto 4, 3) := by decide +kernel
theorem dX3_degree_19 : decode cX3_degree 19 = .ok (.iconst (-1), 1) := by decide +kernel
theorem dX3_degree_20 : decode cX3_degree 20 = .ok (.ireturn, 1) := by decide +kernel
set_option maxRecDepth 20000 in
theorem ggX3_other_X3_isSide : GoodIn wsX3_other wsX3_isSide := goodIn_r _ [5] (by decide +kernel) (by decide +kernel)
set_option maxRecDepth 20000 in
theorem gX3_other_X3_isSide : GoodIn wsX3_other (va_wsS RX3 46 yX3_isSide wsX3_isSide) := goodIn_app (goodIn_of _ (by decide +kernel)) ggX3_other_X3_isSide
set_option maxRecDepth 20000 in
theorem ggX3_other_X2_inThread : GoodIn wsX3_other wsX2_inThread := goodIn_r _ [10, 11, 12, 13, 14, 15, 9, 16, 17, 18, 22, 23, 24, 25, 26] (by decide +kernel) (by decide +kernel)
set_option maxRecDepth 20000 in
theorem gX3_other_X2_inThread : GoodIn wsX3_other (wsV RX3 53 RX2 yX2_inThread wsX2_inThread) := goodIn_app (goodIn_of _ (by decide +kernel)) ggX3_other_X2_inThread
theorem dX3_other_0 : decode cX3_other 0 = .ok (.iload_n 1, 1) := by decide +kernel
theorem dX3_other_1 : decode cX3_other 1 = .ok (.invokestatic 46, 3) := by decide +kernel
theorem dX3_other_4 : decode cX3_other 4 = .ok (.ifCond .ne 5, 3) := by decide +kernel
theorem dX3_other_7 : decode cX3_other 7 = .ok (.iconst 0, 1) := by decide +kernel
theorem dX3_other_8 : decode cX3_other 8 = .ok (.ireturn, 1) := by decide +kernel
theorem dX3_other_9 : decode cX3_other 9 = .ok (.aload_n 0, 1) := by decide +kernel
theorem dX3_other_10 : decode cX3_other 10 = .ok (.getfield 10, 3) := by decide +kernel
theorem dX3_other_13 : decode cX3_other 13 = .ok (.iload_n 1, 1) := by decide +kernel
theorem dX3_other_14 : decode cX3_other 14 = .ok (.iload_n 2, 1) := by decide +kernel
theorem dX3_other_15 : decode cX3_other 15 = .ok (.iload_n 3, 1) := by decide +kernel
theorem dX3_other_16 : decode cX3_other 16 = .ok (.invokevirtual 53, 3) := by decide +kernel
theorem dX3_other_19 : decode cX3_other 19 = .ok (.istore 4, 2) := by decide +kernel
theorem dX3_other_21 : decode cX3_other 21 = .ok (.iload 4, 2) := by decide +kernel
theorem dX3_other_23 : decode cX3_other 23 = .ok (.iconst (-1), 1) := by decide +kernel
theorem dX3_other_24 : decode cX3_other 24 = .ok (.if_icmp .ne 7, 3) := by decide +kernel
theorem dX3_other_27 : decode cX3_other 27 = .ok (.iconst 0, 1) := by decide +kernel
theorem dX3_other_28 : decode cX3_other 28 = .ok (.goto 17, 3) := by decide +kernel
theorem dX3_other_31 : decode cX3_other 31 = .ok (.aload_n 0, 1) := by decide +kernel
theorem dX3_other_32 : decode cX3_other 32 = .ok (.getfield 10, 3) := by decide +kernel
theorem dX3_other_35 : decode cX3_other 35 = .ok (.getfield 57, 3) := by decide +kernel
theorem dX3_other_38 : decode cX3_other 38 = .ok (.iconst 1, 1) := by decide +kernel
theorem dX3_other_39 : decode cX3_other 39 = .ok (.iload_n 1, 1) := by decide +kernel
theorem dX3_other_40 : decode cX3_other 40 = .ok (.isub, 1) := by decide +kernel
theorem dX3_other_41 : decode cX3_other 41 = .ok (.aaload, 1) := by decide +kernel
theorem dX3_other_42 : decode cX3_other 42 = .ok (.iload 4, 2) := by decide +kernel
theorem dX3_other_44 : decode cX3_other 44 = .ok (.iaload, 1) := by decide +kernel
theorem dX3_other_45 : decode cX3_other 45 = .ok (.ireturn, 1) := by decide +kernel
set_option maxRecDepth 20000 in
theorem ggX3_drop_X3_isSide : GoodIn wsX3_drop wsX3_isSide := goodIn_r _ [5] (by decide +kernel) (by decide +kernel)
set_option maxRecDepth 20000 in
theorem gX3_drop_X3_isSide : GoodIn wsX3_drop (va_wsS RX3 46 yX3_isSide wsX3_isSide) := goodIn_app (goodIn_of _ (by decide +kernel)) ggX3_drop_X3_isSide
set_option maxRecDepth 20000 in
theorem ggX3_drop_X2_takeOutAll : GoodIn wsX3_drop wsX2_takeOutAll := goodIn_r _ [10, 11, 12, 13, 14, 15, 16, 9, 17, 18, 19, 20, 21, 22, 23, 24, 25, 26, 27, 31, 32, 33, 34, 35] (by decide +kernel) (by decide +kernel)
set_option maxRecDepth 20000 in
theorem gX3_drop_X2_takeOutAll : GoodIn wsX3_drop (wsV RX3 61 RX2 yX2_takeOutAll wsX2_takeOutAll) := goodIn_app (goodIn_of _ (by decide +kernel)) ggX3_drop_X2_takeOutAll
theorem dX3_drop_0 : decode cX3_drop 0 = .ok (.iload_n 1, 1) := by decide +kernel
theorem dX3_drop_1 : decode cX3_drop 1 = .ok (.invokestatic 46, 3) := by decide +kernel
theorem dX3_drop_4 : decode cX3_drop 4 = .ok (.ifCond .eq 15, 3) := by decide +kernel
theorem dX3_drop_7 : decode cX3_drop 7 = .ok (.aload_n 0, 1) := by decide +kernel
theorem dX3_drop_8 : decode cX3_drop 8 = .ok (.getfield 10, 3) := by decide +kernel
theorem dX3_drop_11 : decode cX3_drop 11 = .ok (.iload_n 1, 1) := by decide +kernel
theorem dX3_drop_12 : decode cX3_drop 12 = .ok (.iload_n 2, 1) := by decide +kernel
theorem dX3_drop_13 : decode cX3_drop 13 = .ok (.invokevirtual 61, 3) := by decide +kernel
theorem dX3_drop_16 : decode cX3_drop 16 = .ok (.goto 4, 3) := by decide +kernel
theorem dX3_drop_19 : decode cX3_drop 19 = .ok (.iconst (-1), 1) := by decide +kernel
theorem dX3_drop_20 : decode cX3_drop 20 = .ok (.ireturn, 1) := by decide +kernel
set_option maxRecDepth 20000 in
theorem ggX3_rename_X3_isSide : GoodIn wsX3_rename wsX3_isSide := goodIn_r _ [5] (by decide +kernel) (by decide +kernel)
set_option maxRecDepth 20000 in
theorem gX3_rename_X3_isSide : GoodIn wsX3_rename (va_wsS RX3 46 yX3_isSide wsX3_isSide) := goodIn_app (goodIn_of _ (by decide +kernel)) ggX3_rename_X3_isSide
set_option maxRecDepth 20000 in
theorem ggX3_rename_X2_moveAll : GoodIn wsX3_rename wsX2_moveAll := goodIn_r _ [10, 11, 12, 13, 14, 15, 16, 9, 17, 18, 19, 20, 21, 22, 23, 24, 25, 26, 27, 28, 29, 30, 31, 32, 33, 34, 35, 36, 37, 38, 39, 40, 41, 42, 43, 47, 48, 49, 50, 51] (by decide +kernel) (by decide +kernel)
set_option maxRecDepth 20000 in
theorem gX3_rename_X2_moveAll : GoodIn wsX3_rename (wsV RX3 64 RX2 yX2_moveAll wsX2_moveAll) := goodIn_app (goodIn_of _ (by decide +kernel)) ggX3_rename_X2_moveAll
theorem dX3_rename_0 : decode cX3_rename 0 = .ok (.iload_n 1, 1) := by decide +kernel
theorem dX3_rename_1 : decode cX3_rename 1 = .ok (.invokestatic 46, 3) := by decide +kernel
theorem dX3_rename_4 : decode cX3_rename 4 = .ok (.ifCond .eq 21, 3) := by decide +kernel
theorem dX3_rename_7 : decode cX3_rename 7 = .ok (.iload_n 2, 1) := by decide +kernel
theorem dX3_rename_8 : decode cX3_rename 8 = .ok (.iload_n 3, 1) := by decide +kernel
theorem dX3_rename_9 : decode cX3_rename 9 = .ok (.if_icmp .eq 16, 3) := by decide +kernel
theorem dX3_rename_12 : decode cX3_rename 12 = .ok (.aload_n 0, 1) := by decide +kernel
theorem dX3_rename_13 : decode cX3_rename 13 = .ok (.getfield 10, 3) := by decide +kernel
theorem dX3_rename_16 : decode cX3_rename 16 = .ok (.iload_n 1, 1) := by decide +kernel
theorem dX3_rename_17 : decode cX3_rename 17 = .ok (.iload_n 2, 1) := by decide +kernel
theorem dX3_rename_18 : decode cX3_rename 18 = .ok (.iload_n 3, 1) := by decide +kernel
theorem dX3_rename_19 : decode cX3_rename 19 = .ok (.invokevirtual 64, 3) := by decide +kernel
theorem dX3_rename_22 : decode cX3_rename 22 = .ok (.goto 4, 3) := by decide +kernel
theorem dX3_rename_25 : decode cX3_rename 25 = .ok (.iconst (-1), 1) := by decide +kernel
theorem dX3_rename_26 : decode cX3_rename 26 = .ok (.ireturn, 1) := by decide +kernel
set_option maxRecDepth 20000 in
theorem ggX3_at_X3_isSide : GoodIn wsX3_at wsX3_isSide := goodIn_r _ [5] (by decide +kernel) (by decide +kernel)
set_option maxRecDepth 20000 in
theorem gX3_at_X3_isSide : GoodIn wsX3_at (va_wsS RX3 46 yX3_isSide wsX3_isSide) := goodIn_app (goodIn_of _ (by decide +kernel)) ggX3_at_X3_isSide
theorem dX3_at_0 : decode cX3_at 0 = .ok (.iload_n 2, 1) := by decide +kernel
theorem dX3_at_1 : decode cX3_at 1 = .ok (.invokestatic 46, 3) := by decide +kernel
theorem dX3_at_4 : decode cX3_at 4 = .ok (.ifCond .eq 18, 3) := by decide +kernel
theorem dX3_at_7 : decode cX3_at 7 = .ok (.iload_n 1, 1) := by decide +kernel
theorem dX3_at_8 : decode cX3_at 8 = .ok (.ifCond .lt 14, 3) := by decide +kernel
theorem dX3_at_11 : decode cX3_at 11 = .ok (.iload_n 1, 1) := by decide +kernel
theorem dX3_at_12 : decode cX3_at 12 = .ok (.aload_n 0, 1) := by decide +kernel
theorem dX3_at_13 : decode cX3_at 13 = .ok (.getfield 10, 3) := by decide +kernel
theorem dX3_at_16 : decode cX3_at 16 = .ok (.getfield 34, 3) := by decide +kernel
theorem dX3_at_19 : decode cX3_at 19 = .ok (.if_icmp .lt 5, 3) := by decide +kernel
theorem dX3_at_22 : decode cX3_at 22 = .ok (.iconst 0, 1) := by decide +kernel
theorem dX3_at_23 : decode cX3_at 23 = .ok (.ireturn, 1) := by decide +kernel
theorem dX3_at_24 : decode cX3_at 24 = .ok (.aload_n 0, 1) := by decide +kernel
theorem dX3_at_25 : decode cX3_at 25 = .ok (.getfield 10, 3) := by decide +kernel
theorem dX3_at_28 : decode cX3_at 28 = .ok (.getfield 57, 3) := by decide +kernel
theorem dX3_at_31 : decode cX3_at 31 = .ok (.iload_n 2, 1) := by decide +kernel
theorem dX3_at_32 : decode cX3_at 32 = .ok (.aaload, 1) := by decide +kernel
theorem dX3_at_33 : decode cX3_at 33 = .ok (.aload_n 0, 1) := by decide +kernel
theorem dX3_at_34 : decode cX3_at 34 = .ok (.getfield 10, 3) := by decide +kernel
theorem dX3_at_37 : decode cX3_at 37 = .ok (.getfield 67, 3) := by decide +kernel
theorem dX3_at_40 : decode cX3_at 40 = .ok (.iload_n 1, 1) := by decide +kernel
theorem dX3_at_41 : decode cX3_at 41 = .ok (.iaload, 1) := by decide +kernel
theorem dX3_at_42 : decode cX3_at 42 = .ok (.iaload, 1) := by decide +kernel
theorem dX3_at_43 : decode cX3_at 43 = .ok (.ireturn, 1) := by decide +kernel
set_option maxRecDepth 20000 in
theorem ggX3_count_X2_threadsOn : GoodIn wsX3_count wsX2_threadsOn := goodIn_r _ [8, 9, 10, 11, 96, 97, 98, 99, 100] (by decide +kernel) (by decide +kernel)
set_option maxRecDepth 20000 in
theorem gX3_count_X2_threadsOn : GoodIn wsX3_count (wsV RX3 71 RX2 yX2_threadsOn wsX2_threadsOn) := goodIn_app (goodIn_of _ (by decide +kernel)) ggX3_count_X2_threadsOn
set_option maxRecDepth 20000 in
theorem ggX3_count_X0_largest : GoodIn wsX3_count wsX0_largest := goodIn_r _ [16, 17, 18, 19, 15, 20, 21, 22, 23, 24, 25, 26, 27, 28, 29, 30, 31, 32, 33, 34, 35, 36, 37, 38, 39, 40, 41, 42, 43, 44, 45, 46, 47, 48, 49, 50, 51, 52, 53, 54, 55, 56, 57, 58, 59, 60, 61, 62, 96, 97, 98, 99, 100, 101, 102, 103, 104, 105, 106] (by decide +kernel) (by decide +kernel)
set_option maxRecDepth 20000 in
theorem gX3_count_X0_largest : GoodIn wsX3_count (wsV RX3 75 RX0 yX0_largest wsX0_largest) := goodIn_app (goodIn_of _ (by decide +kernel)) ggX3_count_X0_largest
set_option maxRecDepth 20000 in
theorem ggX3_count_X1_allParts : GoodIn wsX3_count wsX1_allParts := goodIn_r _ [67, 68, 69, 70, 71, 66, 72, 73, 74, 75, 28, 29, 30, 76, 77, 78, 79, 80, 81, 82, 83, 84, 85, 86, 87, 7, 88, 9, 10, 89, 90, 91, 92, 96, 97, 98, 99, 100, 107, 108, 109, 110] (by decide +kernel) (by decide +kernel)
set_option maxRecDepth 20000 in
theorem gX3_count_X1_allParts : GoodIn wsX3_count (wsV RX3 79 RX1 yX1_allParts wsX1_allParts) := goodIn_app (goodIn_of _ (by decide +kernel)) ggX3_count_X1_allParts
theorem dX3_count_0 : decode cX3_count 0 = .ok (.iload_n 1, 1) := by decide +kernel
theorem dX3_count_1 : decode cX3_count 1 = .ok (.tableswitch 85 0 4 #[35, 43, 52, 61, 73], 35) := by decide +kernel
theorem dX3_count_36 : decode cX3_count 36 = .ok (.aload_n 0, 1) := by decide +kernel
theorem dX3_count_37 : decode cX3_count 37 = .ok (.getfield 10, 3) := by decide +kernel
theorem dX3_count_40 : decode cX3_count 40 = .ok (.getfield 34, 3) := by decide +kernel
theorem dX3_count_43 : decode cX3_count 43 = .ok (.ireturn, 1) := by decide +kernel
theorem dX3_count_44 : decode cX3_count 44 = .ok (.aload_n 0, 1) := by decide +kernel
theorem dX3_count_45 : decode cX3_count 45 = .ok (.getfield 10, 3) := by decide +kernel
theorem dX3_count_48 : decode cX3_count 48 = .ok (.iconst 0, 1) := by decide +kernel
theorem dX3_count_49 : decode cX3_count 49 = .ok (.invokevirtual 71, 3) := by decide +kernel
theorem dX3_count_52 : decode cX3_count 52 = .ok (.ireturn, 1) := by decide +kernel
theorem dX3_count_53 : decode cX3_count 53 = .ok (.aload_n 0, 1) := by decide +kernel
theorem dX3_count_54 : decode cX3_count 54 = .ok (.getfield 10, 3) := by decide +kernel
theorem dX3_count_57 : decode cX3_count 57 = .ok (.iconst 1, 1) := by decide +kernel
theorem dX3_count_58 : decode cX3_count 58 = .ok (.invokevirtual 71, 3) := by decide +kernel
theorem dX3_count_61 : decode cX3_count 61 = .ok (.ireturn, 1) := by decide +kernel
theorem dX3_count_62 : decode cX3_count 62 = .ok (.aload_n 0, 1) := by decide +kernel
theorem dX3_count_63 : decode cX3_count 63 = .ok (.getfield 26, 3) := by decide +kernel
theorem dX3_count_66 : decode cX3_count 66 = .ok (.aload_n 0, 1) := by decide +kernel
theorem dX3_count_67 : decode cX3_count 67 = .ok (.getfield 10, 3) := by decide +kernel
theorem dX3_count_70 : decode cX3_count 70 = .ok (.invokevirtual 75, 3) := by decide +kernel
theorem dX3_count_73 : decode cX3_count 73 = .ok (.ireturn, 1) := by decide +kernel
theorem dX3_count_74 : decode cX3_count 74 = .ok (.aload_n 0, 1) := by decide +kernel
theorem dX3_count_75 : decode cX3_count 75 = .ok (.getfield 19, 3) := by decide +kernel
theorem dX3_count_78 : decode cX3_count 78 = .ok (.aload_n 0, 1) := by decide +kernel
theorem dX3_count_79 : decode cX3_count 79 = .ok (.getfield 10, 3) := by decide +kernel
theorem dX3_count_82 : decode cX3_count 82 = .ok (.invokevirtual 79, 3) := by decide +kernel
theorem dX3_count_85 : decode cX3_count 85 = .ok (.ireturn, 1) := by decide +kernel
theorem dX3_count_86 : decode cX3_count 86 = .ok (.iconst (-1), 1) := by decide +kernel
theorem dX3_count_87 : decode cX3_count 87 = .ok (.ireturn, 1) := by decide +kernel
set_option maxRecDepth 20000 in
theorem ggX3_part_X3_isSide : GoodIn wsX3_part wsX3_isSide := goodIn_r _ [6] (by decide +kernel) (by decide +kernel)
set_option maxRecDepth 20000 in
theorem gX3_part_X3_isSide : GoodIn wsX3_part (va_wsS RX3 46 yX3_isSide wsX3_isSide) := goodIn_app (goodIn_of _ (by decide +kernel)) ggX3_part_X3_isSide
set_option maxRecDepth 20000 in
theorem ggX3_part_X1_partOf : GoodIn wsX3_part wsX1_partOf := goodIn_r _ [11, 12, 13, 14, 15, 10, 16, 17, 18, 19, 20, 21, 22, 23, 24, 25, 26, 27, 28, 29, 30, 31, 32, 33, 34, 35, 36, 37, 38, 39, 40, 41, 42, 43, 44, 45, 46, 47, 48, 49, 50, 51, 52, 56, 57, 58, 59, 60, 61, 62, 63, 64] (by decide +kernel) (by decide +kernel)
set_option maxRecDepth 20000 in
theorem gX3_part_X1_partOf : GoodIn wsX3_part (wsV RX3 82 RX1 yX1_partOf wsX1_partOf) := goodIn_app (goodIn_of _ (by decide +kernel)) ggX3_part_X1_partOf
theorem dX3_part_0 : decode cX3_part 0 = .ok (.iload_n 1, 1) := by decide +kernel
theorem dX3_part_1 : decode cX3_part 1 = .ok (.invokestatic 46, 3) := by decide +kernel
theorem dX3_part_4 : decode cX3_part 4 = .ok (.ifCond .eq 19, 3) := by decide +kernel
theorem dX3_part_7 : decode cX3_part 7 = .ok (.aload_n 0, 1) := by decide +kernel
theorem dX3_part_8 : decode cX3_part 8 = .ok (.getfield 19, 3) := by decide +kernel
theorem dX3_part_11 : decode cX3_part 11 = .ok (.aload_n 0, 1) := by decide +kernel
theorem dX3_part_12 : decode cX3_part 12 = .ok (.getfield 10, 3) := by decide +kernel
theorem dX3_part_15 : decode cX3_part 15 = .ok (.iload_n 1, 1) := by decide +kernel
theorem dX3_part_16 : decode cX3_part 16 = .ok (.iload_n 2, 1) := by decide +kernel
theorem dX3_part_17 : decode cX3_part 17 = .ok (.invokevirtual 82, 3) := by decide +kernel
theorem dX3_part_20 : decode cX3_part 20 = .ok (.goto 4, 3) := by decide +kernel
theorem dX3_part_23 : decode cX3_part 23 = .ok (.iconst 0, 1) := by decide +kernel
theorem dX3_part_24 : decode cX3_part 24 = .ok (.ireturn, 1) := by decide +kernel
set_option maxRecDepth 20000 in
theorem ggX3_way_X3_isSide : GoodIn wsX3_way wsX3_isSide := goodIn_r _ [6] (by decide +kernel) (by decide +kernel)
set_option maxRecDepth 20000 in
theorem gX3_way_X3_isSide : GoodIn wsX3_way (va_wsS RX3 46 yX3_isSide wsX3_isSide) := goodIn_app (goodIn_of _ (by decide +kernel)) ggX3_way_X3_isSide
set_option maxRecDepth 20000 in
theorem ggX3_way_X1_leastRow : GoodIn wsX3_way wsX1_leastRow := goodIn_r _ [11, 12, 13, 14, 15, 16, 17, 10, 18, 19, 20, 21, 22, 23, 24, 25, 26, 27, 28, 29, 30, 31, 32, 33, 34, 35, 36, 37, 38, 39, 40, 41, 42, 43, 44, 45, 46, 47, 48, 49, 50, 51, 52, 56, 57, 58, 59, 60, 61, 62, 63, 64] (by decide +kernel) (by decide +kernel)
set_option maxRecDepth 20000 in
theorem gX3_way_X1_leastRow : GoodIn wsX3_way (wsV RX3 86 RX1 yX1_leastRow wsX1_leastRow) := goodIn_app (goodIn_of _ (by decide +kernel)) ggX3_way_X1_leastRow
theorem dX3_way_0 : decode cX3_way 0 = .ok (.iload_n 1, 1) := by decide +kernel
theorem dX3_way_1 : decode cX3_way 1 = .ok (.invokestatic 46, 3) := by decide +kernel
theorem dX3_way_4 : decode cX3_way 4 = .ok (.ifCond .eq 10, 3) := by decide +kernel
theorem dX3_way_7 : decode cX3_way 7 = .ok (.iload_n 3, 1) := by decide +kernel
theorem dX3_way_8 : decode cX3_way 8 = .ok (.invokestatic 46, 3) := by decide +kernel
theorem dX3_way_11 : decode cX3_way 11 = .ok (.ifCond .ne 5, 3) := by decide +kernel
theorem dX3_way_14 : decode cX3_way 14 = .ok (.iconst 0, 1) := by decide +kernel
theorem dX3_way_15 : decode cX3_way 15 = .ok (.ireturn, 1) := by decide +kernel
theorem dX3_way_16 : decode cX3_way 16 = .ok (.aload_n 0, 1) := by decide +kernel
theorem dX3_way_17 : decode cX3_way 17 = .ok (.getfield 19, 3) := by decide +kernel
theorem dX3_way_20 : decode cX3_way 20 = .ok (.aload_n 0, 1) := by decide +kernel
theorem dX3_way_21 : decode cX3_way 21 = .ok (.getfield 10, 3) := by decide +kernel
theorem dX3_way_24 : decode cX3_way 24 = .ok (.iload_n 1, 1) := by decide +kernel
theorem dX3_way_25 : decode cX3_way 25 = .ok (.iload_n 2, 1) := by decide +kernel
theorem dX3_way_26 : decode cX3_way 26 = .ok (.iload_n 3, 1) := by decide +kernel
theorem dX3_way_27 : decode cX3_way 27 = .ok (.iload 4, 2) := by decide +kernel
theorem dX3_way_29 : decode cX3_way 29 = .ok (.invokevirtual 86, 3) := by decide +kernel
theorem dX3_way_32 : decode cX3_way 32 = .ok (.ireturn, 1) := by decide +kernel
theorem dX3_clear_0 : decode cX3_clear 0 = .ok (.aload_n 0, 1) := by decide +kernel
theorem dX3_clear_1 : decode cX3_clear 1 = .ok (.getfield 10, 3) := by decide +kernel
theorem dX3_clear_4 : decode cX3_clear 4 = .ok (.getfield 34, 3) := by decide +kernel
theorem dX3_clear_7 : decode cX3_clear 7 = .ok (.istore_n 1, 1) := by decide +kernel
theorem dX3_clear_8 : decode cX3_clear 8 = .ok (.aload_n 0, 1) := by decide +kernel
theorem dX3_clear_9 : decode cX3_clear 9 = .ok (.getfield 10, 3) := by decide +kernel
theorem dX3_clear_12 : decode cX3_clear 12 = .ok (.iconst 0, 1) := by decide +kernel
theorem dX3_clear_13 : decode cX3_clear 13 = .ok (.putfield 34, 3) := by decide +kernel
theorem dX3_clear_16 : decode cX3_clear 16 = .ok (.iload_n 1, 1) := by decide +kernel
theorem dX3_clear_17 : decode cX3_clear 17 = .ok (.ireturn, 1) := by decide +kernel
set_option maxRecDepth 20000 in
theorem ggX3_check_X2_areSound : GoodIn wsX3_check wsX2_areSound := goodIn_r _ [6, 7, 8, 9, 10, 11, 12, 5, 13, 14, 15, 16, 17, 18, 19, 23, 24, 25, 26, 27] (by decide +kernel) (by decide +kernel)
set_option maxRecDepth 20000 in
theorem gX3_check_X2_areSound : GoodIn wsX3_check (wsV RX3 90 RX2 yX2_areSound wsX2_areSound) := goodIn_app (goodIn_of _ (by decide +kernel)) ggX3_check_X2_areSound
theorem dX3_check_0 : decode cX3_check 0 = .ok (.aload_n 0, 1) := by decide +kernel
theorem dX3_check_1 : decode cX3_check 1 = .ok (.getfield 10, 3) := by decide +kernel
theorem dX3_check_4 : decode cX3_check 4 = .ok (.iconst 0, 1) := by decide +kernel
theorem dX3_check_5 : decode cX3_check 5 = .ok (.invokevirtual 90, 3) := by decide +kernel
theorem dX3_check_8 : decode cX3_check 8 = .ok (.ifCond .eq 18, 3) := by decide +kernel
theorem dX3_check_11 : decode cX3_check 11 = .ok (.aload_n 0, 1) := by decide +kernel
theorem dX3_check_12 : decode cX3_check 12 = .ok (.getfield 10, 3) := by decide +kernel
theorem dX3_check_15 : decode cX3_check 15 = .ok (.iconst 1, 1) := by decide +kernel
theorem dX3_check_16 : decode cX3_check 16 = .ok (.invokevirtual 90, 3) := by decide +kernel
theorem dX3_check_19 : decode cX3_check 19 = .ok (.ifCond .eq 7, 3) := by decide +kernel
theorem dX3_check_22 : decode cX3_check 22 = .ok (.iconst 1, 1) := by decide +kernel
theorem dX3_check_23 : decode cX3_check 23 = .ok (.goto 4, 3) := by decide +kernel
theorem dX3_check_26 : decode cX3_check 26 = .ok (.iconst 0, 1) := by decide +kernel
theorem dX3_check_27 : decode cX3_check 27 = .ok (.ireturn, 1) := by decide +kernel
theorem dX3_isSide_0 : decode cX3_isSide 0 = .ok (.iload_n 0, 1) := by decide +kernel
theorem dX3_isSide_1 : decode cX3_isSide 1 = .ok (.ifCond .eq 8, 3) := by decide +kernel
theorem dX3_isSide_4 : decode cX3_isSide 4 = .ok (.iload_n 0, 1) := by decide +kernel
theorem dX3_isSide_5 : decode cX3_isSide 5 = .ok (.iconst 1, 1) := by decide +kernel
theorem dX3_isSide_6 : decode cX3_isSide 6 = .ok (.if_icmp .ne 7, 3) := by decide +kernel
theorem dX3_isSide_9 : decode cX3_isSide 9 = .ok (.iconst 1, 1) := by decide +kernel
theorem dX3_isSide_10 : decode cX3_isSide 10 = .ok (.goto 4, 3) := by decide +kernel
theorem dX3_isSide_13 : decode cX3_isSide 13 = .ok (.iconst 0, 1) := by decide +kernel
theorem dX3_isSide_14 : decode cX3_isSide 14 = .ok (.ireturn, 1) := by decide +kernel
theorem dX4_init_0 : decode cX4_init 0 = .ok (.aload_n 0, 1) := by decide +kernel
theorem dX4_init_1 : decode cX4_init 1 = .ok (.invokespecial 1, 3) := by decide +kernel
theorem dX4_init_4 : decode cX4_init 4 = .ok (.aload_n 0, 1) := by decide +kernel
theorem dX4_init_5 : decode cX4_init 5 = .ok (.sipush 300, 3) := by decide +kernel
theorem dX4_init_8 : decode cX4_init 8 = .ok (.newarray .int, 2) := by decide +kernel
theorem dX4_init_10 : decode cX4_init 10 = .ok (.putfield 7, 3) := by decide +kernel
theorem dX4_init_13 : decode cX4_init 13 = .ok (.aload_n 0, 1) := by decide +kernel
theorem dX4_init_14 : decode cX4_init 14 = .ok (.sipush 300, 3) := by decide +kernel
theorem dX4_init_17 : decode cX4_init 17 = .ok (.newarray .int, 2) := by decide +kernel
theorem dX4_init_19 : decode cX4_init 19 = .ok (.putfield 13, 3) := by decide +kernel
theorem dX4_init_22 : decode cX4_init 22 = .ok (.aload_n 0, 1) := by decide +kernel
theorem dX4_init_23 : decode cX4_init 23 = .ok (.sipush 300, 3) := by decide +kernel
theorem dX4_init_26 : decode cX4_init 26 = .ok (.newarray .int, 2) := by decide +kernel
theorem dX4_init_28 : decode cX4_init 28 = .ok (.putfield 16, 3) := by decide +kernel
theorem dX4_init_31 : decode cX4_init 31 = .ok (.aload_n 0, 1) := by decide +kernel
theorem dX4_init_32 : decode cX4_init 32 = .ok (.sipush 300, 3) := by decide +kernel
theorem dX4_init_35 : decode cX4_init 35 = .ok (.newarray .int, 2) := by decide +kernel
theorem dX4_init_37 : decode cX4_init 37 = .ok (.putfield 19, 3) := by decide +kernel
theorem dX4_init_40 : decode cX4_init 40 = .ok (.aload_n 0, 1) := by decide +kernel
theorem dX4_init_41 : decode cX4_init 41 = .ok (.sipush 300, 3) := by decide +kernel
theorem dX4_init_44 : decode cX4_init 44 = .ok (.newarray .int, 2) := by decide +kernel
theorem dX4_init_46 : decode cX4_init 46 = .ok (.putfield 22, 3) := by decide +kernel
theorem dX4_init_49 : decode cX4_init 49 = .ok (.aload_n 0, 1) := by decide +kernel
theorem dX4_init_50 : decode cX4_init 50 = .ok (.sipush 300, 3) := by decide +kernel
theorem dX4_init_53 : decode cX4_init 53 = .ok (.newarray .int, 2) := by decide +kernel
theorem dX4_init_55 : decode cX4_init 55 = .ok (.putfield 25, 3) := by decide +kernel
theorem dX4_init_58 : decode cX4_init 58 = .ok (.aload_n 0, 1) := by decide +kernel
theorem dX4_init_59 : decode cX4_init 59 = .ok (.sipush 300, 3) := by decide +kernel
theorem dX4_init_62 : decode cX4_init 62 = .ok (.newarray .int, 2) := by decide +kernel
theorem dX4_init_64 : decode cX4_init 64 = .ok (.putfield 28, 3) := by decide +kernel
theorem dX4_init_67 : decode cX4_init 67 = .ok (.aload_n 0, 1) := by decide +kernel
theorem dX4_init_68 : decode cX4_init 68 = .ok (.sipush 300, 3) := by decide +kernel
theorem dX4_init_71 : decode cX4_init 71 = .ok (.newarray .boolean, 2) := by decide +kernel
theorem dX4_init_73 : decode cX4_init 73 = .ok (.putfield 31, 3) := by decide +kernel
theorem dX4_init_76 : decode cX4_init 76 = .ok (.aload_n 0, 1) := by decide +kernel
theorem dX4_init_77 : decode cX4_init 77 = .ok (.sipush 300, 3) := by decide +kernel
theorem dX4_init_80 : decode cX4_init 80 = .ok (.newarray .int, 2) := by decide +kernel
theorem dX4_init_82 : decode cX4_init 82 = .ok (.putfield 35, 3) := by decide +kernel
theorem dX4_init_85 : decode cX4_init 85 = .ok (.aload_n 0, 1) := by decide +kernel
theorem dX4_init_86 : decode cX4_init 86 = .ok (.sipush 300, 3) := by decide +kernel
theorem dX4_init_89 : decode cX4_init 89 = .ok (.newarray .int, 2) := by decide +kernel
theorem dX4_init_91 : decode cX4_init 91 = .ok (.putfield 38, 3) := by decide +kernel
theorem dX4_init_94 : decode cX4_init 94 = .ok (.aload_n 0, 1) := by decide +kernel
theorem dX4_init_95 : decode cX4_init 95 = .ok (.sipush 300, 3) := by decide +kernel
theorem dX4_init_98 : decode cX4_init 98 = .ok (.newarray .int, 2) := by decide +kernel
theorem dX4_init_100 : decode cX4_init 100 = .ok (.putfield 41, 3) := by decide +kernel
theorem dX4_init_103 : decode cX4_init 103 = .ok (.aload_n 0, 1) := by decide +kernel
theorem dX4_init_104 : decode cX4_init 104 = .ok (.sipush 300, 3) := by decide +kernel
theorem dX4_init_107 : decode cX4_init 107 = .ok (.newarray .int, 2) := by decide +kernel
theorem dX4_init_109 : decode cX4_init 109 = .ok (.putfield 44, 3) := by decide +kernel
theorem dX4_init_112 : decode cX4_init 112 = .ok (.aload_n 0, 1) := by decide +kernel
theorem dX4_init_113 : decode cX4_init 113 = .ok (.iconst 0, 1) := by decide +kernel
theorem dX4_init_114 : decode cX4_init 114 = .ok (.putfield 47, 3) := by decide +kernel
theorem dX4_init_117 : decode cX4_init 117 = .ok (.return_, 1) := by decide +kernel

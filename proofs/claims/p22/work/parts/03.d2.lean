theorem dX2_goInside_15 : decode cX2_goInside 15 = .ok (.putfield 141, 3) := by decide +kernel
theorem dX2_goInside_18 : decode cX2_goInside 18 = .ok (.aload_n 1, 1) := by decide +kernel
theorem dX2_goInside_19 : decode cX2_goInside 19 = .ok (.aload_n 0, 1) := by decide +kernel
theorem dX2_goInside_20 : decode cX2_goInside 20 = .ok (.getfield 21, 3) := by decide +kernel
theorem dX2_goInside_23 : decode cX2_goInside 23 = .ok (.aload_n 2, 1) := by decide +kernel
theorem dX2_goInside_24 : decode cX2_goInside 24 = .ok (.getfield 43, 3) := by decide +kernel
theorem dX2_goInside_27 : decode cX2_goInside 27 = .ok (.iadd, 1) := by decide +kernel
theorem dX2_goInside_28 : decode cX2_goInside 28 = .ok (.putfield 180, 3) := by decide +kernel
theorem dX2_goInside_31 : decode cX2_goInside 31 = .ok (.return_, 1) := by decide +kernel
theorem dX2_becomeIdle_0 : decode cX2_becomeIdle 0 = .ok (.aload_n 1, 1) := by decide +kernel
theorem dX2_becomeIdle_1 : decode cX2_becomeIdle 1 = .ok (.iconst 0, 1) := by decide +kernel
theorem dX2_becomeIdle_2 : decode cX2_becomeIdle 2 = .ok (.putfield 138, 3) := by decide +kernel
theorem dX2_becomeIdle_5 : decode cX2_becomeIdle 5 = .ok (.aload_n 1, 1) := by decide +kernel
theorem dX2_becomeIdle_6 : decode cX2_becomeIdle 6 = .ok (.iconst (-1), 1) := by decide +kernel
theorem dX2_becomeIdle_7 : decode cX2_becomeIdle 7 = .ok (.putfield 141, 3) := by decide +kernel
theorem dX2_becomeIdle_10 : decode cX2_becomeIdle 10 = .ok (.aload_n 1, 1) := by decide +kernel
theorem dX2_becomeIdle_11 : decode cX2_becomeIdle 11 = .ok (.iconst (-1), 1) := by decide +kernel
theorem dX2_becomeIdle_12 : decode cX2_becomeIdle 12 = .ok (.putfield 144, 3) := by decide +kernel
theorem dX2_becomeIdle_15 : decode cX2_becomeIdle 15 = .ok (.aload_n 1, 1) := by decide +kernel
theorem dX2_becomeIdle_16 : decode cX2_becomeIdle 16 = .ok (.iconst (-1), 1) := by decide +kernel
theorem dX2_becomeIdle_17 : decode cX2_becomeIdle 17 = .ok (.putfield 180, 3) := by decide +kernel
theorem dX2_becomeIdle_20 : decode cX2_becomeIdle 20 = .ok (.return_, 1) := by decide +kernel
theorem dX2_loseTurn_0 : decode cX2_loseTurn 0 = .ok (.aload_n 1, 1) := by decide +kernel
theorem dX2_loseTurn_1 : decode cX2_loseTurn 1 = .ok (.iconst (-1), 1) := by decide +kernel
theorem dX2_loseTurn_2 : decode cX2_loseTurn 2 = .ok (.putfield 98, 3) := by decide +kernel
theorem dX2_loseTurn_5 : decode cX2_loseTurn 5 = .ok (.aload_n 1, 1) := by decide +kernel
theorem dX2_loseTurn_6 : decode cX2_loseTurn 6 = .ok (.aconst_null, 1) := by decide +kernel
theorem dX2_loseTurn_7 : decode cX2_loseTurn 7 = .ok (.putfield 106, 3) := by decide +kernel
theorem dX2_loseTurn_10 : decode cX2_loseTurn 10 = .ok (.return_, 1) := by decide +kernel
set_option maxRecDepth 20000 in
theorem ggX2_firstInQueue_X2_isAt : GoodIn wsX2_firstInQueue wsX2_isAt := goodIn_r _ [6, 10, 11, 12, 13, 14, 15, 16, 17, 18, 19, 20, 21, 22, 23, 24, 25] (by decide +kernel) (by decide +kernel)
set_option maxRecDepth 20000 in
theorem gX2_firstInQueue_X2_isAt : GoodIn wsX2_firstInQueue (wsV RX2 87 RX2 yX2_isAt wsX2_isAt) := goodIn_app (goodIn_of _ (by decide +kernel)) ggX2_firstInQueue_X2_isAt
theorem dX2_firstInQueue_0 : decode cX2_firstInQueue 0 = .ok (.aload_n 0, 1) := by decide +kernel
theorem dX2_firstInQueue_1 : decode cX2_firstInQueue 1 = .ok (.getfield 17, 3) := by decide +kernel
theorem dX2_firstInQueue_4 : decode cX2_firstInQueue 4 = .ok (.astore_n 2, 1) := by decide +kernel
theorem dX2_firstInQueue_5 : decode cX2_firstInQueue 5 = .ok (.aload_n 2, 1) := by decide +kernel
theorem dX2_firstInQueue_6 : decode cX2_firstInQueue 6 = .ok (.arraylength, 1) := by decide +kernel
theorem dX2_firstInQueue_7 : decode cX2_firstInQueue 7 = .ok (.istore_n 3, 1) := by decide +kernel
theorem dX2_firstInQueue_8 : decode cX2_firstInQueue 8 = .ok (.iconst 0, 1) := by decide +kernel
theorem dX2_firstInQueue_9 : decode cX2_firstInQueue 9 = .ok (.istore 4, 2) := by decide +kernel
theorem dX2_firstInQueue_11 : decode cX2_firstInQueue 11 = .ok (.iload 4, 2) := by decide +kernel
theorem dX2_firstInQueue_13 : decode cX2_firstInQueue 13 = .ok (.iload_n 3, 1) := by decide +kernel
theorem dX2_firstInQueue_14 : decode cX2_firstInQueue 14 = .ok (.if_icmp .ge 37, 3) := by decide +kernel
theorem dX2_firstInQueue_17 : decode cX2_firstInQueue 17 = .ok (.aload_n 2, 1) := by decide +kernel
theorem dX2_firstInQueue_18 : decode cX2_firstInQueue 18 = .ok (.iload 4, 2) := by decide +kernel
theorem dX2_firstInQueue_20 : decode cX2_firstInQueue 20 = .ok (.aaload, 1) := by decide +kernel
theorem dX2_firstInQueue_21 : decode cX2_firstInQueue 21 = .ok (.astore 5, 2) := by decide +kernel
theorem dX2_firstInQueue_23 : decode cX2_firstInQueue 23 = .ok (.aload_n 0, 1) := by decide +kernel
theorem dX2_firstInQueue_24 : decode cX2_firstInQueue 24 = .ok (.aload 5, 2) := by decide +kernel
theorem dX2_firstInQueue_26 : decode cX2_firstInQueue 26 = .ok (.iconst 1, 1) := by decide +kernel
theorem dX2_firstInQueue_27 : decode cX2_firstInQueue 27 = .ok (.aload_n 1, 1) := by decide +kernel
theorem dX2_firstInQueue_28 : decode cX2_firstInQueue 28 = .ok (.invokevirtual 87, 3) := by decide +kernel
theorem dX2_firstInQueue_31 : decode cX2_firstInQueue 31 = .ok (.ifCond .eq 14, 3) := by decide +kernel
theorem dX2_firstInQueue_34 : decode cX2_firstInQueue 34 = .ok (.aload 5, 2) := by decide +kernel
theorem dX2_firstInQueue_36 : decode cX2_firstInQueue 36 = .ok (.getfield 144, 3) := by decide +kernel
theorem dX2_firstInQueue_39 : decode cX2_firstInQueue 39 = .ok (.ifCond .ne 6, 3) := by decide +kernel
theorem dX2_firstInQueue_42 : decode cX2_firstInQueue 42 = .ok (.aload 5, 2) := by decide +kernel
theorem dX2_firstInQueue_44 : decode cX2_firstInQueue 44 = .ok (.areturn, 1) := by decide +kernel
theorem dX2_firstInQueue_45 : decode cX2_firstInQueue 45 = .ok (.iinc 4 1, 3) := by decide +kernel
theorem dX2_firstInQueue_48 : decode cX2_firstInQueue 48 = .ok (.goto (-37), 3) := by decide +kernel
theorem dX2_firstInQueue_51 : decode cX2_firstInQueue 51 = .ok (.aconst_null, 1) := by decide +kernel
theorem dX2_firstInQueue_52 : decode cX2_firstInQueue 52 = .ok (.areturn, 1) := by decide +kernel
set_option maxRecDepth 20000 in
theorem ggX2_countByTurn_X2_isAt : GoodIn wsX2_countByTurn wsX2_isAt := goodIn_r _ [6, 10, 11, 12, 13, 14, 15, 16, 17, 18, 19, 20, 21, 22, 23, 24, 25] (by decide +kernel) (by decide +kernel)
set_option maxRecDepth 20000 in
theorem gX2_countByTurn_X2_isAt : GoodIn wsX2_countByTurn (wsV RX2 87 RX2 yX2_isAt wsX2_isAt) := goodIn_app (goodIn_of _ (by decide +kernel)) ggX2_countByTurn_X2_isAt
theorem dX2_countByTurn_0 : decode cX2_countByTurn 0 = .ok (.iconst 0, 1) := by decide +kernel
theorem dX2_countByTurn_1 : decode cX2_countByTurn 1 = .ok (.istore_n 2, 1) := by decide +kernel
theorem dX2_countByTurn_2 : decode cX2_countByTurn 2 = .ok (.aload_n 0, 1) := by decide +kernel
theorem dX2_countByTurn_3 : decode cX2_countByTurn 3 = .ok (.getfield 17, 3) := by decide +kernel
theorem dX2_countByTurn_6 : decode cX2_countByTurn 6 = .ok (.astore_n 3, 1) := by decide +kernel
theorem dX2_countByTurn_7 : decode cX2_countByTurn 7 = .ok (.aload_n 3, 1) := by decide +kernel
theorem dX2_countByTurn_8 : decode cX2_countByTurn 8 = .ok (.arraylength, 1) := by decide +kernel
theorem dX2_countByTurn_9 : decode cX2_countByTurn 9 = .ok (.istore 4, 2) := by decide +kernel
theorem dX2_countByTurn_11 : decode cX2_countByTurn 11 = .ok (.iconst 0, 1) := by decide +kernel
theorem dX2_countByTurn_12 : decode cX2_countByTurn 12 = .ok (.istore 5, 2) := by decide +kernel
theorem dX2_countByTurn_14 : decode cX2_countByTurn 14 = .ok (.iload 5, 2) := by decide +kernel
theorem dX2_countByTurn_16 : decode cX2_countByTurn 16 = .ok (.iload 4, 2) := by decide +kernel
theorem dX2_countByTurn_18 : decode cX2_countByTurn 18 = .ok (.if_icmp .ge 37, 3) := by decide +kernel
theorem dX2_countByTurn_21 : decode cX2_countByTurn 21 = .ok (.aload_n 3, 1) := by decide +kernel
theorem dX2_countByTurn_22 : decode cX2_countByTurn 22 = .ok (.iload 5, 2) := by decide +kernel
theorem dX2_countByTurn_24 : decode cX2_countByTurn 24 = .ok (.aaload, 1) := by decide +kernel
theorem dX2_countByTurn_25 : decode cX2_countByTurn 25 = .ok (.astore 6, 2) := by decide +kernel
theorem dX2_countByTurn_27 : decode cX2_countByTurn 27 = .ok (.aload_n 0, 1) := by decide +kernel
theorem dX2_countByTurn_28 : decode cX2_countByTurn 28 = .ok (.aload 6, 2) := by decide +kernel
theorem dX2_countByTurn_30 : decode cX2_countByTurn 30 = .ok (.iconst 1, 1) := by decide +kernel
theorem dX2_countByTurn_31 : decode cX2_countByTurn 31 = .ok (.aload_n 1, 1) := by decide +kernel
theorem dX2_countByTurn_32 : decode cX2_countByTurn 32 = .ok (.invokevirtual 87, 3) := by decide +kernel
theorem dX2_countByTurn_35 : decode cX2_countByTurn 35 = .ok (.ifCond .eq 14, 3) := by decide +kernel
theorem dX2_countByTurn_38 : decode cX2_countByTurn 38 = .ok (.aload 6, 2) := by decide +kernel
theorem dX2_countByTurn_40 : decode cX2_countByTurn 40 = .ok (.getfield 91, 3) := by decide +kernel
theorem dX2_countByTurn_43 : decode cX2_countByTurn 43 = .ok (.ifCond .eq 6, 3) := by decide +kernel
theorem dX2_countByTurn_46 : decode cX2_countByTurn 46 = .ok (.iinc 2 1, 3) := by decide +kernel
theorem dX2_countByTurn_49 : decode cX2_countByTurn 49 = .ok (.iinc 5 1, 3) := by decide +kernel
theorem dX2_countByTurn_52 : decode cX2_countByTurn 52 = .ok (.goto (-38), 3) := by decide +kernel
theorem dX2_countByTurn_55 : decode cX2_countByTurn 55 = .ok (.iload_n 2, 1) := by decide +kernel
theorem dX2_countByTurn_56 : decode cX2_countByTurn 56 = .ok (.ireturn, 1) := by decide +kernel
set_option maxRecDepth 20000 in
theorem ggX2_joinQueue_X2_isAt : GoodIn wsX2_joinQueue wsX2_isAt := goodIn_r _ [6, 10, 11, 12, 13, 14, 15, 16, 17, 18, 19, 20, 21, 22, 23, 24, 25] (by decide +kernel) (by decide +kernel)
set_option maxRecDepth 20000 in
theorem gX2_joinQueue_X2_isAt : GoodIn wsX2_joinQueue (wsV RX2 87 RX2 yX2_isAt wsX2_isAt) := goodIn_app (goodIn_of _ (by decide +kernel)) ggX2_joinQueue_X2_isAt
theorem dX2_joinQueue_0 : decode cX2_joinQueue 0 = .ok (.aload_n 0, 1) := by decide +kernel
theorem dX2_joinQueue_1 : decode cX2_joinQueue 1 = .ok (.getfield 17, 3) := by decide +kernel
theorem dX2_joinQueue_4 : decode cX2_joinQueue 4 = .ok (.astore 4, 2) := by decide +kernel
theorem dX2_joinQueue_6 : decode cX2_joinQueue 6 = .ok (.aload 4, 2) := by decide +kernel
theorem dX2_joinQueue_8 : decode cX2_joinQueue 8 = .ok (.arraylength, 1) := by decide +kernel
theorem dX2_joinQueue_9 : decode cX2_joinQueue 9 = .ok (.istore 5, 2) := by decide +kernel
theorem dX2_joinQueue_11 : decode cX2_joinQueue 11 = .ok (.iconst 0, 1) := by decide +kernel
theorem dX2_joinQueue_12 : decode cX2_joinQueue 12 = .ok (.istore 6, 2) := by decide +kernel
theorem dX2_joinQueue_14 : decode cX2_joinQueue 14 = .ok (.iload 6, 2) := by decide +kernel
theorem dX2_joinQueue_16 : decode cX2_joinQueue 16 = .ok (.iload 5, 2) := by decide +kernel
theorem dX2_joinQueue_18 : decode cX2_joinQueue 18 = .ok (.if_icmp .ge 47, 3) := by decide +kernel
theorem dX2_joinQueue_21 : decode cX2_joinQueue 21 = .ok (.aload 4, 2) := by decide +kernel
theorem dX2_joinQueue_23 : decode cX2_joinQueue 23 = .ok (.iload 6, 2) := by decide +kernel
theorem dX2_joinQueue_25 : decode cX2_joinQueue 25 = .ok (.aaload, 1) := by decide +kernel
theorem dX2_joinQueue_26 : decode cX2_joinQueue 26 = .ok (.astore 7, 2) := by decide +kernel
theorem dX2_joinQueue_28 : decode cX2_joinQueue 28 = .ok (.aload_n 0, 1) := by decide +kernel
theorem dX2_joinQueue_29 : decode cX2_joinQueue 29 = .ok (.aload 7, 2) := by decide +kernel
theorem dX2_joinQueue_31 : decode cX2_joinQueue 31 = .ok (.iconst 1, 1) := by decide +kernel
theorem dX2_joinQueue_32 : decode cX2_joinQueue 32 = .ok (.aload_n 2, 1) := by decide +kernel
theorem dX2_joinQueue_33 : decode cX2_joinQueue 33 = .ok (.invokevirtual 87, 3) := by decide +kernel
theorem dX2_joinQueue_36 : decode cX2_joinQueue 36 = .ok (.ifCond .eq 23, 3) := by decide +kernel
theorem dX2_joinQueue_39 : decode cX2_joinQueue 39 = .ok (.aload 7, 2) := by decide +kernel
theorem dX2_joinQueue_41 : decode cX2_joinQueue 41 = .ok (.getfield 144, 3) := by decide +kernel
theorem dX2_joinQueue_44 : decode cX2_joinQueue 44 = .ok (.iload_n 3, 1) := by decide +kernel
theorem dX2_joinQueue_45 : decode cX2_joinQueue 45 = .ok (.if_icmp .lt 14, 3) := by decide +kernel
theorem dX2_joinQueue_48 : decode cX2_joinQueue 48 = .ok (.aload 7, 2) := by decide +kernel
theorem dX2_joinQueue_50 : decode cX2_joinQueue 50 = .ok (.dup, 1) := by decide +kernel
theorem dX2_joinQueue_51 : decode cX2_joinQueue 51 = .ok (.getfield 144, 3) := by decide +kernel
theorem dX2_joinQueue_54 : decode cX2_joinQueue 54 = .ok (.iconst 1, 1) := by decide +kernel
theorem dX2_joinQueue_55 : decode cX2_joinQueue 55 = .ok (.iadd, 1) := by decide +kernel
theorem dX2_joinQueue_56 : decode cX2_joinQueue 56 = .ok (.putfield 144, 3) := by decide +kernel
theorem dX2_joinQueue_59 : decode cX2_joinQueue 59 = .ok (.iinc 6 1, 3) := by decide +kernel
theorem dX2_joinQueue_62 : decode cX2_joinQueue 62 = .ok (.goto (-48), 3) := by decide +kernel
theorem dX2_joinQueue_65 : decode cX2_joinQueue 65 = .ok (.aload_n 1, 1) := by decide +kernel
theorem dX2_joinQueue_66 : decode cX2_joinQueue 66 = .ok (.iconst 1, 1) := by decide +kernel
theorem dX2_joinQueue_67 : decode cX2_joinQueue 67 = .ok (.putfield 138, 3) := by decide +kernel
theorem dX2_joinQueue_70 : decode cX2_joinQueue 70 = .ok (.aload_n 1, 1) := by decide +kernel
theorem dX2_joinQueue_71 : decode cX2_joinQueue 71 = .ok (.aload_n 2, 1) := by decide +kernel
theorem dX2_joinQueue_72 : decode cX2_joinQueue 72 = .ok (.getfield 133, 3) := by decide +kernel
theorem dX2_joinQueue_75 : decode cX2_joinQueue 75 = .ok (.putfield 141, 3) := by decide +kernel
theorem dX2_joinQueue_78 : decode cX2_joinQueue 78 = .ok (.aload_n 1, 1) := by decide +kernel
theorem dX2_joinQueue_79 : decode cX2_joinQueue 79 = .ok (.iload_n 3, 1) := by decide +kernel
theorem dX2_joinQueue_80 : decode cX2_joinQueue 80 = .ok (.putfield 144, 3) := by decide +kernel
theorem dX2_joinQueue_83 : decode cX2_joinQueue 83 = .ok (.return_, 1) := by decide +kernel
set_option maxRecDepth 20000 in
theorem ggX2_leaveQueue_X2_loseTurn : GoodIn wsX2_leaveQueue wsX2_loseTurn := goodIn_r _ [6, 14, 15, 16, 17, 18, 19, 20, 21, 22, 23] (by decide +kernel) (by decide +kernel)
set_option maxRecDepth 20000 in
theorem gX2_leaveQueue_X2_loseTurn : GoodIn wsX2_leaveQueue (wsV RX2 189 RX2 yX2_loseTurn wsX2_loseTurn) := goodIn_app (goodIn_of _ (by decide +kernel)) ggX2_leaveQueue_X2_loseTurn
set_option maxRecDepth 20000 in
theorem ggX2_leaveQueue_X2_becomeIdle : GoodIn wsX2_leaveQueue wsX2_becomeIdle := goodIn_r _ [10, 14, 15, 16, 17, 18, 19, 20, 21, 22, 23] (by decide +kernel) (by decide +kernel)
set_option maxRecDepth 20000 in
theorem gX2_leaveQueue_X2_becomeIdle : GoodIn wsX2_leaveQueue (wsV RX2 183 RX2 yX2_becomeIdle wsX2_becomeIdle) := goodIn_app (goodIn_of _ (by decide +kernel)) ggX2_leaveQueue_X2_becomeIdle
theorem dX2_leaveQueue_0 : decode cX2_leaveQueue 0 = .ok (.aload_n 0, 1) := by decide +kernel
theorem dX2_leaveQueue_1 : decode cX2_leaveQueue 1 = .ok (.getfield 17, 3) := by decide +kernel
theorem dX2_leaveQueue_4 : decode cX2_leaveQueue 4 = .ok (.astore_n 2, 1) := by decide +kernel
theorem dX2_leaveQueue_5 : decode cX2_leaveQueue 5 = .ok (.aload_n 2, 1) := by decide +kernel
theorem dX2_leaveQueue_6 : decode cX2_leaveQueue 6 = .ok (.arraylength, 1) := by decide +kernel
theorem dX2_leaveQueue_7 : decode cX2_leaveQueue 7 = .ok (.istore_n 3, 1) := by decide +kernel
theorem dX2_leaveQueue_8 : decode cX2_leaveQueue 8 = .ok (.iconst 0, 1) := by decide +kernel
theorem dX2_leaveQueue_9 : decode cX2_leaveQueue 9 = .ok (.istore 4, 2) := by decide +kernel
theorem dX2_leaveQueue_11 : decode cX2_leaveQueue 11 = .ok (.iload 4, 2) := by decide +kernel
theorem dX2_leaveQueue_13 : decode cX2_leaveQueue 13 = .ok (.iload_n 3, 1) := by decide +kernel
theorem dX2_leaveQueue_14 : decode cX2_leaveQueue 14 = .ok (.if_icmp .ge 59, 3) := by decide +kernel
theorem dX2_leaveQueue_17 : decode cX2_leaveQueue 17 = .ok (.aload_n 2, 1) := by decide +kernel
theorem dX2_leaveQueue_18 : decode cX2_leaveQueue 18 = .ok (.iload 4, 2) := by decide +kernel
theorem dX2_leaveQueue_20 : decode cX2_leaveQueue 20 = .ok (.aaload, 1) := by decide +kernel
theorem dX2_leaveQueue_21 : decode cX2_leaveQueue 21 = .ok (.astore 5, 2) := by decide +kernel
theorem dX2_leaveQueue_23 : decode cX2_leaveQueue 23 = .ok (.aload 5, 2) := by decide +kernel
theorem dX2_leaveQueue_25 : decode cX2_leaveQueue 25 = .ok (.getfield 138, 3) := by decide +kernel
theorem dX2_leaveQueue_28 : decode cX2_leaveQueue 28 = .ok (.iconst 1, 1) := by decide +kernel
theorem dX2_leaveQueue_29 : decode cX2_leaveQueue 29 = .ok (.if_icmp .ne 38, 3) := by decide +kernel
theorem dX2_leaveQueue_32 : decode cX2_leaveQueue 32 = .ok (.aload 5, 2) := by decide +kernel
theorem dX2_leaveQueue_34 : decode cX2_leaveQueue 34 = .ok (.getfield 141, 3) := by decide +kernel
theorem dX2_leaveQueue_37 : decode cX2_leaveQueue 37 = .ok (.aload_n 1, 1) := by decide +kernel
theorem dX2_leaveQueue_38 : decode cX2_leaveQueue 38 = .ok (.getfield 141, 3) := by decide +kernel
theorem dX2_leaveQueue_41 : decode cX2_leaveQueue 41 = .ok (.if_icmp .ne 26, 3) := by decide +kernel
theorem dX2_leaveQueue_44 : decode cX2_leaveQueue 44 = .ok (.aload 5, 2) := by decide +kernel
theorem dX2_leaveQueue_46 : decode cX2_leaveQueue 46 = .ok (.getfield 144, 3) := by decide +kernel
theorem dX2_leaveQueue_49 : decode cX2_leaveQueue 49 = .ok (.aload_n 1, 1) := by decide +kernel
theorem dX2_leaveQueue_50 : decode cX2_leaveQueue 50 = .ok (.getfield 144, 3) := by decide +kernel
theorem dX2_leaveQueue_53 : decode cX2_leaveQueue 53 = .ok (.if_icmp .le 14, 3) := by decide +kernel
theorem dX2_leaveQueue_56 : decode cX2_leaveQueue 56 = .ok (.aload 5, 2) := by decide +kernel
theorem dX2_leaveQueue_58 : decode cX2_leaveQueue 58 = .ok (.dup, 1) := by decide +kernel
theorem dX2_leaveQueue_59 : decode cX2_leaveQueue 59 = .ok (.getfield 144, 3) := by decide +kernel
theorem dX2_leaveQueue_62 : decode cX2_leaveQueue 62 = .ok (.iconst 1, 1) := by decide +kernel
theorem dX2_leaveQueue_63 : decode cX2_leaveQueue 63 = .ok (.isub, 1) := by decide +kernel
theorem dX2_leaveQueue_64 : decode cX2_leaveQueue 64 = .ok (.putfield 144, 3) := by decide +kernel
theorem dX2_leaveQueue_67 : decode cX2_leaveQueue 67 = .ok (.iinc 4 1, 3) := by decide +kernel
theorem dX2_leaveQueue_70 : decode cX2_leaveQueue 70 = .ok (.goto (-59), 3) := by decide +kernel
theorem dX2_leaveQueue_73 : decode cX2_leaveQueue 73 = .ok (.aload_n 1, 1) := by decide +kernel
theorem dX2_leaveQueue_74 : decode cX2_leaveQueue 74 = .ok (.getfield 91, 3) := by decide +kernel
theorem dX2_leaveQueue_77 : decode cX2_leaveQueue 77 = .ok (.ifCond .eq 13, 3) := by decide +kernel
theorem dX2_leaveQueue_80 : decode cX2_leaveQueue 80 = .ok (.aload_n 0, 1) := by decide +kernel
theorem dX2_leaveQueue_81 : decode cX2_leaveQueue 81 = .ok (.aload_n 1, 1) := by decide +kernel
theorem dX2_leaveQueue_82 : decode cX2_leaveQueue 82 = .ok (.invokevirtual 189, 3) := by decide +kernel
theorem dX2_leaveQueue_85 : decode cX2_leaveQueue 85 = .ok (.aload_n 1, 1) := by decide +kernel
theorem dX2_leaveQueue_86 : decode cX2_leaveQueue 86 = .ok (.iconst 0, 1) := by decide +kernel
theorem dX2_leaveQueue_87 : decode cX2_leaveQueue 87 = .ok (.putfield 91, 3) := by decide +kernel
theorem dX2_leaveQueue_90 : decode cX2_leaveQueue 90 = .ok (.aload_n 0, 1) := by decide +kernel
theorem dX2_leaveQueue_91 : decode cX2_leaveQueue 91 = .ok (.aload_n 1, 1) := by decide +kernel
theorem dX2_leaveQueue_92 : decode cX2_leaveQueue 92 = .ok (.invokevirtual 183, 3) := by decide +kernel
theorem dX2_leaveQueue_95 : decode cX2_leaveQueue 95 = .ok (.return_, 1) := by decide +kernel
set_option maxRecDepth 20000 in
theorem ggX2_emptyQueue_X2_isAt : GoodIn wsX2_emptyQueue wsX2_isAt := goodIn_r _ [6, 22, 23, 24, 25, 26, 27, 28, 29, 30, 31, 32, 33, 34, 35, 36, 37] (by decide +kernel) (by decide +kernel)
set_option maxRecDepth 20000 in
theorem gX2_emptyQueue_X2_isAt : GoodIn wsX2_emptyQueue (wsV RX2 87 RX2 yX2_isAt wsX2_isAt) := goodIn_app (goodIn_of _ (by decide +kernel)) ggX2_emptyQueue_X2_isAt
set_option maxRecDepth 20000 in
theorem ggX2_emptyQueue_X2_leaveQueue : GoodIn wsX2_emptyQueue wsX2_leaveQueue := goodIn_r _ [10, 1, 11, 12, 13, 5, 14, 15, 16, 17, 18, 19, 20, 21, 22, 23, 24, 25, 26, 27, 28, 29, 30, 31] (by decide +kernel) (by decide +kernel)
set_option maxRecDepth 20000 in
theorem gX2_emptyQueue_X2_leaveQueue : GoodIn wsX2_emptyQueue (wsV RX2 94 RX2 yX2_leaveQueue wsX2_leaveQueue) := goodIn_app (goodIn_of _ (by decide +kernel)) ggX2_emptyQueue_X2_leaveQueue
theorem dX2_emptyQueue_0 : decode cX2_emptyQueue 0 = .ok (.iconst 0, 1) := by decide +kernel
theorem dX2_emptyQueue_1 : decode cX2_emptyQueue 1 = .ok (.istore_n 2, 1) := by decide +kernel
theorem dX2_emptyQueue_2 : decode cX2_emptyQueue 2 = .ok (.aload_n 0, 1) := by decide +kernel
theorem dX2_emptyQueue_3 : decode cX2_emptyQueue 3 = .ok (.getfield 17, 3) := by decide +kernel
theorem dX2_emptyQueue_6 : decode cX2_emptyQueue 6 = .ok (.astore_n 3, 1) := by decide +kernel
theorem dX2_emptyQueue_7 : decode cX2_emptyQueue 7 = .ok (.aload_n 3, 1) := by decide +kernel
theorem dX2_emptyQueue_8 : decode cX2_emptyQueue 8 = .ok (.arraylength, 1) := by decide +kernel
theorem dX2_emptyQueue_9 : decode cX2_emptyQueue 9 = .ok (.istore 4, 2) := by decide +kernel
theorem dX2_emptyQueue_11 : decode cX2_emptyQueue 11 = .ok (.iconst 0, 1) := by decide +kernel
theorem dX2_emptyQueue_12 : decode cX2_emptyQueue 12 = .ok (.istore 5, 2) := by decide +kernel
theorem dX2_emptyQueue_14 : decode cX2_emptyQueue 14 = .ok (.iload 5, 2) := by decide +kernel
theorem dX2_emptyQueue_16 : decode cX2_emptyQueue 16 = .ok (.iload 4, 2) := by decide +kernel
theorem dX2_emptyQueue_18 : decode cX2_emptyQueue 18 = .ok (.if_icmp .ge 35, 3) := by decide +kernel
theorem dX2_emptyQueue_21 : decode cX2_emptyQueue 21 = .ok (.aload_n 3, 1) := by decide +kernel
theorem dX2_emptyQueue_22 : decode cX2_emptyQueue 22 = .ok (.iload 5, 2) := by decide +kernel
theorem dX2_emptyQueue_24 : decode cX2_emptyQueue 24 = .ok (.aaload, 1) := by decide +kernel
theorem dX2_emptyQueue_25 : decode cX2_emptyQueue 25 = .ok (.astore 6, 2) := by decide +kernel
theorem dX2_emptyQueue_27 : decode cX2_emptyQueue 27 = .ok (.aload_n 0, 1) := by decide +kernel
theorem dX2_emptyQueue_28 : decode cX2_emptyQueue 28 = .ok (.aload 6, 2) := by decide +kernel
theorem dX2_emptyQueue_30 : decode cX2_emptyQueue 30 = .ok (.iconst 1, 1) := by decide +kernel
theorem dX2_emptyQueue_31 : decode cX2_emptyQueue 31 = .ok (.aload_n 1, 1) := by decide +kernel
theorem dX2_emptyQueue_32 : decode cX2_emptyQueue 32 = .ok (.invokevirtual 87, 3) := by decide +kernel
theorem dX2_emptyQueue_35 : decode cX2_emptyQueue 35 = .ok (.ifCond .eq 12, 3) := by decide +kernel
theorem dX2_emptyQueue_38 : decode cX2_emptyQueue 38 = .ok (.aload_n 0, 1) := by decide +kernel
theorem dX2_emptyQueue_39 : decode cX2_emptyQueue 39 = .ok (.aload 6, 2) := by decide +kernel
theorem dX2_emptyQueue_41 : decode cX2_emptyQueue 41 = .ok (.invokevirtual 94, 3) := by decide +kernel
theorem dX2_emptyQueue_44 : decode cX2_emptyQueue 44 = .ok (.iinc 2 1, 3) := by decide +kernel
theorem dX2_emptyQueue_47 : decode cX2_emptyQueue 47 = .ok (.iinc 5 1, 3) := by decide +kernel
theorem dX2_emptyQueue_50 : decode cX2_emptyQueue 50 = .ok (.goto (-36), 3) := by decide +kernel
theorem dX2_emptyQueue_53 : decode cX2_emptyQueue 53 = .ok (.iload_n 2, 1) := by decide +kernel
theorem dX2_emptyQueue_54 : decode cX2_emptyQueue 54 = .ok (.ireturn, 1) := by decide +kernel
theorem dJ9_max_7cf53_0 : decode cJ9_max_7cf53 0 = .ok (.iload_n 0, 1) := by decide +kernel
theorem dJ9_max_7cf53_1 : decode cJ9_max_7cf53 1 = .ok (.iload_n 1, 1) := by decide +kernel
theorem dJ9_max_7cf53_2 : decode cJ9_max_7cf53 2 = .ok (.if_icmp .lt 7, 3) := by decide +kernel
theorem dJ9_max_7cf53_5 : decode cJ9_max_7cf53 5 = .ok (.iload_n 0, 1) := by decide +kernel
theorem dJ9_max_7cf53_6 : decode cJ9_max_7cf53 6 = .ok (.goto 4, 3) := by decide +kernel
theorem dJ9_max_7cf53_9 : decode cJ9_max_7cf53 9 = .ok (.iload_n 1, 1) := by decide +kernel
theorem dJ9_max_7cf53_10 : decode cJ9_max_7cf53 10 = .ok (.ireturn, 1) := by decide +kernel
theorem dJ9_min_7cf53_0 : decode cJ9_min_7cf53 0 = .ok (.iload_n 0, 1) := by decide +kernel
theorem dJ9_min_7cf53_1 : decode cJ9_min_7cf53 1 = .ok (.iload_n 1, 1) := by decide +kernel
theorem dJ9_min_7cf53_2 : decode cJ9_min_7cf53 2 = .ok (.if_icmp .gt 7, 3) := by decide +kernel
theorem dJ9_min_7cf53_5 : decode cJ9_min_7cf53 5 = .ok (.iload_n 0, 1) := by decide +kernel
theorem dJ9_min_7cf53_6 : decode cJ9_min_7cf53 6 = .ok (.goto 4, 3) := by decide +kernel
theorem dJ9_min_7cf53_9 : decode cJ9_min_7cf53 9 = .ok (.iload_n 1, 1) := by decide +kernel
theorem dJ9_min_7cf53_10 : decode cJ9_min_7cf53 10 = .ok (.ireturn, 1) := by decide +kernel
theorem dJxa1e45_init_da8c8_0 : decode cJxa1e45_init_da8c8 0 = .ok (.aload_n 0, 1) := by decide +kernel
theorem dJxa1e45_init_da8c8_1 : decode cJxa1e45_init_da8c8 1 = .ok (.invokespecial 1, 3) := by decide +kernel
theorem dJxa1e45_init_da8c8_4 : decode cJxa1e45_init_da8c8 4 = .ok (.return_, 1) := by decide +kernel
set_option maxRecDepth 20000 in
theorem ggJxc12de_init_da8c8_Jxa1e45_init_da8c8 : GoodIn wsJxc12de_init_da8c8 wsJxa1e45_init_da8c8 := goodIn_r _ [5, 6, 7, 8] (by decide +kernel) (by decide +kernel)
set_option maxRecDepth 20000 in
theorem gJxc12de_init_da8c8_Jxa1e45_init_da8c8 : GoodIn wsJxc12de_init_da8c8 (wsJxa1e45_init_da8c8) := ggJxc12de_init_da8c8_Jxa1e45_init_da8c8
theorem dJxc12de_init_da8c8_0 : decode cJxc12de_init_da8c8 0 = .ok (.aload_n 0, 1) := by decide +kernel
theorem dJxc12de_init_da8c8_1 : decode cJxc12de_init_da8c8 1 = .ok (.invokespecial 1, 3) := by decide +kernel
theorem dJxc12de_init_da8c8_4 : decode cJxc12de_init_da8c8 4 = .ok (.aload_n 0, 1) := by decide +kernel
theorem dJxc12de_init_da8c8_5 : decode cJxc12de_init_da8c8 5 = .ok (.iconst 0, 1) := by decide +kernel
theorem dJxc12de_init_da8c8_6 : decode cJxc12de_init_da8c8 6 = .ok (.putfield 7, 3) := by decide +kernel
theorem dJxc12de_init_da8c8_9 : decode cJxc12de_init_da8c8 9 = .ok (.return_, 1) := by decide +kernel
set_option maxRecDepth 20000 in
theorem ggJx4a65c_init_da8c8_Jxc12de_init_da8c8 : GoodIn wsJx4a65c_init_da8c8 wsJxc12de_init_da8c8 := goodIn_r _ [6, 7, 8, 9, 10, 11, 12, 13, 14, 15, 16, 17] (by decide +kernel) (by decide +kernel)
set_option maxRecDepth 20000 in
theorem gJx4a65c_init_da8c8_Jxc12de_init_da8c8 : GoodIn wsJx4a65c_init_da8c8 (wsJxc12de_init_da8c8) := ggJx4a65c_init_da8c8_Jxc12de_init_da8c8
theorem dJx4a65c_init_da8c8_0 : decode cJx4a65c_init_da8c8 0 = .ok (.aload_n 0, 1) := by decide +kernel
theorem dJx4a65c_init_da8c8_1 : decode cJx4a65c_init_da8c8 1 = .ok (.invokespecial 1, 3) := by decide +kernel
theorem dJx4a65c_init_da8c8_4 : decode cJx4a65c_init_da8c8 4 = .ok (.aload_n 0, 1) := by decide +kernel
theorem dJx4a65c_init_da8c8_5 : decode cJx4a65c_init_da8c8 5 = .ok (.getstatic 39, 3) := by decide +kernel
theorem dJx4a65c_init_da8c8_8 : decode cJx4a65c_init_da8c8 8 = .ok (.putfield 9, 3) := by decide +kernel
theorem dJx4a65c_init_da8c8_11 : decode cJx4a65c_init_da8c8 11 = .ok (.return_, 1) := by decide +kernel
set_option maxRecDepth 20000 in
theorem ggJx4a65c_grow_92f84_J8_newLength_cabcc : GoodIn wsJx4a65c_grow_92f84 wsJ8_newLength_cabcc := goodIn_r _ [11, 12, 4, 5, 6, 13, 14, 15, 10, 16] (by decide +kernel) (by decide +kernel)
set_option maxRecDepth 20000 in
theorem gJx4a65c_grow_92f84_J8_newLength_cabcc : GoodIn wsJx4a65c_grow_92f84 (va_wsS RJx4a65c 73 yJ8_newLength_cabcc wsJ8_newLength_cabcc) := goodIn_app (goodIn_of _ (by decide +kernel)) ggJx4a65c_grow_92f84_J8_newLength_cabcc
set_option maxRecDepth 20000 in
theorem ggJx4a65c_grow_92f84_J7_copyOf_1904c : GoodIn wsJx4a65c_grow_92f84 wsJ7_copyOf_1904c := goodIn_r _ [20, 21, 22, 23, 24, 25, 26, 19, 27, 28, 29, 30, 31, 5, 32, 33, 34, 35, 36] (by decide +kernel) (by decide +kernel)
set_option maxRecDepth 20000 in
theorem gJx4a65c_grow_92f84_J7_copyOf_1904c : GoodIn wsJx4a65c_grow_92f84 (va_wsS RJx4a65c 66 yJ7_copyOf_1904c wsJ7_copyOf_1904c) := goodIn_app (goodIn_of _ (by decide +kernel)) ggJx4a65c_grow_92f84_J7_copyOf_1904c
theorem dJx4a65c_grow_92f84_0 : decode cJx4a65c_grow_92f84 0 = .ok (.aload_n 0, 1) := by decide +kernel
theorem dJx4a65c_grow_92f84_1 : decode cJx4a65c_grow_92f84 1 = .ok (.getfield 9, 3) := by decide +kernel
theorem dJx4a65c_grow_92f84_4 : decode cJx4a65c_grow_92f84 4 = .ok (.arraylength, 1) := by decide +kernel
theorem dJx4a65c_grow_92f84_5 : decode cJx4a65c_grow_92f84 5 = .ok (.istore_n 2, 1) := by decide +kernel
theorem dJx4a65c_grow_92f84_6 : decode cJx4a65c_grow_92f84 6 = .ok (.iload_n 2, 1) := by decide +kernel
theorem dJx4a65c_grow_92f84_7 : decode cJx4a65c_grow_92f84 7 = .ok (.ifCond .gt 13, 3) := by decide +kernel
theorem dJx4a65c_grow_92f84_10 : decode cJx4a65c_grow_92f84 10 = .ok (.aload_n 0, 1) := by decide +kernel
theorem dJx4a65c_grow_92f84_11 : decode cJx4a65c_grow_92f84 11 = .ok (.getfield 9, 3) := by decide +kernel
theorem dJx4a65c_grow_92f84_14 : decode cJx4a65c_grow_92f84 14 = .ok (.getstatic 39, 3) := by decide +kernel
theorem dJx4a65c_grow_92f84_17 : decode cJx4a65c_grow_92f84 17 = .ok (.if_acmp .eq 28, 3) := by decide +kernel
theorem dJx4a65c_grow_92f84_20 : decode cJx4a65c_grow_92f84 20 = .ok (.iload_n 2, 1) := by decide +kernel
theorem dJx4a65c_grow_92f84_21 : decode cJx4a65c_grow_92f84 21 = .ok (.iload_n 1, 1) := by decide +kernel
theorem dJx4a65c_grow_92f84_22 : decode cJx4a65c_grow_92f84 22 = .ok (.iload_n 2, 1) := by decide +kernel
theorem dJx4a65c_grow_92f84_23 : decode cJx4a65c_grow_92f84 23 = .ok (.isub, 1) := by decide +kernel
theorem dJx4a65c_grow_92f84_24 : decode cJx4a65c_grow_92f84 24 = .ok (.iload_n 2, 1) := by decide +kernel
theorem dJx4a65c_grow_92f84_25 : decode cJx4a65c_grow_92f84 25 = .ok (.iconst 1, 1) := by decide +kernel
theorem dJx4a65c_grow_92f84_26 : decode cJx4a65c_grow_92f84 26 = .ok (.ishr, 1) := by decide +kernel
theorem dJx4a65c_grow_92f84_27 : decode cJx4a65c_grow_92f84 27 = .ok (.invokestatic 73, 3) := by decide +kernel
theorem dJx4a65c_grow_92f84_30 : decode cJx4a65c_grow_92f84 30 = .ok (.istore_n 3, 1) := by decide +kernel
theorem dJx4a65c_grow_92f84_31 : decode cJx4a65c_grow_92f84 31 = .ok (.aload_n 0, 1) := by decide +kernel
theorem dJx4a65c_grow_92f84_32 : decode cJx4a65c_grow_92f84 32 = .ok (.aload_n 0, 1) := by decide +kernel
theorem dJx4a65c_grow_92f84_33 : decode cJx4a65c_grow_92f84 33 = .ok (.getfield 9, 3) := by decide +kernel
theorem dJx4a65c_grow_92f84_36 : decode cJx4a65c_grow_92f84 36 = .ok (.iload_n 3, 1) := by decide +kernel
theorem dJx4a65c_grow_92f84_37 : decode cJx4a65c_grow_92f84 37 = .ok (.invokestatic 66, 3) := by decide +kernel
theorem dJx4a65c_grow_92f84_40 : decode cJx4a65c_grow_92f84 40 = .ok (.dup_x1, 1) := by decide +kernel
theorem dJx4a65c_grow_92f84_41 : decode cJx4a65c_grow_92f84 41 = .ok (.putfield 9, 3) := by decide +kernel
theorem dJx4a65c_grow_92f84_44 : decode cJx4a65c_grow_92f84 44 = .ok (.areturn, 1) := by decide +kernel
theorem dJx4a65c_grow_92f84_45 : decode cJx4a65c_grow_92f84 45 = .ok (.aload_n 0, 1) := by decide +kernel
theorem dJx4a65c_grow_92f84_46 : decode cJx4a65c_grow_92f84 46 = .ok (.bipush 10, 2) := by decide +kernel
theorem dJx4a65c_grow_92f84_48 : decode cJx4a65c_grow_92f84 48 = .ok (.iload_n 1, 1) := by decide +kernel
theorem dJx4a65c_grow_92f84_49 : decode cJx4a65c_grow_92f84 49 = .ok (.invokestatic 79, 3) := by decide +kernel
theorem dJx4a65c_grow_92f84_52 : decode cJx4a65c_grow_92f84 52 = .ok (.anewarray 7, 3) := by decide +kernel
theorem dJx4a65c_grow_92f84_55 : decode cJx4a65c_grow_92f84 55 = .ok (.dup_x1, 1) := by decide +kernel
theorem dJx4a65c_grow_92f84_56 : decode cJx4a65c_grow_92f84 56 = .ok (.putfield 9, 3) := by decide +kernel
theorem dJx4a65c_grow_92f84_59 : decode cJx4a65c_grow_92f84 59 = .ok (.areturn, 1) := by decide +kernel
set_option maxRecDepth 20000 in
theorem ggJx4a65c_grow_d5877_Jx4a65c_grow_92f84 : GoodIn wsJx4a65c_grow_d5877 wsJx4a65c_grow_92f84 := goodIn_r _ [6, 7, 8, 9, 10, 11, 12, 13, 14, 15, 16, 17, 18, 19, 20, 21, 22, 23, 24, 25, 26, 27, 28, 29, 30, 31, 32, 33, 34, 35, 36, 37, 38, 39, 40, 41, 42, 43, 44, 45] (by decide +kernel) (by decide +kernel)
set_option maxRecDepth 20000 in
theorem gJx4a65c_grow_d5877_Jx4a65c_grow_92f84 : GoodIn wsJx4a65c_grow_d5877 (wsV RJx4a65c 69 RJx4a65c yJx4a65c_grow_92f84 wsJx4a65c_grow_92f84) := goodIn_app (goodIn_of _ (by decide +kernel)) ggJx4a65c_grow_d5877_Jx4a65c_grow_92f84
theorem dJx4a65c_grow_d5877_0 : decode cJx4a65c_grow_d5877 0 = .ok (.aload_n 0, 1) := by decide +kernel
theorem dJx4a65c_grow_d5877_1 : decode cJx4a65c_grow_d5877 1 = .ok (.aload_n 0, 1) := by decide +kernel
theorem dJx4a65c_grow_d5877_2 : decode cJx4a65c_grow_d5877 2 = .ok (.getfield 48, 3) := by decide +kernel
theorem dJx4a65c_grow_d5877_5 : decode cJx4a65c_grow_d5877 5 = .ok (.iconst 1, 1) := by decide +kernel
theorem dJx4a65c_grow_d5877_6 : decode cJx4a65c_grow_d5877 6 = .ok (.iadd, 1) := by decide +kernel
theorem dJx4a65c_grow_d5877_7 : decode cJx4a65c_grow_d5877 7 = .ok (.invokevirtual 69, 3) := by decide +kernel
theorem dJx4a65c_grow_d5877_10 : decode cJx4a65c_grow_d5877 10 = .ok (.areturn, 1) := by decide +kernel
theorem dJx4a65c_size_8abf5_0 : decode cJx4a65c_size_8abf5 0 = .ok (.aload_n 0, 1) := by decide +kernel
theorem dJx4a65c_size_8abf5_1 : decode cJx4a65c_size_8abf5 1 = .ok (.getfield 48, 3) := by decide +kernel
theorem dJx4a65c_size_8abf5_4 : decode cJx4a65c_size_8abf5 4 = .ok (.ireturn, 1) := by decide +kernel
theorem dJx4a65c_elementData_915e3_0 : decode cJx4a65c_elementData_915e3 0 = .ok (.aload_n 0, 1) := by decide +kernel
theorem dJx4a65c_elementData_915e3_1 : decode cJx4a65c_elementData_915e3 1 = .ok (.getfield 9, 3) := by decide +kernel
theorem dJx4a65c_elementData_915e3_4 : decode cJx4a65c_elementData_915e3 4 = .ok (.iload_n 1, 1) := by decide +kernel
theorem dJx4a65c_elementData_915e3_5 : decode cJx4a65c_elementData_915e3 5 = .ok (.aaload, 1) := by decide +kernel
theorem dJx4a65c_elementData_915e3_6 : decode cJx4a65c_elementData_915e3 6 = .ok (.areturn, 1) := by decide +kernel
set_option maxRecDepth 20000 in
theorem ggJx4a65c_get_915e3_J15_checkIndex_7cf53 : GoodIn wsJx4a65c_get_915e3 wsJ15_checkIndex_7cf53 := goodIn_r _ [5, 6, 7, 8, 9] (by decide +kernel) (by decide +kernel)
set_option maxRecDepth 20000 in
theorem gJx4a65c_get_915e3_J15_checkIndex_7cf53 : GoodIn wsJx4a65c_get_915e3 (va_wsS RJx4a65c 118 yJ15_checkIndex_7cf53 wsJ15_checkIndex_7cf53) := goodIn_app (goodIn_of _ (by decide +kernel)) ggJx4a65c_get_915e3_J15_checkIndex_7cf53
set_option maxRecDepth 20000 in
theorem ggJx4a65c_get_915e3_Jx4a65c_elementData_915e3 : GoodIn wsJx4a65c_get_915e3 wsJx4a65c_elementData_915e3 := goodIn_r _ [14, 15, 16, 17, 18] (by decide +kernel) (by decide +kernel)
set_option maxRecDepth 20000 in
theorem gJx4a65c_get_915e3_Jx4a65c_elementData_915e3 : GoodIn wsJx4a65c_get_915e3 (wsV RJx4a65c 123 RJx4a65c yJx4a65c_elementData_915e3 wsJx4a65c_elementData_915e3) := goodIn_app (goodIn_of _ (by decide +kernel)) ggJx4a65c_get_915e3_Jx4a65c_elementData_915e3
theorem dJx4a65c_get_915e3_0 : decode cJx4a65c_get_915e3 0 = .ok (.iload_n 1, 1) := by decide +kernel
theorem dJx4a65c_get_915e3_1 : decode cJx4a65c_get_915e3 1 = .ok (.aload_n 0, 1) := by decide +kernel
theorem dJx4a65c_get_915e3_2 : decode cJx4a65c_get_915e3 2 = .ok (.getfield 48, 3) := by decide +kernel
theorem dJx4a65c_get_915e3_5 : decode cJx4a65c_get_915e3 5 = .ok (.invokestatic 118, 3) := by decide +kernel
theorem dJx4a65c_get_915e3_8 : decode cJx4a65c_get_915e3 8 = .ok (.pop, 1) := by decide +kernel
theorem dJx4a65c_get_915e3_9 : decode cJx4a65c_get_915e3 9 = .ok (.aload_n 0, 1) := by decide +kernel
theorem dJx4a65c_get_915e3_10 : decode cJx4a65c_get_915e3 10 = .ok (.iload_n 1, 1) := by decide +kernel
theorem dJx4a65c_get_915e3_11 : decode cJx4a65c_get_915e3 11 = .ok (.invokevirtual 123, 3) := by decide +kernel
theorem dJx4a65c_get_915e3_14 : decode cJx4a65c_get_915e3 14 = .ok (.areturn, 1) := by decide +kernel
set_option maxRecDepth 20000 in
theorem ggJx4a65c_add_72be8_Jx4a65c_grow_d5877 : GoodIn wsJx4a65c_add_72be8 wsJx4a65c_grow_d5877 := goodIn_r _ [6, 1, 7, 8, 9, 5, 10, 11, 12, 13, 14, 15, 16, 17, 18, 19, 20, 21, 22, 23, 24, 25, 26, 27, 28, 29, 30, 31, 32, 33, 34, 35, 36, 37, 38, 39, 40, 41, 42, 43, 44, 45, 46, 47, 48, 49] (by decide +kernel) (by decide +kernel)
set_option maxRecDepth 20000 in
theorem gJx4a65c_add_72be8_Jx4a65c_grow_d5877 : GoodIn wsJx4a65c_add_72be8 (wsV RJx4a65c 129 RJx4a65c yJx4a65c_grow_d5877 wsJx4a65c_grow_d5877) := goodIn_app (goodIn_of _ (by decide +kernel)) ggJx4a65c_add_72be8_Jx4a65c_grow_d5877
theorem dJx4a65c_add_72be8_0 : decode cJx4a65c_add_72be8 0 = .ok (.iload_n 3, 1) := by decide +kernel
theorem dJx4a65c_add_72be8_1 : decode cJx4a65c_add_72be8 1 = .ok (.aload_n 2, 1) := by decide +kernel
theorem dJx4a65c_add_72be8_2 : decode cJx4a65c_add_72be8 2 = .ok (.arraylength, 1) := by decide +kernel
theorem dJx4a65c_add_72be8_3 : decode cJx4a65c_add_72be8 3 = .ok (.if_icmp .ne 8, 3) := by decide +kernel
theorem dJx4a65c_add_72be8_6 : decode cJx4a65c_add_72be8 6 = .ok (.aload_n 0, 1) := by decide +kernel
theorem dJx4a65c_add_72be8_7 : decode cJx4a65c_add_72be8 7 = .ok (.invokevirtual 129, 3) := by decide +kernel
theorem dJx4a65c_add_72be8_10 : decode cJx4a65c_add_72be8 10 = .ok (.astore_n 2, 1) := by decide +kernel
theorem dJx4a65c_add_72be8_11 : decode cJx4a65c_add_72be8 11 = .ok (.aload_n 2, 1) := by decide +kernel
theorem dJx4a65c_add_72be8_12 : decode cJx4a65c_add_72be8 12 = .ok (.iload_n 3, 1) := by decide +kernel
theorem dJx4a65c_add_72be8_13 : decode cJx4a65c_add_72be8 13 = .ok (.aload_n 1, 1) := by decide +kernel
theorem dJx4a65c_add_72be8_14 : decode cJx4a65c_add_72be8 14 = .ok (.aastore, 1) := by decide +kernel
theorem dJx4a65c_add_72be8_15 : decode cJx4a65c_add_72be8 15 = .ok (.aload_n 0, 1) := by decide +kernel
theorem dJx4a65c_add_72be8_16 : decode cJx4a65c_add_72be8 16 = .ok (.iload_n 3, 1) := by decide +kernel
theorem dJx4a65c_add_72be8_17 : decode cJx4a65c_add_72be8 17 = .ok (.iconst 1, 1) := by decide +kernel
theorem dJx4a65c_add_72be8_18 : decode cJx4a65c_add_72be8 18 = .ok (.iadd, 1) := by decide +kernel
theorem dJx4a65c_add_72be8_19 : decode cJx4a65c_add_72be8 19 = .ok (.putfield 48, 3) := by decide +kernel
theorem dJx4a65c_add_72be8_22 : decode cJx4a65c_add_72be8 22 = .ok (.return_, 1) := by decide +kernel
set_option maxRecDepth 20000 in
theorem ggJx4a65c_add_9ea2d_Jx4a65c_add_72be8 : GoodIn wsJx4a65c_add_9ea2d wsJx4a65c_add_72be8 := goodIn_r _ [9, 4, 10, 11, 12, 8, 13, 14, 15, 16, 17, 3, 18, 19, 20, 21, 22, 23, 24, 25, 26, 27, 28, 29, 30, 31, 32, 33, 34, 35, 36, 37, 38, 39, 40, 41, 42, 43, 44, 45, 46, 47, 48, 49, 50, 51, 52, 53, 54, 55] (by decide +kernel) (by decide +kernel)
set_option maxRecDepth 20000 in
theorem gJx4a65c_add_9ea2d_Jx4a65c_add_72be8 : GoodIn wsJx4a65c_add_9ea2d (wsV RJx4a65c 131 RJx4a65c yJx4a65c_add_72be8 wsJx4a65c_add_72be8) := goodIn_app (goodIn_of _ (by decide +kernel)) ggJx4a65c_add_9ea2d_Jx4a65c_add_72be8
theorem dJx4a65c_add_9ea2d_0 : decode cJx4a65c_add_9ea2d 0 = .ok (.aload_n 0, 1) := by decide +kernel
theorem dJx4a65c_add_9ea2d_1 : decode cJx4a65c_add_9ea2d 1 = .ok (.dup, 1) := by decide +kernel
theorem dJx4a65c_add_9ea2d_2 : decode cJx4a65c_add_9ea2d 2 = .ok (.getfield 63, 3) := by decide +kernel
theorem dJx4a65c_add_9ea2d_5 : decode cJx4a65c_add_9ea2d 5 = .ok (.iconst 1, 1) := by decide +kernel
theorem dJx4a65c_add_9ea2d_6 : decode cJx4a65c_add_9ea2d 6 = .ok (.iadd, 1) := by decide +kernel
theorem dJx4a65c_add_9ea2d_7 : decode cJx4a65c_add_9ea2d 7 = .ok (.putfield 63, 3) := by decide +kernel
theorem dJx4a65c_add_9ea2d_10 : decode cJx4a65c_add_9ea2d 10 = .ok (.aload_n 0, 1) := by decide +kernel
theorem dJx4a65c_add_9ea2d_11 : decode cJx4a65c_add_9ea2d 11 = .ok (.aload_n 1, 1) := by decide +kernel
theorem dJx4a65c_add_9ea2d_12 : decode cJx4a65c_add_9ea2d 12 = .ok (.aload_n 0, 1) := by decide +kernel
theorem dJx4a65c_add_9ea2d_13 : decode cJx4a65c_add_9ea2d 13 = .ok (.getfield 9, 3) := by decide +kernel
theorem dJx4a65c_add_9ea2d_16 : decode cJx4a65c_add_9ea2d 16 = .ok (.aload_n 0, 1) := by decide +kernel
theorem dJx4a65c_add_9ea2d_17 : decode cJx4a65c_add_9ea2d 17 = .ok (.getfield 48, 3) := by decide +kernel
theorem dJx4a65c_add_9ea2d_20 : decode cJx4a65c_add_9ea2d 20 = .ok (.invokevirtual 131, 3) := by decide +kernel
theorem dJx4a65c_add_9ea2d_23 : decode cJx4a65c_add_9ea2d 23 = .ok (.iconst 1, 1) := by decide +kernel
theorem dJx4a65c_add_9ea2d_24 : decode cJx4a65c_add_9ea2d 24 = .ok (.ireturn, 1) := by decide +kernel
set_option maxRecDepth 20000 in
theorem ggJx4a65c_remove_915e3_J15_checkIndex_7cf53 : GoodIn wsJx4a65c_remove_915e3 wsJ15_checkIndex_7cf53 := goodIn_r _ [6, 7, 8, 9, 10] (by decide +kernel) (by decide +kernel)
set_option maxRecDepth 20000 in
theorem gJx4a65c_remove_915e3_J15_checkIndex_7cf53 : GoodIn wsJx4a65c_remove_915e3 (va_wsS RJx4a65c 118 yJ15_checkIndex_7cf53 wsJ15_checkIndex_7cf53) := goodIn_app (goodIn_of _ (by decide +kernel)) ggJx4a65c_remove_915e3_J15_checkIndex_7cf53
set_option maxRecDepth 20000 in
theorem ggJx4a65c_remove_915e3_Jx4a65c_fastRemove_b59b0 : GoodIn wsJx4a65c_remove_915e3 wsJx4a65c_fastRemove_b59b0 := goodIn_r _ [15, 16, 17, 1, 18, 19, 20, 21, 22, 23, 24] (by decide +kernel) (by decide +kernel)
set_option maxRecDepth 20000 in
theorem gJx4a65c_remove_915e3_Jx4a65c_fastRemove_b59b0 : GoodIn wsJx4a65c_remove_915e3 (wsV RJx4a65c 144 RJx4a65c yJx4a65c_fastRemove_b59b0 wsJx4a65c_fastRemove_b59b0) := goodIn_app (goodIn_of _ (by decide +kernel)) ggJx4a65c_remove_915e3_Jx4a65c_fastRemove_b59b0
theorem dJx4a65c_remove_915e3_0 : decode cJx4a65c_remove_915e3 0 = .ok (.iload_n 1, 1) := by decide +kernel
theorem dJx4a65c_remove_915e3_1 : decode cJx4a65c_remove_915e3 1 = .ok (.aload_n 0, 1) := by decide +kernel
theorem dJx4a65c_remove_915e3_2 : decode cJx4a65c_remove_915e3 2 = .ok (.getfield 48, 3) := by decide +kernel
theorem dJx4a65c_remove_915e3_5 : decode cJx4a65c_remove_915e3 5 = .ok (.invokestatic 118, 3) := by decide +kernel
theorem dJx4a65c_remove_915e3_8 : decode cJx4a65c_remove_915e3 8 = .ok (.pop, 1) := by decide +kernel
theorem dJx4a65c_remove_915e3_9 : decode cJx4a65c_remove_915e3 9 = .ok (.aload_n 0, 1) := by decide +kernel
theorem dJx4a65c_remove_915e3_10 : decode cJx4a65c_remove_915e3 10 = .ok (.getfield 9, 3) := by decide +kernel
theorem dJx4a65c_remove_915e3_13 : decode cJx4a65c_remove_915e3 13 = .ok (.astore_n 2, 1) := by decide +kernel
theorem dJx4a65c_remove_915e3_14 : decode cJx4a65c_remove_915e3 14 = .ok (.aload_n 2, 1) := by decide +kernel
theorem dJx4a65c_remove_915e3_15 : decode cJx4a65c_remove_915e3 15 = .ok (.iload_n 1, 1) := by decide +kernel
theorem dJx4a65c_remove_915e3_16 : decode cJx4a65c_remove_915e3 16 = .ok (.aaload, 1) := by decide +kernel
theorem dJx4a65c_remove_915e3_17 : decode cJx4a65c_remove_915e3 17 = .ok (.astore_n 3, 1) := by decide +kernel
theorem dJx4a65c_remove_915e3_18 : decode cJx4a65c_remove_915e3 18 = .ok (.aload_n 0, 1) := by decide +kernel
theorem dJx4a65c_remove_915e3_19 : decode cJx4a65c_remove_915e3 19 = .ok (.aload_n 2, 1) := by decide +kernel
theorem dJx4a65c_remove_915e3_20 : decode cJx4a65c_remove_915e3 20 = .ok (.iload_n 1, 1) := by decide +kernel
theorem dJx4a65c_remove_915e3_21 : decode cJx4a65c_remove_915e3 21 = .ok (.invokevirtual 144, 3) := by decide +kernel
theorem dJx4a65c_remove_915e3_24 : decode cJx4a65c_remove_915e3 24 = .ok (.aload_n 3, 1) := by decide +kernel
theorem dJx4a65c_remove_915e3_25 : decode cJx4a65c_remove_915e3 25 = .ok (.areturn, 1) := by decide +kernel
theorem dJx4a65c_fastRemove_b59b0_0 : decode cJx4a65c_fastRemove_b59b0 0 = .ok (.aload_n 0, 1) := by decide +kernel
theorem dJx4a65c_fastRemove_b59b0_1 : decode cJx4a65c_fastRemove_b59b0 1 = .ok (.dup, 1) := by decide +kernel
theorem dJx4a65c_fastRemove_b59b0_2 : decode cJx4a65c_fastRemove_b59b0 2 = .ok (.getfield 63, 3) := by decide +kernel
theorem dJx4a65c_fastRemove_b59b0_5 : decode cJx4a65c_fastRemove_b59b0 5 = .ok (.iconst 1, 1) := by decide +kernel
theorem dJx4a65c_fastRemove_b59b0_6 : decode cJx4a65c_fastRemove_b59b0 6 = .ok (.iadd, 1) := by decide +kernel
theorem dJx4a65c_fastRemove_b59b0_7 : decode cJx4a65c_fastRemove_b59b0 7 = .ok (.putfield 63, 3) := by decide +kernel
theorem dJx4a65c_fastRemove_b59b0_10 : decode cJx4a65c_fastRemove_b59b0 10 = .ok (.aload_n 0, 1) := by decide +kernel
theorem dJx4a65c_fastRemove_b59b0_11 : decode cJx4a65c_fastRemove_b59b0 11 = .ok (.getfield 48, 3) := by decide +kernel
theorem dJx4a65c_fastRemove_b59b0_14 : decode cJx4a65c_fastRemove_b59b0 14 = .ok (.iconst 1, 1) := by decide +kernel
theorem dJx4a65c_fastRemove_b59b0_15 : decode cJx4a65c_fastRemove_b59b0 15 = .ok (.isub, 1) := by decide +kernel
theorem dJx4a65c_fastRemove_b59b0_16 : decode cJx4a65c_fastRemove_b59b0 16 = .ok (.dup, 1) := by decide +kernel
theorem dJx4a65c_fastRemove_b59b0_17 : decode cJx4a65c_fastRemove_b59b0 17 = .ok (.istore_n 3, 1) := by decide +kernel
theorem dJx4a65c_fastRemove_b59b0_18 : decode cJx4a65c_fastRemove_b59b0 18 = .ok (.iload_n 2, 1) := by decide +kernel
theorem dJx4a65c_fastRemove_b59b0_19 : decode cJx4a65c_fastRemove_b59b0 19 = .ok (.if_icmp .le 15, 3) := by decide +kernel
theorem dJx4a65c_fastRemove_b59b0_22 : decode cJx4a65c_fastRemove_b59b0 22 = .ok (.aload_n 1, 1) := by decide +kernel
theorem dJx4a65c_fastRemove_b59b0_23 : decode cJx4a65c_fastRemove_b59b0 23 = .ok (.iload_n 2, 1) := by decide +kernel
theorem dJx4a65c_fastRemove_b59b0_24 : decode cJx4a65c_fastRemove_b59b0 24 = .ok (.iconst 1, 1) := by decide +kernel
theorem dJx4a65c_fastRemove_b59b0_25 : decode cJx4a65c_fastRemove_b59b0 25 = .ok (.iadd, 1) := by decide +kernel
theorem dJx4a65c_fastRemove_b59b0_26 : decode cJx4a65c_fastRemove_b59b0 26 = .ok (.aload_n 1, 1) := by decide +kernel
theorem dJx4a65c_fastRemove_b59b0_27 : decode cJx4a65c_fastRemove_b59b0 27 = .ok (.iload_n 2, 1) := by decide +kernel
theorem dJx4a65c_fastRemove_b59b0_28 : decode cJx4a65c_fastRemove_b59b0 28 = .ok (.iload_n 3, 1) := by decide +kernel
theorem dJx4a65c_fastRemove_b59b0_29 : decode cJx4a65c_fastRemove_b59b0 29 = .ok (.iload_n 2, 1) := by decide +kernel
theorem dJx4a65c_fastRemove_b59b0_30 : decode cJx4a65c_fastRemove_b59b0 30 = .ok (.isub, 1) := by decide +kernel
theorem dJx4a65c_fastRemove_b59b0_31 : decode cJx4a65c_fastRemove_b59b0 31 = .ok (.invokestatic 112, 3) := by decide +kernel
theorem dJx4a65c_fastRemove_b59b0_34 : decode cJx4a65c_fastRemove_b59b0 34 = .ok (.aload_n 1, 1) := by decide +kernel
theorem dJx4a65c_fastRemove_b59b0_35 : decode cJx4a65c_fastRemove_b59b0 35 = .ok (.aload_n 0, 1) := by decide +kernel
theorem dJx4a65c_fastRemove_b59b0_36 : decode cJx4a65c_fastRemove_b59b0 36 = .ok (.iload_n 3, 1) := by decide +kernel
theorem dJx4a65c_fastRemove_b59b0_37 : decode cJx4a65c_fastRemove_b59b0 37 = .ok (.dup_x1, 1) := by decide +kernel
theorem dJx4a65c_fastRemove_b59b0_38 : decode cJx4a65c_fastRemove_b59b0 38 = .ok (.putfield 48, 3) := by decide +kernel
theorem dJx4a65c_fastRemove_b59b0_41 : decode cJx4a65c_fastRemove_b59b0 41 = .ok (.aconst_null, 1) := by decide +kernel
theorem dJx4a65c_fastRemove_b59b0_42 : decode cJx4a65c_fastRemove_b59b0 42 = .ok (.aastore, 1) := by decide +kernel
theorem dJx4a65c_fastRemove_b59b0_43 : decode cJx4a65c_fastRemove_b59b0 43 = .ok (.return_, 1) := by decide +kernel
set_option maxRecDepth 20000 in
theorem ggJ7_copyOf_1904c_J7_copyOf_6403c : GoodIn wsJ7_copyOf_1904c wsJ7_copyOf_6403c := goodIn_r _ [8, 9, 10, 11, 12, 13, 14, 15, 16, 17, 18] (by decide +kernel) (by decide +kernel)
set_option maxRecDepth 20000 in
theorem gJ7_copyOf_1904c_J7_copyOf_6403c : GoodIn wsJ7_copyOf_1904c (va_wsS RJ7 300 yJ7_copyOf_6403c wsJ7_copyOf_6403c) := goodIn_app (goodIn_of _ (by decide +kernel)) ggJ7_copyOf_1904c_J7_copyOf_6403c
theorem dJ7_copyOf_1904c_0 : decode cJ7_copyOf_1904c 0 = .ok (.aload_n 0, 1) := by decide +kernel
theorem dJ7_copyOf_1904c_1 : decode cJ7_copyOf_1904c 1 = .ok (.iload_n 1, 1) := by decide +kernel
theorem dJ7_copyOf_1904c_2 : decode cJ7_copyOf_1904c 2 = .ok (.aload_n 0, 1) := by decide +kernel
theorem dJ7_copyOf_1904c_3 : decode cJ7_copyOf_1904c 3 = .ok (.invokevirtual 86, 3) := by decide +kernel
theorem dJ7_copyOf_1904c_6 : decode cJ7_copyOf_1904c 6 = .ok (.invokestatic 300, 3) := by decide +kernel
theorem dJ7_copyOf_1904c_9 : decode cJ7_copyOf_1904c 9 = .ok (.areturn, 1) := by decide +kernel
theorem dJ7_copyOf_6403c_0 : decode cJ7_copyOf_6403c 0 = .ok (.aload_n 2, 1) := by decide +kernel
theorem dJ7_copyOf_6403c_1 : decode cJ7_copyOf_6403c 1 = .ok (.ldc 110, 2) := by decide +kernel
theorem dJ7_copyOf_6403c_3 : decode cJ7_copyOf_6403c 3 = .ok (.if_acmp .ne 10, 3) := by decide +kernel
theorem dJ7_copyOf_6403c_6 : decode cJ7_copyOf_6403c 6 = .ok (.iload_n 1, 1) := by decide +kernel
theorem dJ7_copyOf_6403c_7 : decode cJ7_copyOf_6403c 7 = .ok (.anewarray 2, 3) := by decide +kernel
theorem dJ7_copyOf_6403c_10 : decode cJ7_copyOf_6403c 10 = .ok (.goto 14, 3) := by decide +kernel
theorem dJ7_copyOf_6403c_13 : decode cJ7_copyOf_6403c 13 = .ok (.aload_n 2, 1) := by decide +kernel
theorem dJ7_copyOf_6403c_14 : decode cJ7_copyOf_6403c 14 = .ok (.invokevirtual 90, 3) := by decide +kernel
theorem dJ7_copyOf_6403c_17 : decode cJ7_copyOf_6403c 17 = .ok (.iload_n 1, 1) := by decide +kernel
theorem dJ7_copyOf_6403c_18 : decode cJ7_copyOf_6403c 18 = .ok (.invokestatic 95, 3) := by decide +kernel
theorem dJ7_copyOf_6403c_21 : decode cJ7_copyOf_6403c 21 = .ok (.checkcast 110, 3) := by decide +kernel
theorem dJ7_copyOf_6403c_24 : decode cJ7_copyOf_6403c 24 = .ok (.astore_n 3, 1) := by decide +kernel
theorem dJ7_copyOf_6403c_25 : decode cJ7_copyOf_6403c 25 = .ok (.aload_n 0, 1) := by decide +kernel
theorem dJ7_copyOf_6403c_26 : decode cJ7_copyOf_6403c 26 = .ok (.iconst 0, 1) := by decide +kernel
theorem dJ7_copyOf_6403c_27 : decode cJ7_copyOf_6403c 27 = .ok (.aload_n 3, 1) := by decide +kernel
theorem dJ7_copyOf_6403c_28 : decode cJ7_copyOf_6403c 28 = .ok (.iconst 0, 1) := by decide +kernel
theorem dJ7_copyOf_6403c_29 : decode cJ7_copyOf_6403c 29 = .ok (.aload_n 0, 1) := by decide +kernel
theorem dJ7_copyOf_6403c_30 : decode cJ7_copyOf_6403c 30 = .ok (.arraylength, 1) := by decide +kernel
theorem dJ7_copyOf_6403c_31 : decode cJ7_copyOf_6403c 31 = .ok (.iload_n 1, 1) := by decide +kernel
theorem dJ7_copyOf_6403c_32 : decode cJ7_copyOf_6403c 32 = .ok (.invokestatic 304, 3) := by decide +kernel
theorem dJ7_copyOf_6403c_35 : decode cJ7_copyOf_6403c 35 = .ok (.invokestatic 150, 3) := by decide +kernel
theorem dJ7_copyOf_6403c_38 : decode cJ7_copyOf_6403c 38 = .ok (.aload_n 3, 1) := by decide +kernel
theorem dJ7_copyOf_6403c_39 : decode cJ7_copyOf_6403c 39 = .ok (.areturn, 1) := by decide +kernel
set_option maxRecDepth 20000 in
theorem ggJ15_checkIndex_7cf53_J3_checkIndex_8e157 : GoodIn wsJ15_checkIndex_7cf53 wsJ3_checkIndex_8e157 := goodIn_r _ [4] (by decide +kernel) (by decide +kernel)
set_option maxRecDepth 20000 in
theorem gJ15_checkIndex_7cf53_J3_checkIndex_8e157 : GoodIn wsJ15_checkIndex_7cf53 (va_wsS RJ15 105 yJ3_checkIndex_8e157 wsJ3_checkIndex_8e157) := goodIn_app (goodIn_of _ (by decide +kernel)) ggJ15_checkIndex_7cf53_J3_checkIndex_8e157
theorem dJ15_checkIndex_7cf53_0 : decode cJ15_checkIndex_7cf53 0 = .ok (.iload_n 0, 1) := by decide +kernel
theorem dJ15_checkIndex_7cf53_1 : decode cJ15_checkIndex_7cf53 1 = .ok (.iload_n 1, 1) := by decide +kernel
theorem dJ15_checkIndex_7cf53_2 : decode cJ15_checkIndex_7cf53 2 = .ok (.aconst_null, 1) := by decide +kernel
theorem dJ15_checkIndex_7cf53_3 : decode cJ15_checkIndex_7cf53 3 = .ok (.invokestatic 105, 3) := by decide +kernel
theorem dJ15_checkIndex_7cf53_6 : decode cJ15_checkIndex_7cf53 6 = .ok (.ireturn, 1) := by decide +kernel
set_option maxRecDepth 20000 in
theorem ggJ8_newLength_cabcc_J8_hugeLength_7cf53 : GoodIn wsJ8_newLength_cabcc wsJ8_hugeLength_7cf53 := goodIn_r _ [9, 5] (by decide +kernel) (by decide +kernel)
set_option maxRecDepth 20000 in
theorem gJ8_newLength_cabcc_J8_hugeLength_7cf53 : GoodIn wsJ8_newLength_cabcc (va_wsS RJ8 201 yJ8_hugeLength_7cf53 wsJ8_hugeLength_7cf53) := goodIn_app (goodIn_of _ (by decide +kernel)) ggJ8_newLength_cabcc_J8_hugeLength_7cf53
theorem dJ8_newLength_cabcc_0 : decode cJ8_newLength_cabcc 0 = .ok (.iload_n 0, 1) := by decide +kernel
theorem dJ8_newLength_cabcc_1 : decode cJ8_newLength_cabcc 1 = .ok (.iload_n 1, 1) := by decide +kernel
theorem dJ8_newLength_cabcc_2 : decode cJ8_newLength_cabcc 2 = .ok (.iload_n 2, 1) := by decide +kernel
theorem dJ8_newLength_cabcc_3 : decode cJ8_newLength_cabcc 3 = .ok (.invokestatic 194, 3) := by decide +kernel
theorem dJ8_newLength_cabcc_6 : decode cJ8_newLength_cabcc 6 = .ok (.iadd, 1) := by decide +kernel
theorem dJ8_newLength_cabcc_7 : decode cJ8_newLength_cabcc 7 = .ok (.istore_n 3, 1) := by decide +kernel
theorem dJ8_newLength_cabcc_8 : decode cJ8_newLength_cabcc 8 = .ok (.iconst 0, 1) := by decide +kernel
theorem dJ8_newLength_cabcc_9 : decode cJ8_newLength_cabcc 9 = .ok (.iload_n 3, 1) := by decide +kernel
theorem dJ8_newLength_cabcc_10 : decode cJ8_newLength_cabcc 10 = .ok (.if_icmp .ge 11, 3) := by decide +kernel
theorem dJ8_newLength_cabcc_13 : decode cJ8_newLength_cabcc 13 = .ok (.iload_n 3, 1) := by decide +kernel
theorem dJ8_newLength_cabcc_14 : decode cJ8_newLength_cabcc 14 = .ok (.ldc 200, 2) := by decide +kernel
theorem dJ8_newLength_cabcc_16 : decode cJ8_newLength_cabcc 16 = .ok (.if_icmp .gt 5, 3) := by decide +kernel
theorem dJ8_newLength_cabcc_19 : decode cJ8_newLength_cabcc 19 = .ok (.iload_n 3, 1) := by decide +kernel
theorem dJ8_newLength_cabcc_20 : decode cJ8_newLength_cabcc 20 = .ok (.ireturn, 1) := by decide +kernel
theorem dJ8_newLength_cabcc_21 : decode cJ8_newLength_cabcc 21 = .ok (.iload_n 0, 1) := by decide +kernel
theorem dJ8_newLength_cabcc_22 : decode cJ8_newLength_cabcc 22 = .ok (.iload_n 1, 1) := by decide +kernel
theorem dJ8_newLength_cabcc_23 : decode cJ8_newLength_cabcc 23 = .ok (.invokestatic 201, 3) := by decide +kernel
theorem dJ8_newLength_cabcc_26 : decode cJ8_newLength_cabcc 26 = .ok (.ireturn, 1) := by decide +kernel
theorem dJ8_hugeLength_7cf53_0 : decode cJ8_hugeLength_7cf53 0 = .ok (.iload_n 0, 1) := by decide +kernel
theorem dJ8_hugeLength_7cf53_1 : decode cJ8_hugeLength_7cf53 1 = .ok (.iload_n 1, 1) := by decide +kernel
theorem dJ8_hugeLength_7cf53_2 : decode cJ8_hugeLength_7cf53 2 = .ok (.iadd, 1) := by decide +kernel
theorem dJ8_hugeLength_7cf53_3 : decode cJ8_hugeLength_7cf53 3 = .ok (.istore_n 2, 1) := by decide +kernel
theorem dJ8_hugeLength_7cf53_4 : decode cJ8_hugeLength_7cf53 4 = .ok (.iload_n 2, 1) := by decide +kernel
theorem dJ8_hugeLength_7cf53_5 : decode cJ8_hugeLength_7cf53 5 = .ok (.ifCond .ge 44, 3) := by decide +kernel
theorem dJ8_hugeLength_7cf53_8 : decode cJ8_hugeLength_7cf53 8 = .ok (.new 204, 3) := by decide +kernel
theorem dJ8_hugeLength_7cf53_11 : decode cJ8_hugeLength_7cf53 11 = .ok (.dup, 1) := by decide +kernel
theorem dJ8_hugeLength_7cf53_12 : decode cJ8_hugeLength_7cf53 12 = .ok (.new 89, 3) := by decide +kernel
theorem dJ8_hugeLength_7cf53_15 : decode cJ8_hugeLength_7cf53 15 = .ok (.dup, 1) := by decide +kernel
theorem dJ8_hugeLength_7cf53_16 : decode cJ8_hugeLength_7cf53 16 = .ok (.invokespecial 91, 3) := by decide +kernel
theorem dJ8_hugeLength_7cf53_19 : decode cJ8_hugeLength_7cf53 19 = .ok (.ldc 206, 2) := by decide +kernel
theorem dJ8_hugeLength_7cf53_21 : decode cJ8_hugeLength_7cf53 21 = .ok (.invokevirtual 94, 3) := by decide +kernel
theorem dJ8_hugeLength_7cf53_24 : decode cJ8_hugeLength_7cf53 24 = .ok (.iload_n 0, 1) := by decide +kernel
theorem dJ8_hugeLength_7cf53_25 : decode cJ8_hugeLength_7cf53 25 = .ok (.invokevirtual 98, 3) := by decide +kernel
theorem dJ8_hugeLength_7cf53_28 : decode cJ8_hugeLength_7cf53 28 = .ok (.ldc 208, 2) := by decide +kernel
theorem dJ8_hugeLength_7cf53_30 : decode cJ8_hugeLength_7cf53 30 = .ok (.invokevirtual 94, 3) := by decide +kernel
theorem dJ8_hugeLength_7cf53_33 : decode cJ8_hugeLength_7cf53 33 = .ok (.iload_n 1, 1) := by decide +kernel
theorem dJ8_hugeLength_7cf53_34 : decode cJ8_hugeLength_7cf53 34 = .ok (.invokevirtual 98, 3) := by decide +kernel
theorem dJ8_hugeLength_7cf53_37 : decode cJ8_hugeLength_7cf53 37 = .ok (.ldc 210, 2) := by decide +kernel
theorem dJ8_hugeLength_7cf53_39 : decode cJ8_hugeLength_7cf53 39 = .ok (.invokevirtual 94, 3) := by decide +kernel
theorem dJ8_hugeLength_7cf53_42 : decode cJ8_hugeLength_7cf53 42 = .ok (.invokevirtual 101, 3) := by decide +kernel
theorem dJ8_hugeLength_7cf53_45 : decode cJ8_hugeLength_7cf53 45 = .ok (.invokespecial 212, 3) := by decide +kernel
theorem dJ8_hugeLength_7cf53_48 : decode cJ8_hugeLength_7cf53 48 = .ok (.athrow, 1) := by decide +kernel
theorem dJ8_hugeLength_7cf53_49 : decode cJ8_hugeLength_7cf53 49 = .ok (.iload_n 2, 1) := by decide +kernel
theorem dJ8_hugeLength_7cf53_50 : decode cJ8_hugeLength_7cf53 50 = .ok (.ldc 200, 2) := by decide +kernel
theorem dJ8_hugeLength_7cf53_52 : decode cJ8_hugeLength_7cf53 52 = .ok (.if_icmp .gt 6, 3) := by decide +kernel
theorem dJ8_hugeLength_7cf53_55 : decode cJ8_hugeLength_7cf53 55 = .ok (.ldc 200, 2) := by decide +kernel
theorem dJ8_hugeLength_7cf53_57 : decode cJ8_hugeLength_7cf53 57 = .ok (.ireturn, 1) := by decide +kernel
theorem dJ8_hugeLength_7cf53_58 : decode cJ8_hugeLength_7cf53 58 = .ok (.iload_n 2, 1) := by decide +kernel
theorem dJ8_hugeLength_7cf53_59 : decode cJ8_hugeLength_7cf53 59 = .ok (.ireturn, 1) := by decide +kernel
theorem dJ3_checkIndex_8e157_0 : decode cJ3_checkIndex_8e157 0 = .ok (.iload_n 0, 1) := by decide +kernel
theorem dJ3_checkIndex_8e157_1 : decode cJ3_checkIndex_8e157 1 = .ok (.ifCond .lt 8, 3) := by decide +kernel
theorem dJ3_checkIndex_8e157_4 : decode cJ3_checkIndex_8e157 4 = .ok (.iload_n 0, 1) := by decide +kernel
theorem dJ3_checkIndex_8e157_5 : decode cJ3_checkIndex_8e157 5 = .ok (.iload_n 1, 1) := by decide +kernel
theorem dJ3_checkIndex_8e157_6 : decode cJ3_checkIndex_8e157 6 = .ok (.if_icmp .lt 10, 3) := by decide +kernel
theorem dJ3_checkIndex_8e157_9 : decode cJ3_checkIndex_8e157 9 = .ok (.aload_n 2, 1) := by decide +kernel
theorem dJ3_checkIndex_8e157_10 : decode cJ3_checkIndex_8e157 10 = .ok (.iload_n 0, 1) := by decide +kernel
theorem dJ3_checkIndex_8e157_11 : decode cJ3_checkIndex_8e157 11 = .ok (.iload_n 1, 1) := by decide +kernel
theorem dJ3_checkIndex_8e157_12 : decode cJ3_checkIndex_8e157 12 = .ok (.invokestatic 95, 3) := by decide +kernel
theorem dJ3_checkIndex_8e157_15 : decode cJ3_checkIndex_8e157 15 = .ok (.athrow, 1) := by decide +kernel
theorem dJ3_checkIndex_8e157_16 : decode cJ3_checkIndex_8e157 16 = .ok (.iload_n 0, 1) := by decide +kernel
theorem dJ3_checkIndex_8e157_17 : decode cJ3_checkIndex_8e157 17 = .ok (.ireturn, 1) := by decide +kernel
theorem dL_cell_0 : decode cL_cell 0 = .ok (.iload_n 1, 1) := by decide +kernel
theorem dL_cell_1 : decode cL_cell 1 = .ok (.aload_n 0, 1) := by decide +kernel
theorem dL_cell_2 : decode cL_cell 2 = .ok (.arraylength, 1) := by decide +kernel
theorem dL_cell_3 : decode cL_cell 3 = .ok (.if_icmp .ge 9, 3) := by decide +kernel
theorem dL_cell_6 : decode cL_cell 6 = .ok (.aload_n 0, 1) := by decide +kernel
theorem dL_cell_7 : decode cL_cell 7 = .ok (.iload_n 1, 1) := by decide +kernel
theorem dL_cell_8 : decode cL_cell 8 = .ok (.iaload, 1) := by decide +kernel
theorem dL_cell_9 : decode cL_cell 9 = .ok (.goto 15, 3) := by decide +kernel
theorem dL_cell_12 : decode cL_cell 12 = .ok (.ldc 7, 2) := by decide +kernel
theorem dL_cell_14 : decode cL_cell 14 = .ok (.iload_n 1, 1) := by decide +kernel
theorem dL_cell_15 : decode cL_cell 15 = .ok (.sipush 6971, 3) := by decide +kernel
theorem dL_cell_18 : decode cL_cell 18 = .ok (.irem, 1) := by decide +kernel
theorem dL_cell_19 : decode cL_cell 19 = .ok (.imul, 1) := by decide +kernel
theorem dL_cell_20 : decode cL_cell 20 = .ok (.sipush 3319, 3) := by decide +kernel
theorem dL_cell_23 : decode cL_cell 23 = .ok (.iadd, 1) := by decide +kernel
theorem dL_cell_24 : decode cL_cell 24 = .ok (.ldc 8, 2) := by decide +kernel
theorem dL_cell_26 : decode cL_cell 26 = .ok (.iand, 1) := by decide +kernel
theorem dL_cell_27 : decode cL_cell 27 = .ok (.ireturn, 1) := by decide +kernel
set_option maxRecDepth 20000 in
theorem ggL_setPavilion_X2_setPavilion : GoodIn wsL_setPavilion wsX2_setPavilion := goodIn_ca (goodIn_ca (goodIn_r _ [7, 8, 9, 10, 11, 12, 6, 13, 14, 15, 16, 17, 18, 19, 20, 21, 22, 23, 24, 25] (by decide +kernel) (by decide +kernel)) (goodIn_sub (fun _ h => List.mem_cons_of_mem _ (List.mem_append_left _ (List.mem_append_right _ h))) (by decide +kernel))) (goodIn_sub (fun _ h => List.mem_cons_of_mem _ (List.mem_append_right _ h)) (by decide +kernel))
set_option maxRecDepth 20000 in
theorem gL_setPavilion_X2_setPavilion : GoodIn wsL_setPavilion (wsV RL 9 RX2 yX2_setPavilion wsX2_setPavilion) := goodIn_app (goodIn_of _ (by decide +kernel)) ggL_setPavilion_X2_setPavilion
theorem dL_setPavilion_0 : decode cL_setPavilion 0 = .ok (.aload_n 0, 1) := by decide +kernel
theorem dL_setPavilion_1 : decode cL_setPavilion 1 = .ok (.iload_n 1, 1) := by decide +kernel
theorem dL_setPavilion_2 : decode cL_setPavilion 2 = .ok (.iload_n 2, 1) := by decide +kernel
theorem dL_setPavilion_3 : decode cL_setPavilion 3 = .ok (.iload_n 3, 1) := by decide +kernel
theorem dL_setPavilion_4 : decode cL_setPavilion 4 = .ok (.invokevirtual 9, 3) := by decide +kernel
theorem dL_setPavilion_7 : decode cL_setPavilion 7 = .ok (.goto 13, 3) := by decide +kernel
theorem dL_setPavilion_10 : decode cL_setPavilion 10 = .ok (.astore 4, 2) := by decide +kernel
theorem dL_setPavilion_12 : decode cL_setPavilion 12 = .ok (.bipush (-101), 2) := by decide +kernel
theorem dL_setPavilion_14 : decode cL_setPavilion 14 = .ok (.ireturn, 1) := by decide +kernel
theorem dL_setPavilion_15 : decode cL_setPavilion 15 = .ok (.astore 4, 2) := by decide +kernel
theorem dL_setPavilion_17 : decode cL_setPavilion 17 = .ok (.bipush (-102), 2) := by decide +kernel
theorem dL_setPavilion_19 : decode cL_setPavilion 19 = .ok (.ireturn, 1) := by decide +kernel
theorem dL_setPavilion_20 : decode cL_setPavilion 20 = .ok (.iconst 0, 1) := by decide +kernel
theorem dL_setPavilion_21 : decode cL_setPavilion 21 = .ok (.ireturn, 1) := by decide +kernel
set_option maxRecDepth 20000 in
theorem ggL_open_X2_open : GoodIn wsL_open wsX2_open := goodIn_ca (goodIn_r _ [6, 7, 8, 9, 5, 10, 11, 12, 13, 14, 15, 16, 17, 18, 19, 20, 21, 22, 23, 24, 25, 26, 27, 28, 29, 30, 31, 32, 33, 34, 35, 36, 37, 38, 39, 40, 41, 42, 43, 44, 45, 46, 47, 48, 49, 50, 51, 52, 53] (by decide +kernel) (by decide +kernel)) (goodIn_sub (fun _ h => List.mem_cons_of_mem _ (List.mem_append_right _ h)) (by decide +kernel))
set_option maxRecDepth 20000 in
theorem gL_open_X2_open : GoodIn wsL_open (wsV RL 19 RX2 yX2_open wsX2_open) := goodIn_app (goodIn_of _ (by decide +kernel)) ggL_open_X2_open
theorem dL_open_0 : decode cL_open 0 = .ok (.aload_n 0, 1) := by decide +kernel
theorem dL_open_1 : decode cL_open 1 = .ok (.iload_n 1, 1) := by decide +kernel
theorem dL_open_2 : decode cL_open 2 = .ok (.iload_n 2, 1) := by decide +kernel
theorem dL_open_3 : decode cL_open 3 = .ok (.invokevirtual 19, 3) := by decide +kernel
theorem dL_open_6 : decode cL_open 6 = .ok (.ireturn, 1) := by decide +kernel
theorem dL_open_7 : decode cL_open 7 = .ok (.astore_n 3, 1) := by decide +kernel
theorem dL_open_8 : decode cL_open 8 = .ok (.bipush (-101), 2) := by decide +kernel
theorem dL_open_10 : decode cL_open 10 = .ok (.ireturn, 1) := by decide +kernel
set_option maxRecDepth 20000 in
theorem ggL_plan_X2_plan : GoodIn wsL_plan wsX2_plan := goodIn_ca (goodIn_ca (goodIn_r _ [7, 8, 9, 10, 11, 12, 6, 13, 14, 15, 16, 17, 18, 19, 20, 21, 22, 23, 24, 25, 26, 27, 28, 29, 30, 31, 32, 33, 34, 35, 36, 37, 38, 39, 40, 41, 42, 43, 44, 45, 46, 47, 48, 49, 50, 51, 52, 53, 54, 55, 56, 57, 58, 59, 60, 61, 62, 63, 64, 65, 66, 67, 68, 69, 70, 71, 72, 73, 74, 75, 76, 77, 78, 79, 80, 81, 82, 83, 84, 85, 86, 87, 88, 89, 90, 91, 92, 93, 94, 95, 96, 97, 98, 99, 100, 101, 102, 103, 104, 105, 106, 107, 108, 109, 110, 111, 112, 113, 114, 115, 116, 117] (by decide +kernel) (by decide +kernel)) (goodIn_sub (fun _ h => List.mem_cons_of_mem _ (List.mem_append_left _ (List.mem_append_right _ h))) (by decide +kernel))) (goodIn_sub (fun _ h => List.mem_cons_of_mem _ (List.mem_append_right _ h)) (by decide +kernel))
set_option maxRecDepth 20000 in
theorem gL_plan_X2_plan : GoodIn wsL_plan (wsV RL 23 RX2 yX2_plan wsX2_plan) := goodIn_app (goodIn_of _ (by decide +kernel)) ggL_plan_X2_plan
theorem dL_plan_0 : decode cL_plan 0 = .ok (.aload_n 0, 1) := by decide +kernel
theorem dL_plan_1 : decode cL_plan 1 = .ok (.iload_n 1, 1) := by decide +kernel
theorem dL_plan_2 : decode cL_plan 2 = .ok (.iload_n 2, 1) := by decide +kernel
theorem dL_plan_3 : decode cL_plan 3 = .ok (.invokevirtual 23, 3) := by decide +kernel
theorem dL_plan_6 : decode cL_plan 6 = .ok (.ireturn, 1) := by decide +kernel
theorem dL_plan_7 : decode cL_plan 7 = .ok (.astore_n 3, 1) := by decide +kernel
theorem dL_plan_8 : decode cL_plan 8 = .ok (.bipush (-101), 2) := by decide +kernel
theorem dL_plan_10 : decode cL_plan 10 = .ok (.ireturn, 1) := by decide +kernel
theorem dL_plan_11 : decode cL_plan 11 = .ok (.astore_n 3, 1) := by decide +kernel
theorem dL_plan_12 : decode cL_plan 12 = .ok (.bipush (-103), 2) := by decide +kernel
theorem dL_plan_14 : decode cL_plan 14 = .ok (.ireturn, 1) := by decide +kernel
set_option maxRecDepth 20000 in
theorem ggL_drop_X2_drop : GoodIn wsL_drop wsX2_drop := goodIn_ca (goodIn_ca (goodIn_r _ [7, 8, 9, 10, 11, 12, 6, 13, 14, 15, 16, 17, 18, 19, 20, 21, 22, 23, 24, 25, 26, 27, 28, 29, 30, 31, 32, 33, 34, 35, 36, 37, 38, 39, 40, 41, 42, 43, 44, 45, 46, 47, 48, 49, 50, 51, 52, 53, 54, 55, 56, 57, 58, 59, 60, 61, 62, 63, 64, 65, 66, 67, 68, 69, 70, 71, 72, 73, 74, 75, 76, 77, 78, 79, 80, 81, 82, 83, 84, 85, 86, 87, 88, 89, 90, 91, 92, 93, 94, 95, 96, 97, 98, 99, 100] (by decide +kernel) (by decide +kernel)) (goodIn_sub (fun _ h => List.mem_cons_of_mem _ (List.mem_append_left _ (List.mem_append_right _ h))) (by decide +kernel))) (goodIn_sub (fun _ h => List.mem_cons_of_mem _ (List.mem_append_right _ h)) (by decide +kernel))
set_option maxRecDepth 20000 in
theorem gL_drop_X2_drop : GoodIn wsL_drop (wsV RL 29 RX2 yX2_drop wsX2_drop) := goodIn_app (goodIn_of _ (by decide +kernel)) ggL_drop_X2_drop
theorem dL_drop_0 : decode cL_drop 0 = .ok (.aload_n 0, 1) := by decide +kernel
theorem dL_drop_1 : decode cL_drop 1 = .ok (.iload_n 1, 1) := by decide +kernel
theorem dL_drop_2 : decode cL_drop 2 = .ok (.iload_n 2, 1) := by decide +kernel
theorem dL_drop_3 : decode cL_drop 3 = .ok (.invokevirtual 29, 3) := by decide +kernel
theorem dL_drop_6 : decode cL_drop 6 = .ok (.ireturn, 1) := by decide +kernel
theorem dL_drop_7 : decode cL_drop 7 = .ok (.astore_n 3, 1) := by decide +kernel
theorem dL_drop_8 : decode cL_drop 8 = .ok (.bipush (-101), 2) := by decide +kernel
theorem dL_drop_10 : decode cL_drop 10 = .ok (.ireturn, 1) := by decide +kernel
theorem dL_drop_11 : decode cL_drop 11 = .ok (.astore_n 3, 1) := by decide +kernel
theorem dL_drop_12 : decode cL_drop 12 = .ok (.bipush (-103), 2) := by decide +kernel
theorem dL_drop_14 : decode cL_drop 14 = .ok (.ireturn, 1) := by decide +kernel
set_option maxRecDepth 20000 in
theorem ggL_ask_X2_ask : GoodIn wsL_ask wsX2_ask := goodIn_ca (goodIn_ca (goodIn_r _ [7, 8, 9, 10, 11, 12, 6, 13, 14, 15, 16, 17, 18, 19, 20, 21, 22, 23, 24, 25, 26, 27, 28, 29, 30, 31, 32, 33, 34, 35, 36, 37, 38, 39, 40, 41, 42, 43, 44, 45, 46, 47, 48, 49] (by decide +kernel) (by decide +kernel)) (goodIn_sub (fun _ h => List.mem_cons_of_mem _ (List.mem_append_left _ (List.mem_append_right _ h))) (by decide +kernel))) (goodIn_sub (fun _ h => List.mem_cons_of_mem _ (List.mem_append_right _ h)) (by decide +kernel))
set_option maxRecDepth 20000 in
theorem gL_ask_X2_ask : GoodIn wsL_ask (wsV RL 32 RX2 yX2_ask wsX2_ask) := goodIn_app (goodIn_of _ (by decide +kernel)) ggL_ask_X2_ask
theorem dL_ask_0 : decode cL_ask 0 = .ok (.aload_n 0, 1) := by decide +kernel
theorem dL_ask_1 : decode cL_ask 1 = .ok (.iload_n 1, 1) := by decide +kernel
theorem dL_ask_2 : decode cL_ask 2 = .ok (.iload_n 2, 1) := by decide +kernel
theorem dL_ask_3 : decode cL_ask 3 = .ok (.invokevirtual 32, 3) := by decide +kernel
theorem dL_ask_6 : decode cL_ask 6 = .ok (.ireturn, 1) := by decide +kernel
theorem dL_ask_7 : decode cL_ask 7 = .ok (.astore_n 3, 1) := by decide +kernel
theorem dL_ask_8 : decode cL_ask 8 = .ok (.bipush (-101), 2) := by decide +kernel
theorem dL_ask_10 : decode cL_ask 10 = .ok (.ireturn, 1) := by decide +kernel
theorem dL_ask_11 : decode cL_ask 11 = .ok (.astore_n 3, 1) := by decide +kernel
theorem dL_ask_12 : decode cL_ask 12 = .ok (.bipush (-103), 2) := by decide +kernel
theorem dL_ask_14 : decode cL_ask 14 = .ok (.ireturn, 1) := by decide +kernel
set_option maxRecDepth 20000 in
theorem ggL_advance_X2_advance : GoodIn wsL_advance wsX2_advance := goodIn_ca (goodIn_ca (goodIn_r _ [7, 8, 9, 10, 11, 12, 13, 14, 15, 6, 16, 17, 18, 19, 20, 21, 22, 23, 24, 25, 26, 27, 28, 29, 30, 31, 32, 33, 34, 35, 36, 37, 38, 39, 40, 41, 42, 43, 44, 45, 46, 47, 48, 49, 50, 51, 52, 53, 54, 55, 56, 57, 58, 59, 60, 61, 62, 63, 64, 65, 66, 67, 68, 69, 70, 71, 72, 73, 74, 75, 76, 77, 78, 79, 80, 81, 82, 83, 84, 85, 86, 87, 88, 89, 90, 91, 92, 93, 94, 95, 96, 97, 98, 99, 100, 101, 102, 103, 104, 105, 106, 107, 108, 109, 110, 111, 112, 113, 114, 115, 116, 117, 118, 119, 120, 121, 122, 123, 124, 125, 126, 127, 128, 129, 130, 131, 132] (by decide +kernel) (by decide +kernel)) (goodIn_sub (fun _ h => List.mem_cons_of_mem _ (List.mem_append_left _ (List.mem_append_right _ h))) (by decide +kernel))) (goodIn_sub (fun _ h => List.mem_cons_of_mem _ (List.mem_append_right _ h)) (by decide +kernel))
set_option maxRecDepth 20000 in
theorem gL_advance_X2_advance : GoodIn wsL_advance (wsV RL 35 RX2 yX2_advance wsX2_advance) := goodIn_app (goodIn_of _ (by decide +kernel)) ggL_advance_X2_advance
theorem dL_advance_0 : decode cL_advance 0 = .ok (.aload_n 0, 1) := by decide +kernel
theorem dL_advance_1 : decode cL_advance 1 = .ok (.iload_n 1, 1) := by decide +kernel
theorem dL_advance_2 : decode cL_advance 2 = .ok (.invokevirtual 35, 3) := by decide +kernel
theorem dL_advance_5 : decode cL_advance 5 = .ok (.ireturn, 1) := by decide +kernel
theorem dL_advance_6 : decode cL_advance 6 = .ok (.astore_n 2, 1) := by decide +kernel
theorem dL_advance_7 : decode cL_advance 7 = .ok (.bipush (-102), 2) := by decide +kernel
theorem dL_advance_9 : decode cL_advance 9 = .ok (.ireturn, 1) := by decide +kernel
theorem dL_advance_10 : decode cL_advance 10 = .ok (.astore_n 2, 1) := by decide +kernel
theorem dL_advance_11 : decode cL_advance 11 = .ok (.bipush (-103), 2) := by decide +kernel
theorem dL_advance_13 : decode cL_advance 13 = .ok (.ireturn, 1) := by decide +kernel
set_option maxRecDepth 20000 in
theorem ggL_send_X2_send : GoodIn wsL_send wsX2_send := goodIn_ca (goodIn_ca (goodIn_r _ [7, 8, 9, 10, 11, 12, 6, 13, 14, 15, 16, 17, 18, 19, 20, 21, 22, 23, 24, 25, 26, 27, 28, 29, 30, 31, 32, 33, 34, 35, 36, 37, 38, 39, 40, 41, 42, 43, 44] (by decide +kernel) (by decide +kernel)) (goodIn_sub (fun _ h => List.mem_cons_of_mem _ (List.mem_append_left _ (List.mem_append_right _ h))) (by decide +kernel))) (goodIn_sub (fun _ h => List.mem_cons_of_mem _ (List.mem_append_right _ h)) (by decide +kernel))
set_option maxRecDepth 20000 in
theorem gL_send_X2_send : GoodIn wsL_send (wsV RL 39 RX2 yX2_send wsX2_send) := goodIn_app (goodIn_of _ (by decide +kernel)) ggL_send_X2_send
theorem dL_send_0 : decode cL_send 0 = .ok (.aload_n 0, 1) := by decide +kernel
theorem dL_send_1 : decode cL_send 1 = .ok (.iload_n 1, 1) := by decide +kernel
theorem dL_send_2 : decode cL_send 2 = .ok (.iload_n 2, 1) := by decide +kernel
theorem dL_send_3 : decode cL_send 3 = .ok (.invokevirtual 39, 3) := by decide +kernel
theorem dL_send_6 : decode cL_send 6 = .ok (.ifCond .eq 7, 3) := by decide +kernel
theorem dL_send_9 : decode cL_send 9 = .ok (.iconst 1, 1) := by decide +kernel
theorem dL_send_10 : decode cL_send 10 = .ok (.goto 4, 3) := by decide +kernel
theorem dL_send_13 : decode cL_send 13 = .ok (.iconst 0, 1) := by decide +kernel
theorem dL_send_14 : decode cL_send 14 = .ok (.ireturn, 1) := by decide +kernel
theorem dL_send_15 : decode cL_send 15 = .ok (.astore_n 3, 1) := by decide +kernel
theorem dL_send_16 : decode cL_send 16 = .ok (.bipush (-101), 2) := by decide +kernel
theorem dL_send_18 : decode cL_send 18 = .ok (.ireturn, 1) := by decide +kernel
theorem dL_send_19 : decode cL_send 19 = .ok (.astore_n 3, 1) := by decide +kernel
theorem dL_send_20 : decode cL_send 20 = .ok (.bipush (-103), 2) := by decide +kernel
theorem dL_send_22 : decode cL_send 22 = .ok (.ireturn, 1) := by decide +kernel
set_option maxRecDepth 20000 in
theorem ggL_reprint_X2_reprint : GoodIn wsL_reprint wsX2_reprint := goodIn_ca (goodIn_r _ [6, 7, 8, 9, 10, 11, 12, 13, 14, 15, 16, 17, 18] (by decide +kernel) (by decide +kernel)) (goodIn_sub (fun _ h => List.mem_cons_of_mem _ (List.mem_append_right _ h)) (by decide +kernel))
set_option maxRecDepth 20000 in
theorem gL_reprint_X2_reprint : GoodIn wsL_reprint (wsV RL 43 RX2 yX2_reprint wsX2_reprint) := goodIn_app (goodIn_of _ (by decide +kernel)) ggL_reprint_X2_reprint
theorem dL_reprint_0 : decode cL_reprint 0 = .ok (.aload_n 0, 1) := by decide +kernel
theorem dL_reprint_1 : decode cL_reprint 1 = .ok (.iload_n 1, 1) := by decide +kernel
theorem dL_reprint_2 : decode cL_reprint 2 = .ok (.invokevirtual 43, 3) := by decide +kernel
theorem dL_reprint_5 : decode cL_reprint 5 = .ok (.ireturn, 1) := by decide +kernel
theorem dL_reprint_6 : decode cL_reprint 6 = .ok (.astore_n 2, 1) := by decide +kernel
theorem dL_reprint_7 : decode cL_reprint 7 = .ok (.bipush (-102), 2) := by decide +kernel
theorem dL_reprint_9 : decode cL_reprint 9 = .ok (.ireturn, 1) := by decide +kernel
set_option maxRecDepth 20000 in
theorem ggL_state_X2_stateOf : GoodIn wsL_state wsX2_stateOf := goodIn_ca (goodIn_r _ [6, 7, 8, 9, 5, 10, 11, 12, 13, 14, 15, 16, 17, 18, 19, 20, 21, 22, 23, 24, 25, 26] (by decide +kernel) (by decide +kernel)) (goodIn_sub (fun _ h => List.mem_cons_of_mem _ (List.mem_append_right _ h)) (by decide +kernel))
set_option maxRecDepth 20000 in
theorem gL_state_X2_stateOf : GoodIn wsL_state (wsV RL 46 RX2 yX2_stateOf wsX2_stateOf) := goodIn_app (goodIn_of _ (by decide +kernel)) ggL_state_X2_stateOf
theorem dL_state_0 : decode cL_state 0 = .ok (.aload_n 0, 1) := by decide +kernel
theorem dL_state_1 : decode cL_state 1 = .ok (.iload_n 1, 1) := by decide +kernel
theorem dL_state_2 : decode cL_state 2 = .ok (.invokevirtual 46, 3) := by decide +kernel
theorem dL_state_5 : decode cL_state 5 = .ok (.ireturn, 1) := by decide +kernel
theorem dL_state_6 : decode cL_state 6 = .ok (.astore_n 2, 1) := by decide +kernel
theorem dL_state_7 : decode cL_state 7 = .ok (.bipush (-101), 2) := by decide +kernel
theorem dL_state_9 : decode cL_state 9 = .ok (.ireturn, 1) := by decide +kernel
set_option maxRecDepth 20000 in
theorem ggL_where_X2_whereIs : GoodIn wsL_where wsX2_whereIs := goodIn_ca (goodIn_r _ [6, 7, 8, 9, 5, 10, 11, 12, 13, 14, 15, 16, 17, 18, 19, 20, 21, 22, 23, 24, 25, 26] (by decide +kernel) (by decide +kernel)) (goodIn_sub (fun _ h => List.mem_cons_of_mem _ (List.mem_append_right _ h)) (by decide +kernel))
set_option maxRecDepth 20000 in
theorem gL_where_X2_whereIs : GoodIn wsL_where (wsV RL 49 RX2 yX2_whereIs wsX2_whereIs) := goodIn_app (goodIn_of _ (by decide +kernel)) ggL_where_X2_whereIs
theorem dL_where_0 : decode cL_where 0 = .ok (.aload_n 0, 1) := by decide +kernel
theorem dL_where_1 : decode cL_where 1 = .ok (.iload_n 1, 1) := by decide +kernel
theorem dL_where_2 : decode cL_where 2 = .ok (.invokevirtual 49, 3) := by decide +kernel
theorem dL_where_5 : decode cL_where 5 = .ok (.ireturn, 1) := by decide +kernel
theorem dL_where_6 : decode cL_where 6 = .ok (.astore_n 2, 1) := by decide +kernel
theorem dL_where_7 : decode cL_where 7 = .ok (.bipush (-101), 2) := by decide +kernel
theorem dL_where_9 : decode cL_where 9 = .ok (.ireturn, 1) := by decide +kernel
set_option maxRecDepth 20000 in
theorem ggL_place_X2_placeOf : GoodIn wsL_place wsX2_placeOf := goodIn_ca (goodIn_r _ [6, 7, 8, 9, 5, 10, 11, 12, 13, 14, 15, 16, 17, 18, 19, 20, 21, 22, 23, 24, 25, 26] (by decide +kernel) (by decide +kernel)) (goodIn_sub (fun _ h => List.mem_cons_of_mem _ (List.mem_append_right _ h)) (by decide +kernel))
set_option maxRecDepth 20000 in
theorem gL_place_X2_placeOf : GoodIn wsL_place (wsV RL 52 RX2 yX2_placeOf wsX2_placeOf) := goodIn_app (goodIn_of _ (by decide +kernel)) ggL_place_X2_placeOf
theorem dL_place_0 : decode cL_place 0 = .ok (.aload_n 0, 1) := by decide +kernel
theorem dL_place_1 : decode cL_place 1 = .ok (.iload_n 1, 1) := by decide +kernel
theorem dL_place_2 : decode cL_place 2 = .ok (.invokevirtual 52, 3) := by decide +kernel
theorem dL_place_5 : decode cL_place 5 = .ok (.ireturn, 1) := by decide +kernel
theorem dL_place_6 : decode cL_place 6 = .ok (.astore_n 2, 1) := by decide +kernel
theorem dL_place_7 : decode cL_place 7 = .ok (.bipush (-101), 2) := by decide +kernel
theorem dL_place_9 : decode cL_place 9 = .ok (.ireturn, 1) := by decide +kernel
set_option maxRecDepth 20000 in
theorem ggL_turn_X2_turnOf : GoodIn wsL_turn wsX2_turnOf := goodIn_ca (goodIn_r _ [6, 7, 8, 9, 5, 10, 11, 12, 13, 14, 15, 16, 17, 18, 19, 20, 21, 22, 23, 24, 25, 26] (by decide +kernel) (by decide +kernel)) (goodIn_sub (fun _ h => List.mem_cons_of_mem _ (List.mem_append_right _ h)) (by decide +kernel))
set_option maxRecDepth 20000 in
theorem gL_turn_X2_turnOf : GoodIn wsL_turn (wsV RL 55 RX2 yX2_turnOf wsX2_turnOf) := goodIn_app (goodIn_of _ (by decide +kernel)) ggL_turn_X2_turnOf
theorem dL_turn_0 : decode cL_turn 0 = .ok (.aload_n 0, 1) := by decide +kernel
theorem dL_turn_1 : decode cL_turn 1 = .ok (.iload_n 1, 1) := by decide +kernel
theorem dL_turn_2 : decode cL_turn 2 = .ok (.invokevirtual 55, 3) := by decide +kernel
theorem dL_turn_5 : decode cL_turn 5 = .ok (.ireturn, 1) := by decide +kernel
theorem dL_turn_6 : decode cL_turn 6 = .ok (.astore_n 2, 1) := by decide +kernel
theorem dL_turn_7 : decode cL_turn 7 = .ok (.bipush (-101), 2) := by decide +kernel
theorem dL_turn_9 : decode cL_turn 9 = .ok (.ireturn, 1) := by decide +kernel
set_option maxRecDepth 20000 in
theorem ggL_stamps_X2_stamps : GoodIn wsL_stamps wsX2_stamps := goodIn_ca (goodIn_r _ [6, 7, 8, 9, 5, 10, 11, 12, 13, 14, 15, 16, 17, 18, 19, 20, 21, 22, 23, 24, 25, 26] (by decide +kernel) (by decide +kernel)) (goodIn_sub (fun _ h => List.mem_cons_of_mem _ (List.mem_append_right _ h)) (by decide +kernel))
set_option maxRecDepth 20000 in
theorem gL_stamps_X2_stamps : GoodIn wsL_stamps (wsV RL 58 RX2 yX2_stamps wsX2_stamps) := goodIn_app (goodIn_of _ (by decide +kernel)) ggL_stamps_X2_stamps
theorem dL_stamps_0 : decode cL_stamps 0 = .ok (.aload_n 0, 1) := by decide +kernel
theorem dL_stamps_1 : decode cL_stamps 1 = .ok (.iload_n 1, 1) := by decide +kernel
theorem dL_stamps_2 : decode cL_stamps 2 = .ok (.invokevirtual 58, 3) := by decide +kernel
theorem dL_stamps_5 : decode cL_stamps 5 = .ok (.ireturn, 1) := by decide +kernel
theorem dL_stamps_6 : decode cL_stamps 6 = .ok (.astore_n 2, 1) := by decide +kernel
theorem dL_stamps_7 : decode cL_stamps 7 = .ok (.bipush (-101), 2) := by decide +kernel
theorem dL_stamps_9 : decode cL_stamps 9 = .ok (.ireturn, 1) := by decide +kernel
set_option maxRecDepth 20000 in
theorem ggL_queue_X2_queue : GoodIn wsL_queue wsX2_queue := goodIn_ca (goodIn_r _ [6, 7, 8, 9, 5, 10, 11, 12, 13, 14, 15, 16, 17, 18, 19, 20, 21, 22, 23, 24, 25, 26, 27, 28, 29, 30, 31, 32, 33, 34, 35, 36, 37, 38, 39, 40, 41] (by decide +kernel) (by decide +kernel)) (goodIn_sub (fun _ h => List.mem_cons_of_mem _ (List.mem_append_right _ h)) (by decide +kernel))
set_option maxRecDepth 20000 in
theorem gL_queue_X2_queue : GoodIn wsL_queue (wsV RL 61 RX2 yX2_queue wsX2_queue) := goodIn_app (goodIn_of _ (by decide +kernel)) ggL_queue_X2_queue
theorem dL_queue_0 : decode cL_queue 0 = .ok (.aload_n 0, 1) := by decide +kernel
theorem dL_queue_1 : decode cL_queue 1 = .ok (.iload_n 1, 1) := by decide +kernel
theorem dL_queue_2 : decode cL_queue 2 = .ok (.invokevirtual 61, 3) := by decide +kernel
theorem dL_queue_5 : decode cL_queue 5 = .ok (.ireturn, 1) := by decide +kernel
theorem dL_queue_6 : decode cL_queue 6 = .ok (.astore_n 2, 1) := by decide +kernel
theorem dL_queue_7 : decode cL_queue 7 = .ok (.bipush (-101), 2) := by decide +kernel
theorem dL_queue_9 : decode cL_queue 9 = .ok (.ireturn, 1) := by decide +kernel
set_option maxRecDepth 20000 in
theorem ggL_inside_X2_inside : GoodIn wsL_inside wsX2_inside := goodIn_ca (goodIn_r _ [6, 7, 8, 9, 5, 10, 11, 12, 13, 14, 15, 16, 17, 18, 19, 20, 21, 22, 23, 24, 25, 26, 27, 28, 29, 30, 31, 32, 33, 34, 35, 36, 37, 38, 39, 40, 41] (by decide +kernel) (by decide +kernel)) (goodIn_sub (fun _ h => List.mem_cons_of_mem _ (List.mem_append_right _ h)) (by decide +kernel))
set_option maxRecDepth 20000 in
theorem gL_inside_X2_inside : GoodIn wsL_inside (wsV RL 64 RX2 yX2_inside wsX2_inside) := goodIn_app (goodIn_of _ (by decide +kernel)) ggL_inside_X2_inside
theorem dL_inside_0 : decode cL_inside 0 = .ok (.aload_n 0, 1) := by decide +kernel
theorem dL_inside_1 : decode cL_inside 1 = .ok (.iload_n 1, 1) := by decide +kernel
theorem dL_inside_2 : decode cL_inside 2 = .ok (.invokevirtual 64, 3) := by decide +kernel
theorem dL_inside_5 : decode cL_inside 5 = .ok (.ireturn, 1) := by decide +kernel
theorem dL_inside_6 : decode cL_inside 6 = .ok (.astore_n 2, 1) := by decide +kernel
theorem dL_inside_7 : decode cL_inside 7 = .ok (.bipush (-101), 2) := by decide +kernel
theorem dL_inside_9 : decode cL_inside 9 = .ok (.ireturn, 1) := by decide +kernel
set_option maxRecDepth 20000 in
theorem ggL_stock_X2_stock : GoodIn wsL_stock wsX2_stock := goodIn_ca (goodIn_r _ [6, 7, 8, 9, 5, 10, 11, 12, 13, 14, 15, 16, 17, 18, 19, 20, 21, 22] (by decide +kernel) (by decide +kernel)) (goodIn_sub (fun _ h => List.mem_cons_of_mem _ (List.mem_append_right _ h)) (by decide +kernel))
set_option maxRecDepth 20000 in
theorem gL_stock_X2_stock : GoodIn wsL_stock (wsV RL 67 RX2 yX2_stock wsX2_stock) := goodIn_app (goodIn_of _ (by decide +kernel)) ggL_stock_X2_stock
theorem dL_stock_0 : decode cL_stock 0 = .ok (.aload_n 0, 1) := by decide +kernel
theorem dL_stock_1 : decode cL_stock 1 = .ok (.iload_n 1, 1) := by decide +kernel
theorem dL_stock_2 : decode cL_stock 2 = .ok (.invokevirtual 67, 3) := by decide +kernel
theorem dL_stock_5 : decode cL_stock 5 = .ok (.ireturn, 1) := by decide +kernel
theorem dL_stock_6 : decode cL_stock 6 = .ok (.astore_n 2, 1) := by decide +kernel
theorem dL_stock_7 : decode cL_stock 7 = .ok (.bipush (-101), 2) := by decide +kernel
theorem dL_stock_9 : decode cL_stock 9 = .ok (.ireturn, 1) := by decide +kernel
set_option maxRecDepth 20000 in
theorem ggL_demand_X2_demand : GoodIn wsL_demand wsX2_demand := goodIn_ca (goodIn_r _ [6, 7, 8, 9, 5, 10, 11, 12, 13, 14, 15, 16, 17, 18, 19, 20, 21, 22] (by decide +kernel) (by decide +kernel)) (goodIn_sub (fun _ h => List.mem_cons_of_mem _ (List.mem_append_right _ h)) (by decide +kernel))
set_option maxRecDepth 20000 in
theorem gL_demand_X2_demand : GoodIn wsL_demand (wsV RL 70 RX2 yX2_demand wsX2_demand) := goodIn_app (goodIn_of _ (by decide +kernel)) ggL_demand_X2_demand
theorem dL_demand_0 : decode cL_demand 0 = .ok (.aload_n 0, 1) := by decide +kernel
theorem dL_demand_1 : decode cL_demand 1 = .ok (.iload_n 1, 1) := by decide +kernel
theorem dL_demand_2 : decode cL_demand 2 = .ok (.invokevirtual 70, 3) := by decide +kernel
theorem dL_demand_5 : decode cL_demand 5 = .ok (.ireturn, 1) := by decide +kernel
theorem dL_demand_6 : decode cL_demand 6 = .ok (.astore_n 2, 1) := by decide +kernel
theorem dL_demand_7 : decode cL_demand 7 = .ok (.bipush (-101), 2) := by decide +kernel
theorem dL_demand_9 : decode cL_demand 9 = .ok (.ireturn, 1) := by decide +kernel
set_option maxRecDepth 20000 in
theorem ggL_sent_X2_sent : GoodIn wsL_sent wsX2_sent := goodIn_ca (goodIn_r _ [6, 7, 8, 9, 5, 10, 11, 12, 13, 14, 15, 16, 17, 18, 19, 20, 21, 22, 23, 24, 25, 26, 27, 28, 29, 30, 31, 32, 33, 34, 35, 36, 37] (by decide +kernel) (by decide +kernel)) (goodIn_sub (fun _ h => List.mem_cons_of_mem _ (List.mem_append_right _ h)) (by decide +kernel))
set_option maxRecDepth 20000 in
theorem gL_sent_X2_sent : GoodIn wsL_sent (wsV RL 73 RX2 yX2_sent wsX2_sent) := goodIn_app (goodIn_of _ (by decide +kernel)) ggL_sent_X2_sent
theorem dL_sent_0 : decode cL_sent 0 = .ok (.aload_n 0, 1) := by decide +kernel
theorem dL_sent_1 : decode cL_sent 1 = .ok (.iload_n 1, 1) := by decide +kernel
theorem dL_sent_2 : decode cL_sent 2 = .ok (.iload_n 2, 1) := by decide +kernel
theorem dL_sent_3 : decode cL_sent 3 = .ok (.invokevirtual 73, 3) := by decide +kernel
theorem dL_sent_6 : decode cL_sent 6 = .ok (.ireturn, 1) := by decide +kernel
theorem dL_sent_7 : decode cL_sent 7 = .ok (.astore_n 3, 1) := by decide +kernel
theorem dL_sent_8 : decode cL_sent 8 = .ok (.bipush (-101), 2) := by decide +kernel
theorem dL_sent_10 : decode cL_sent 10 = .ok (.ireturn, 1) := by decide +kernel
set_option maxRecDepth 20000 in
theorem ggL_fits_L_where : GoodIn wsL_fits wsL_where := goodIn_ca (goodIn_r _ [4, 5, 6, 7, 8, 9, 10, 11, 12, 13, 14, 15, 16, 17, 99, 100, 101, 102, 103, 104, 105, 106, 107, 108, 109, 110, 111] (by decide +kernel) (by decide +kernel)) (goodIn_sub (fun _ h => List.mem_cons_of_mem _ (List.mem_append_right _ h)) (by decide +kernel))
set_option maxRecDepth 20000 in
theorem gL_fits_L_where : GoodIn wsL_fits (va_wsS RL 76 yL_where wsL_where) := goodIn_app (goodIn_of _ (by decide +kernel)) ggL_fits_L_where
set_option maxRecDepth 20000 in
theorem ggL_fits_L_state : GoodIn wsL_fits wsL_state := goodIn_ca (goodIn_r _ [20, 5, 21, 22, 23, 9, 24, 11, 12, 13, 14, 15, 16, 17, 99, 100, 101, 102, 103, 104, 105, 106, 107, 108, 109, 110, 111] (by decide +kernel) (by decide +kernel)) (goodIn_sub (fun _ h => List.mem_cons_of_mem _ (List.mem_append_right _ h)) (by decide +kernel))
set_option maxRecDepth 20000 in
theorem gL_fits_L_state : GoodIn wsL_fits (va_wsS RL 82 yL_state wsL_state) := goodIn_app (goodIn_of _ (by decide +kernel)) ggL_fits_L_state
set_option maxRecDepth 20000 in
theorem ggL_fits_L_place : GoodIn wsL_fits wsL_place := goodIn_ca (goodIn_r _ [27, 5, 28, 29, 30, 9, 31, 11, 12, 13, 14, 15, 16, 17, 99, 100, 101, 102, 103, 104, 105, 106, 107, 108, 109, 110, 111] (by decide +kernel) (by decide +kernel)) (goodIn_sub (fun _ h => List.mem_cons_of_mem _ (List.mem_append_right _ h)) (by decide +kernel))
set_option maxRecDepth 20000 in
theorem gL_fits_L_place : GoodIn wsL_fits (va_wsS RL 85 yL_place wsL_place) := goodIn_app (goodIn_of _ (by decide +kernel)) ggL_fits_L_place
set_option maxRecDepth 20000 in
theorem ggL_fits_L_sent : GoodIn wsL_fits wsL_sent := goodIn_ca (goodIn_r _ [34, 5, 35, 36, 37, 9, 38, 11, 12, 13, 14, 15, 16, 17, 39, 40, 41, 42, 43, 99, 100, 101, 102, 103, 104, 105, 106, 107, 108, 112, 113, 114, 115, 116, 117, 109, 110, 111] (by decide +kernel) (by decide +kernel)) (goodIn_sub (fun _ h => List.mem_cons_of_mem _ (List.mem_append_right _ h)) (by decide +kernel))
set_option maxRecDepth 20000 in
theorem gL_fits_L_sent : GoodIn wsL_fits (va_wsS RL 88 yL_sent wsL_sent) := goodIn_app (goodIn_of _ (by decide +kernel)) ggL_fits_L_sent
set_option maxRecDepth 20000 in
theorem ggL_fits_L_stock : GoodIn wsL_fits wsL_stock := goodIn_ca (goodIn_r _ [46, 5, 47, 48, 49, 9, 50, 39, 40, 41, 42, 15, 16, 43, 112, 113, 114, 115, 116, 117, 109, 110, 111] (by decide +kernel) (by decide +kernel)) (goodIn_sub (fun _ h => List.mem_cons_of_mem _ (List.mem_append_right _ h)) (by decide +kernel))
set_option maxRecDepth 20000 in
theorem gL_fits_L_stock : GoodIn wsL_fits (va_wsS RL 91 yL_stock wsL_stock) := goodIn_app (goodIn_of _ (by decide +kernel)) ggL_fits_L_stock
set_option maxRecDepth 20000 in
theorem ggL_fits_L_queue : GoodIn wsL_fits wsL_queue := goodIn_ca (goodIn_r _ [53, 5, 54, 55, 56, 9, 57, 39, 40, 41, 42, 15, 16, 43, 58, 59, 60, 61, 17, 62, 63, 64, 65, 109, 110, 111, 99, 100, 101, 102, 103, 104, 105, 106, 107, 108, 112, 113, 114, 115, 116, 117] (by decide +kernel) (by decide +kernel)) (goodIn_sub (fun _ h => List.mem_cons_of_mem _ (List.mem_append_right _ h)) (by decide +kernel))
set_option maxRecDepth 20000 in
theorem gL_fits_L_queue : GoodIn wsL_fits (va_wsS RL 93 yL_queue wsL_queue) := goodIn_app (goodIn_of _ (by decide +kernel)) ggL_fits_L_queue
set_option maxRecDepth 20000 in
theorem ggL_fits_L_inside : GoodIn wsL_fits wsL_inside := goodIn_ca (goodIn_r _ [68, 5, 69, 70, 71, 9, 72, 39, 40, 41, 42, 15, 16, 43, 58, 59, 60, 61, 17, 62, 63, 64, 65, 109, 110, 111, 99, 100, 101, 102, 103, 104, 105, 106, 107, 108, 112, 113, 114, 115, 116, 117] (by decide +kernel) (by decide +kernel)) (goodIn_sub (fun _ h => List.mem_cons_of_mem _ (List.mem_append_right _ h)) (by decide +kernel))
set_option maxRecDepth 20000 in
theorem gL_fits_L_inside : GoodIn wsL_fits (va_wsS RL 95 yL_inside wsL_inside) := goodIn_app (goodIn_of _ (by decide +kernel)) ggL_fits_L_inside
set_option maxRecDepth 20000 in
theorem ggL_fits_L_demand : GoodIn wsL_fits wsL_demand := goodIn_ca (goodIn_r _ [75, 5, 76, 77, 78, 9, 79, 39, 40, 41, 42, 15, 16, 43, 112, 113, 114, 115, 116, 117, 109, 110, 111] (by decide +kernel) (by decide +kernel)) (goodIn_sub (fun _ h => List.mem_cons_of_mem _ (List.mem_append_right _ h)) (by decide +kernel))
set_option maxRecDepth 20000 in
theorem gL_fits_L_demand : GoodIn wsL_fits (va_wsS RL 97 yL_demand wsL_demand) := goodIn_app (goodIn_of _ (by decide +kernel)) ggL_fits_L_demand
set_option maxRecDepth 20000 in
theorem ggL_fits_L_turn : GoodIn wsL_fits wsL_turn := goodIn_ca (goodIn_r _ [82, 5, 83, 84, 85, 9, 86, 11, 12, 13, 14, 15, 16, 17, 99, 100, 101, 102, 103, 104, 105, 106, 107, 108, 109, 110, 111] (by decide +kernel) (by decide +kernel)) (goodIn_sub (fun _ h => List.mem_cons_of_mem _ (List.mem_append_right _ h)) (by decide +kernel))
set_option maxRecDepth 20000 in
theorem gL_fits_L_turn : GoodIn wsL_fits (va_wsS RL 99 yL_turn wsL_turn) := goodIn_app (goodIn_of _ (by decide +kernel)) ggL_fits_L_turn
set_option maxRecDepth 20000 in
theorem ggL_fits_X2_minute : GoodIn wsL_fits wsX2_minute := goodIn_r _ [90, 91, 109, 110, 111] (by decide +kernel) (by decide +kernel)
set_option maxRecDepth 20000 in
theorem gL_fits_X2_minute : GoodIn wsL_fits (wsV RL 102 RX2 yX2_minute wsX2_minute) := goodIn_app (goodIn_of _ (by decide +kernel)) ggL_fits_X2_minute
set_option maxRecDepth 20000 in
theorem ggL_fits_L_stamps : GoodIn wsL_fits wsL_stamps := goodIn_ca (goodIn_r _ [94, 5, 95, 96, 97, 9, 98, 11, 12, 13, 14, 15, 16, 17, 99, 100, 101, 102, 103, 104, 105, 106, 107, 108, 109, 110, 111] (by decide +kernel) (by decide +kernel)) (goodIn_sub (fun _ h => List.mem_cons_of_mem _ (List.mem_append_right _ h)) (by decide +kernel))
set_option maxRecDepth 20000 in
theorem gL_fits_L_stamps : GoodIn wsL_fits (va_wsS RL 106 yL_stamps wsL_stamps) := goodIn_app (goodIn_of _ (by decide +kernel)) ggL_fits_L_stamps
theorem dL_fits_0 : decode cL_fits 0 = .ok (.iconst 1, 1) := by decide +kernel
theorem dL_fits_1 : decode cL_fits 1 = .ok (.istore_n 2, 1) := by decide +kernel
theorem dL_fits_2 : decode cL_fits 2 = .ok (.iconst 0, 1) := by decide +kernel
theorem dL_fits_3 : decode cL_fits 3 = .ok (.istore_n 3, 1) := by decide +kernel
theorem dL_fits_4 : decode cL_fits 4 = .ok (.iconst 0, 1) := by decide +kernel
theorem dL_fits_5 : decode cL_fits 5 = .ok (.istore 4, 2) := by decide +kernel
theorem dL_fits_7 : decode cL_fits 7 = .ok (.iload 4, 2) := by decide +kernel
theorem dL_fits_9 : decode cL_fits 9 = .ok (.bipush 6, 2) := by decide +kernel
theorem dL_fits_11 : decode cL_fits 11 = .ok (.if_icmp .ge 215, 3) := by decide +kernel
theorem dL_fits_14 : decode cL_fits 14 = .ok (.iload_n 2, 1) := by decide +kernel
theorem dL_fits_15 : decode cL_fits 15 = .ok (.ifCond .eq 211, 3) := by decide +kernel
theorem dL_fits_18 : decode cL_fits 18 = .ok (.iconst 0, 1) := by decide +kernel
theorem dL_fits_19 : decode cL_fits 19 = .ok (.istore 5, 2) := by decide +kernel
theorem dL_fits_21 : decode cL_fits 21 = .ok (.iconst 0, 1) := by decide +kernel
theorem dL_fits_22 : decode cL_fits 22 = .ok (.istore 6, 2) := by decide +kernel
theorem dL_fits_24 : decode cL_fits 24 = .ok (.iconst 0, 1) := by decide +kernel
theorem dL_fits_25 : decode cL_fits 25 = .ok (.istore 7, 2) := by decide +kernel
theorem dL_fits_27 : decode cL_fits 27 = .ok (.iconst 0, 1) := by decide +kernel
theorem dL_fits_28 : decode cL_fits 28 = .ok (.istore 8, 2) := by decide +kernel
theorem dL_fits_30 : decode cL_fits 30 = .ok (.iload 8, 2) := by decide +kernel
theorem dL_fits_32 : decode cL_fits 32 = .ok (.bipush 8, 2) := by decide +kernel
theorem dL_fits_34 : decode cL_fits 34 = .ok (.if_icmp .ge 120, 3) := by decide +kernel
theorem dL_fits_37 : decode cL_fits 37 = .ok (.aload_n 0, 1) := by decide +kernel
theorem dL_fits_38 : decode cL_fits 38 = .ok (.iload 8, 2) := by decide +kernel
theorem dL_fits_40 : decode cL_fits 40 = .ok (.invokestatic 76, 3) := by decide +kernel
theorem dL_fits_43 : decode cL_fits 43 = .ok (.iload 4, 2) := by decide +kernel
theorem dL_fits_45 : decode cL_fits 45 = .ok (.if_icmp .ne 7, 3) := by decide +kernel
theorem dL_fits_48 : decode cL_fits 48 = .ok (.iconst 1, 1) := by decide +kernel
theorem dL_fits_49 : decode cL_fits 49 = .ok (.goto 4, 3) := by decide +kernel
theorem dL_fits_52 : decode cL_fits 52 = .ok (.iconst 0, 1) := by decide +kernel
theorem dL_fits_53 : decode cL_fits 53 = .ok (.istore 9, 2) := by decide +kernel
theorem dL_fits_55 : decode cL_fits 55 = .ok (.iload 5, 2) := by decide +kernel
theorem dL_fits_57 : decode cL_fits 57 = .ok (.iload 9, 2) := by decide +kernel
theorem dL_fits_59 : decode cL_fits 59 = .ok (.ifCond .eq 17, 3) := by decide +kernel
theorem dL_fits_62 : decode cL_fits 62 = .ok (.aload_n 0, 1) := by decide +kernel
theorem dL_fits_63 : decode cL_fits 63 = .ok (.iload 8, 2) := by decide +kernel
theorem dL_fits_65 : decode cL_fits 65 = .ok (.invokestatic 82, 3) := by decide +kernel
theorem dL_fits_68 : decode cL_fits 68 = .ok (.iconst 1, 1) := by decide +kernel
theorem dL_fits_69 : decode cL_fits 69 = .ok (.if_icmp .ne 7, 3) := by decide +kernel
theorem dL_fits_72 : decode cL_fits 72 = .ok (.iconst 1, 1) := by decide +kernel
theorem dL_fits_73 : decode cL_fits 73 = .ok (.goto 4, 3) := by decide +kernel
theorem dL_fits_76 : decode cL_fits 76 = .ok (.iconst 0, 1) := by decide +kernel
theorem dL_fits_77 : decode cL_fits 77 = .ok (.iadd, 1) := by decide +kernel
theorem dL_fits_78 : decode cL_fits 78 = .ok (.istore 5, 2) := by decide +kernel
theorem dL_fits_80 : decode cL_fits 80 = .ok (.iload 6, 2) := by decide +kernel
theorem dL_fits_82 : decode cL_fits 82 = .ok (.iload 9, 2) := by decide +kernel
theorem dL_fits_84 : decode cL_fits 84 = .ok (.ifCond .eq 17, 3) := by decide +kernel
theorem dL_fits_87 : decode cL_fits 87 = .ok (.aload_n 0, 1) := by decide +kernel
theorem dL_fits_88 : decode cL_fits 88 = .ok (.iload 8, 2) := by decide +kernel
theorem dL_fits_90 : decode cL_fits 90 = .ok (.invokestatic 82, 3) := by decide +kernel
theorem dL_fits_93 : decode cL_fits 93 = .ok (.iconst 2, 1) := by decide +kernel
theorem dL_fits_94 : decode cL_fits 94 = .ok (.if_icmp .ne 7, 3) := by decide +kernel
theorem dL_fits_97 : decode cL_fits 97 = .ok (.iconst 1, 1) := by decide +kernel
theorem dL_fits_98 : decode cL_fits 98 = .ok (.goto 4, 3) := by decide +kernel
theorem dL_fits_101 : decode cL_fits 101 = .ok (.iconst 0, 1) := by decide +kernel
theorem dL_fits_102 : decode cL_fits 102 = .ok (.iadd, 1) := by decide +kernel
theorem dL_fits_103 : decode cL_fits 103 = .ok (.istore 6, 2) := by decide +kernel
theorem dL_fits_105 : decode cL_fits 105 = .ok (.iload 7, 2) := by decide +kernel
theorem dL_fits_107 : decode cL_fits 107 = .ok (.iload 9, 2) := by decide +kernel
theorem dL_fits_109 : decode cL_fits 109 = .ok (.ifCond .eq 24, 3) := by decide +kernel
theorem dL_fits_112 : decode cL_fits 112 = .ok (.aload_n 0, 1) := by decide +kernel
theorem dL_fits_113 : decode cL_fits 113 = .ok (.iload 8, 2) := by decide +kernel
theorem dL_fits_115 : decode cL_fits 115 = .ok (.invokestatic 82, 3) := by decide +kernel
theorem dL_fits_118 : decode cL_fits 118 = .ok (.iconst 1, 1) := by decide +kernel
theorem dL_fits_119 : decode cL_fits 119 = .ok (.if_icmp .ne 14, 3) := by decide +kernel
theorem dL_fits_122 : decode cL_fits 122 = .ok (.iconst 1, 1) := by decide +kernel
theorem dL_fits_123 : decode cL_fits 123 = .ok (.aload_n 0, 1) := by decide +kernel
theorem dL_fits_124 : decode cL_fits 124 = .ok (.iload 8, 2) := by decide +kernel
theorem dL_fits_126 : decode cL_fits 126 = .ok (.invokestatic 85, 3) := by decide +kernel
theorem dL_fits_129 : decode cL_fits 129 = .ok (.ishl, 1) := by decide +kernel
theorem dL_fits_130 : decode cL_fits 130 = .ok (.goto 4, 3) := by decide +kernel
theorem dL_fits_133 : decode cL_fits 133 = .ok (.iconst 0, 1) := by decide +kernel
theorem dL_fits_134 : decode cL_fits 134 = .ok (.ior, 1) := by decide +kernel
theorem dL_fits_135 : decode cL_fits 135 = .ok (.istore 7, 2) := by decide +kernel
theorem dL_fits_137 : decode cL_fits 137 = .ok (.iload_n 3, 1) := by decide +kernel
theorem dL_fits_138 : decode cL_fits 138 = .ok (.aload_n 0, 1) := by decide +kernel
theorem dL_fits_139 : decode cL_fits 139 = .ok (.iload 8, 2) := by decide +kernel
theorem dL_fits_141 : decode cL_fits 141 = .ok (.iload 4, 2) := by decide +kernel
theorem dL_fits_143 : decode cL_fits 143 = .ok (.invokestatic 88, 3) := by decide +kernel
theorem dL_fits_146 : decode cL_fits 146 = .ok (.iadd, 1) := by decide +kernel
theorem dL_fits_147 : decode cL_fits 147 = .ok (.istore_n 3, 1) := by decide +kernel
theorem dL_fits_148 : decode cL_fits 148 = .ok (.iinc 8 1, 3) := by decide +kernel
theorem dL_fits_151 : decode cL_fits 151 = .ok (.goto (-121), 3) := by decide +kernel
theorem dL_fits_154 : decode cL_fits 154 = .ok (.iload_n 3, 1) := by decide +kernel
theorem dL_fits_155 : decode cL_fits 155 = .ok (.aload_n 0, 1) := by decide +kernel
theorem dL_fits_156 : decode cL_fits 156 = .ok (.iload 4, 2) := by decide +kernel
theorem dL_fits_158 : decode cL_fits 158 = .ok (.invokestatic 91, 3) := by decide +kernel
theorem dL_fits_161 : decode cL_fits 161 = .ok (.iadd, 1) := by decide +kernel
theorem dL_fits_162 : decode cL_fits 162 = .ok (.istore_n 3, 1) := by decide +kernel
theorem dL_fits_163 : decode cL_fits 163 = .ok (.aload_n 0, 1) := by decide +kernel
theorem dL_fits_164 : decode cL_fits 164 = .ok (.iload 4, 2) := by decide +kernel
theorem dL_fits_166 : decode cL_fits 166 = .ok (.invokestatic 93, 3) := by decide +kernel
theorem dL_fits_169 : decode cL_fits 169 = .ok (.iload 5, 2) := by decide +kernel
theorem dL_fits_171 : decode cL_fits 171 = .ok (.if_icmp .ne 47, 3) := by decide +kernel
theorem dL_fits_174 : decode cL_fits 174 = .ok (.aload_n 0, 1) := by decide +kernel
theorem dL_fits_175 : decode cL_fits 175 = .ok (.iload 4, 2) := by decide +kernel
theorem dL_fits_177 : decode cL_fits 177 = .ok (.invokestatic 95, 3) := by decide +kernel
theorem dL_fits_180 : decode cL_fits 180 = .ok (.iload 6, 2) := by decide +kernel
theorem dL_fits_182 : decode cL_fits 182 = .ok (.if_icmp .ne 36, 3) := by decide +kernel
theorem dL_fits_185 : decode cL_fits 185 = .ok (.iload 7, 2) := by decide +kernel
theorem dL_fits_187 : decode cL_fits 187 = .ok (.iconst 1, 1) := by decide +kernel
theorem dL_fits_188 : decode cL_fits 188 = .ok (.iload 5, 2) := by decide +kernel
theorem dL_fits_190 : decode cL_fits 190 = .ok (.ishl, 1) := by decide +kernel
theorem dL_fits_191 : decode cL_fits 191 = .ok (.iconst 1, 1) := by decide +kernel
theorem dL_fits_192 : decode cL_fits 192 = .ok (.isub, 1) := by decide +kernel
theorem dL_fits_193 : decode cL_fits 193 = .ok (.if_icmp .ne 25, 3) := by decide +kernel
theorem dL_fits_196 : decode cL_fits 196 = .ok (.aload_n 0, 1) := by decide +kernel
theorem dL_fits_197 : decode cL_fits 197 = .ok (.iload 4, 2) := by decide +kernel
theorem dL_fits_199 : decode cL_fits 199 = .ok (.invokestatic 91, 3) := by decide +kernel
theorem dL_fits_202 : decode cL_fits 202 = .ok (.ifCond .lt 16, 3) := by decide +kernel
theorem dL_fits_205 : decode cL_fits 205 = .ok (.aload_n 0, 1) := by decide +kernel
theorem dL_fits_206 : decode cL_fits 206 = .ok (.iload 4, 2) := by decide +kernel
theorem dL_fits_208 : decode cL_fits 208 = .ok (.invokestatic 97, 3) := by decide +kernel
theorem dL_fits_211 : decode cL_fits 211 = .ok (.ifCond .lt 7, 3) := by decide +kernel
theorem dL_fits_214 : decode cL_fits 214 = .ok (.iconst 1, 1) := by decide +kernel
theorem dL_fits_215 : decode cL_fits 215 = .ok (.goto 4, 3) := by decide +kernel
theorem dL_fits_218 : decode cL_fits 218 = .ok (.iconst 0, 1) := by decide +kernel
theorem dL_fits_219 : decode cL_fits 219 = .ok (.istore_n 2, 1) := by decide +kernel
theorem dL_fits_220 : decode cL_fits 220 = .ok (.iinc 4 1, 3) := by decide +kernel
theorem dL_fits_223 : decode cL_fits 223 = .ok (.goto (-216), 3) := by decide +kernel
theorem dL_fits_226 : decode cL_fits 226 = .ok (.iconst 0, 1) := by decide +kernel
theorem dL_fits_227 : decode cL_fits 227 = .ok (.istore 4, 2) := by decide +kernel
theorem dL_fits_229 : decode cL_fits 229 = .ok (.iload 4, 2) := by decide +kernel
theorem dL_fits_231 : decode cL_fits 231 = .ok (.bipush 8, 2) := by decide +kernel
theorem dL_fits_233 : decode cL_fits 233 = .ok (.if_icmp .ge 152, 3) := by decide +kernel
theorem dL_fits_236 : decode cL_fits 236 = .ok (.iload_n 2, 1) := by decide +kernel
theorem dL_fits_237 : decode cL_fits 237 = .ok (.ifCond .eq 148, 3) := by decide +kernel
theorem dL_fits_240 : decode cL_fits 240 = .ok (.aload_n 0, 1) := by decide +kernel
theorem dL_fits_241 : decode cL_fits 241 = .ok (.iload 4, 2) := by decide +kernel
theorem dL_fits_243 : decode cL_fits 243 = .ok (.invokestatic 82, 3) := by decide +kernel
theorem dL_fits_246 : decode cL_fits 246 = .ok (.istore 5, 2) := by decide +kernel
theorem dL_fits_248 : decode cL_fits 248 = .ok (.iload 5, 2) := by decide +kernel
theorem dL_fits_250 : decode cL_fits 250 = .ok (.ifCond .ne 7, 3) := by decide +kernel
theorem dL_fits_253 : decode cL_fits 253 = .ok (.iconst 1, 1) := by decide +kernel
theorem dL_fits_254 : decode cL_fits 254 = .ok (.goto 4, 3) := by decide +kernel
theorem dL_fits_257 : decode cL_fits 257 = .ok (.iconst 0, 1) := by decide +kernel
theorem dL_fits_258 : decode cL_fits 258 = .ok (.aload_n 0, 1) := by decide +kernel
theorem dL_fits_259 : decode cL_fits 259 = .ok (.iload 4, 2) := by decide +kernel
theorem dL_fits_261 : decode cL_fits 261 = .ok (.invokestatic 76, 3) := by decide +kernel
theorem dL_fits_264 : decode cL_fits 264 = .ok (.iconst (-1), 1) := by decide +kernel
theorem dL_fits_265 : decode cL_fits 265 = .ok (.if_icmp .ne 7, 3) := by decide +kernel
theorem dL_fits_268 : decode cL_fits 268 = .ok (.iconst 1, 1) := by decide +kernel
theorem dL_fits_269 : decode cL_fits 269 = .ok (.goto 4, 3) := by decide +kernel
theorem dL_fits_272 : decode cL_fits 272 = .ok (.iconst 0, 1) := by decide +kernel
theorem dL_fits_273 : decode cL_fits 273 = .ok (.if_icmp .ne 104, 3) := by decide +kernel
theorem dL_fits_276 : decode cL_fits 276 = .ok (.iload 5, 2) := by decide +kernel
theorem dL_fits_278 : decode cL_fits 278 = .ok (.iconst 1, 1) := by decide +kernel
theorem dL_fits_279 : decode cL_fits 279 = .ok (.if_icmp .ne 7, 3) := by decide +kernel
theorem dL_fits_282 : decode cL_fits 282 = .ok (.iconst 1, 1) := by decide +kernel
theorem dL_fits_283 : decode cL_fits 283 = .ok (.goto 4, 3) := by decide +kernel
theorem dL_fits_286 : decode cL_fits 286 = .ok (.iconst 0, 1) := by decide +kernel
theorem dL_fits_287 : decode cL_fits 287 = .ok (.aload_n 0, 1) := by decide +kernel
theorem dL_fits_288 : decode cL_fits 288 = .ok (.iload 4, 2) := by decide +kernel
theorem dL_fits_290 : decode cL_fits 290 = .ok (.invokestatic 85, 3) := by decide +kernel
theorem dL_fits_293 : decode cL_fits 293 = .ok (.ifCond .lt 7, 3) := by decide +kernel
theorem dL_fits_296 : decode cL_fits 296 = .ok (.iconst 1, 1) := by decide +kernel
theorem dL_fits_297 : decode cL_fits 297 = .ok (.goto 4, 3) := by decide +kernel
theorem dL_fits_300 : decode cL_fits 300 = .ok (.iconst 0, 1) := by decide +kernel
theorem dL_fits_301 : decode cL_fits 301 = .ok (.if_icmp .ne 76, 3) := by decide +kernel
theorem dL_fits_304 : decode cL_fits 304 = .ok (.aload_n 0, 1) := by decide +kernel
theorem dL_fits_305 : decode cL_fits 305 = .ok (.iload 4, 2) := by decide +kernel
theorem dL_fits_307 : decode cL_fits 307 = .ok (.invokestatic 99, 3) := by decide +kernel
theorem dL_fits_310 : decode cL_fits 310 = .ok (.iconst (-1), 1) := by decide +kernel
theorem dL_fits_311 : decode cL_fits 311 = .ok (.if_icmp .eq 42, 3) := by decide +kernel
theorem dL_fits_314 : decode cL_fits 314 = .ok (.aload_n 0, 1) := by decide +kernel

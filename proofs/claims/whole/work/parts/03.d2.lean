theorem dX2_loseTurn_2 : decode cX2_loseTurn 2 = .ok (.putfield 98, 3) := by decide +kernel
theorem dX2_loseTurn_5 : decode cX2_loseTurn 5 = .ok (.aload_n 1, 1) := by decide +kernel
theorem dX2_loseTurn_6 : decode cX2_loseTurn 6 = .ok (.aconst_null, 1) := by decide +kernel
theorem dX2_loseTurn_7 : decode cX2_loseTurn 7 = .ok (.putfield 106, 3) := by decide +kernel
theorem dX2_loseTurn_10 : decode cX2_loseTurn 10 = .ok (.return_, 1) := by decide +kernel
set_option maxRecDepth 20000 in
theorem ggX2_firstInQueue_X2_isAt : GoodIn wsX2_firstInQueue wsX2_isAt := goodIn_r _ [6, 10, 11, 12, 13, 14, 15, 16, 17, 18, 19, 20, 21, 22, 23, 24, 25] (by decide +kernel) (by decide +kernel)
set_option maxRecDepth 20000 in
theorem gX2_firstInQueue_X2_isAt : GoodIn wsX2_firstInQueue (wsV RX2 87 RX2 yX2_isAt wsX2_isAt) := goodIn_app (goodIn_of _ (by decide +kernel)) ggX2_firstInQueue_X2_isAt
theorem dX2_firstInQueue_0 : decode cX2_firstInQueue 0 = .ok (.aload_n 0, 1) := by decide +kernel
theorem dX2_firstInQueue_1 : decode cX2_firstInQueue 1 = .ok (.getfield 17, 3) := by decide +kernel
theorem dX2_firstInQueue_4 : decode cX2_firstInQueue 4 = .ok (.astore_n 2, 1) := by decide +kernel
theorem dX2_firstInQueue_5 : decode cX2_firstInQueue 5 = .ok (.aload_n 2, 1) := by decide +kernel
theorem dX2_firstInQueue_6 : decode cX2_firstInQueue 6 = .ok (.arraylength, 1) := by decide +kernel
theorem dX2_firstInQueue_7 : decode cX2_firstInQueue 7 = .ok (.istore_n 3, 1) := by decide +kernel
theorem dX2_firstInQueue_8 : decode cX2_firstInQueue 8 = .ok (.iconst 0, 1) := by decide +kernel
theorem dX2_firstInQueue_9 : decode cX2_firstInQueue 9 = .ok (.istore 4, 2) := by decide +kernel
theorem dX2_firstInQueue_11 : decode cX2_firstInQueue 11 = .ok (.iload 4, 2) := by decide +kernel
theorem dX2_firstInQueue_13 : decode cX2_firstInQueue 13 = .ok (.iload_n 3, 1) := by decide +kernel
theorem dX2_firstInQueue_14 : decode cX2_firstInQueue 14 = .ok (.if_icmp .ge 37, 3) := by decide +kernel
theorem dX2_firstInQueue_17 : decode cX2_firstInQueue 17 = .ok (.aload_n 2, 1) := by decide +kernel
theorem dX2_firstInQueue_18 : decode cX2_firstInQueue 18 = .ok (.iload 4, 2) := by decide +kernel
theorem dX2_firstInQueue_20 : decode cX2_firstInQueue 20 = .ok (.aaload, 1) := by decide +kernel
theorem dX2_firstInQueue_21 : decode cX2_firstInQueue 21 = .ok (.astore 5, 2) := by decide +kernel
theorem dX2_firstInQueue_23 : decode cX2_firstInQueue 23 = .ok (.aload_n 0, 1) := by decide +kernel
theorem dX2_firstInQueue_24 : decode cX2_firstInQueue 24 = .ok (.aload 5, 2) := by decide +kernel
theorem dX2_firstInQueue_26 : decode cX2_firstInQueue 26 = .ok (.iconst 1, 1) := by decide +kernel
theorem dX2_firstInQueue_27 : decode cX2_firstInQueue 27 = .ok (.aload_n 1, 1) := by decide +kernel
theorem dX2_firstInQueue_28 : decode cX2_firstInQueue 28 = .ok (.invokevirtual 87, 3) := by decide +kernel
theorem dX2_firstInQueue_31 : decode cX2_firstInQueue 31 = .ok (.ifCond .eq 14, 3) := by decide +kernel
theorem dX2_firstInQueue_34 : decode cX2_firstInQueue 34 = .ok (.aload 5, 2) := by decide +kernel
theorem dX2_firstInQueue_36 : decode cX2_firstInQueue 36 = .ok (.getfield 144, 3) := by decide +kernel
theorem dX2_firstInQueue_39 : decode cX2_firstInQueue 39 = .ok (.ifCond .ne 6, 3) := by decide +kernel
theorem dX2_firstInQueue_42 : decode cX2_firstInQueue 42 = .ok (.aload 5, 2) := by decide +kernel
theorem dX2_firstInQueue_44 : decode cX2_firstInQueue 44 = .ok (.areturn, 1) := by decide +kernel
theorem dX2_firstInQueue_45 : decode cX2_firstInQueue 45 = .ok (.iinc 4 1, 3) := by decide +kernel
theorem dX2_firstInQueue_48 : decode cX2_firstInQueue 48 = .ok (.goto (-37), 3) := by decide +kernel
theorem dX2_firstInQueue_51 : decode cX2_firstInQueue 51 = .ok (.aconst_null, 1) := by decide +kernel
theorem dX2_firstInQueue_52 : decode cX2_firstInQueue 52 = .ok (.areturn, 1) := by decide +kernel
set_option maxRecDepth 20000 in
theorem ggX2_countByTurn_X2_isAt : GoodIn wsX2_countByTurn wsX2_isAt := goodIn_r _ [6, 10, 11, 12, 13, 14, 15, 16, 17, 18, 19, 20, 21, 22, 23, 24, 25] (by decide +kernel) (by decide +kernel)
set_option maxRecDepth 20000 in
theorem gX2_countByTurn_X2_isAt : GoodIn wsX2_countByTurn (wsV RX2 87 RX2 yX2_isAt wsX2_isAt) := goodIn_app (goodIn_of _ (by decide +kernel)) ggX2_countByTurn_X2_isAt
theorem dX2_countByTurn_0 : decode cX2_countByTurn 0 = .ok (.iconst 0, 1) := by decide +kernel
theorem dX2_countByTurn_1 : decode cX2_countByTurn 1 = .ok (.istore_n 2, 1) := by decide +kernel
theorem dX2_countByTurn_2 : decode cX2_countByTurn 2 = .ok (.aload_n 0, 1) := by decide +kernel
theorem dX2_countByTurn_3 : decode cX2_countByTurn 3 = .ok (.getfield 17, 3) := by decide +kernel
theorem dX2_countByTurn_6 : decode cX2_countByTurn 6 = .ok (.astore_n 3, 1) := by decide +kernel
theorem dX2_countByTurn_7 : decode cX2_countByTurn 7 = .ok (.aload_n 3, 1) := by decide +kernel
theorem dX2_countByTurn_8 : decode cX2_countByTurn 8 = .ok (.arraylength, 1) := by decide +kernel
theorem dX2_countByTurn_9 : decode cX2_countByTurn 9 = .ok (.istore 4, 2) := by decide +kernel
theorem dX2_countByTurn_11 : decode cX2_countByTurn 11 = .ok (.iconst 0, 1) := by decide +kernel
theorem dX2_countByTurn_12 : decode cX2_countByTurn 12 = .ok (.istore 5, 2) := by decide +kernel
theorem dX2_countByTurn_14 : decode cX2_countByTurn 14 = .ok (.iload 5, 2) := by decide +kernel
theorem dX2_countByTurn_16 : decode cX2_countByTurn 16 = .ok (.iload 4, 2) := by decide +kernel
theorem dX2_countByTurn_18 : decode cX2_countByTurn 18 = .ok (.if_icmp .ge 37, 3) := by decide +kernel
theorem dX2_countByTurn_21 : decode cX2_countByTurn 21 = .ok (.aload_n 3, 1) := by decide +kernel
theorem dX2_countByTurn_22 : decode cX2_countByTurn 22 = .ok (.iload 5, 2) := by decide +kernel
theorem dX2_countByTurn_24 : decode cX2_countByTurn 24 = .ok (.aaload, 1) := by decide +kernel
theorem dX2_countByTurn_25 : decode cX2_countByTurn 25 = .ok (.astore 6, 2) := by decide +kernel
theorem dX2_countByTurn_27 : decode cX2_countByTurn 27 = .ok (.aload_n 0, 1) := by decide +kernel
theorem dX2_countByTurn_28 : decode cX2_countByTurn 28 = .ok (.aload 6, 2) := by decide +kernel
theorem dX2_countByTurn_30 : decode cX2_countByTurn 30 = .ok (.iconst 1, 1) := by decide +kernel
theorem dX2_countByTurn_31 : decode cX2_countByTurn 31 = .ok (.aload_n 1, 1) := by decide +kernel
theorem dX2_countByTurn_32 : decode cX2_countByTurn 32 = .ok (.invokevirtual 87, 3) := by decide +kernel
theorem dX2_countByTurn_35 : decode cX2_countByTurn 35 = .ok (.ifCond .eq 14, 3) := by decide +kernel
theorem dX2_countByTurn_38 : decode cX2_countByTurn 38 = .ok (.aload 6, 2) := by decide +kernel
theorem dX2_countByTurn_40 : decode cX2_countByTurn 40 = .ok (.getfield 91, 3) := by decide +kernel
theorem dX2_countByTurn_43 : decode cX2_countByTurn 43 = .ok (.ifCond .eq 6, 3) := by decide +kernel
theorem dX2_countByTurn_46 : decode cX2_countByTurn 46 = .ok (.iinc 2 1, 3) := by decide +kernel
theorem dX2_countByTurn_49 : decode cX2_countByTurn 49 = .ok (.iinc 5 1, 3) := by decide +kernel
theorem dX2_countByTurn_52 : decode cX2_countByTurn 52 = .ok (.goto (-38), 3) := by decide +kernel
theorem dX2_countByTurn_55 : decode cX2_countByTurn 55 = .ok (.iload_n 2, 1) := by decide +kernel
theorem dX2_countByTurn_56 : decode cX2_countByTurn 56 = .ok (.ireturn, 1) := by decide +kernel
set_option maxRecDepth 20000 in
theorem ggX2_joinQueue_X2_isAt : GoodIn wsX2_joinQueue wsX2_isAt := goodIn_r _ [6, 10, 11, 12, 13, 14, 15, 16, 17, 18, 19, 20, 21, 22, 23, 24, 25] (by decide +kernel) (by decide +kernel)
set_option maxRecDepth 20000 in
theorem gX2_joinQueue_X2_isAt : GoodIn wsX2_joinQueue (wsV RX2 87 RX2 yX2_isAt wsX2_isAt) := goodIn_app (goodIn_of _ (by decide +kernel)) ggX2_joinQueue_X2_isAt
theorem dX2_joinQueue_0 : decode cX2_joinQueue 0 = .ok (.aload_n 0, 1) := by decide +kernel
theorem dX2_joinQueue_1 : decode cX2_joinQueue 1 = .ok (.getfield 17, 3) := by decide +kernel
theorem dX2_joinQueue_4 : decode cX2_joinQueue 4 = .ok (.astore 4, 2) := by decide +kernel
theorem dX2_joinQueue_6 : decode cX2_joinQueue 6 = .ok (.aload 4, 2) := by decide +kernel
theorem dX2_joinQueue_8 : decode cX2_joinQueue 8 = .ok (.arraylength, 1) := by decide +kernel
theorem dX2_joinQueue_9 : decode cX2_joinQueue 9 = .ok (.istore 5, 2) := by decide +kernel
theorem dX2_joinQueue_11 : decode cX2_joinQueue 11 = .ok (.iconst 0, 1) := by decide +kernel
theorem dX2_joinQueue_12 : decode cX2_joinQueue 12 = .ok (.istore 6, 2) := by decide +kernel
theorem dX2_joinQueue_14 : decode cX2_joinQueue 14 = .ok (.iload 6, 2) := by decide +kernel
theorem dX2_joinQueue_16 : decode cX2_joinQueue 16 = .ok (.iload 5, 2) := by decide +kernel
theorem dX2_joinQueue_18 : decode cX2_joinQueue 18 = .ok (.if_icmp .ge 47, 3) := by decide +kernel
theorem dX2_joinQueue_21 : decode cX2_joinQueue 21 = .ok (.aload 4, 2) := by decide +kernel
theorem dX2_joinQueue_23 : decode cX2_joinQueue 23 = .ok (.iload 6, 2) := by decide +kernel
theorem dX2_joinQueue_25 : decode cX2_joinQueue 25 = .ok (.aaload, 1) := by decide +kernel
theorem dX2_joinQueue_26 : decode cX2_joinQueue 26 = .ok (.astore 7, 2) := by decide +kernel
theorem dX2_joinQueue_28 : decode cX2_joinQueue 28 = .ok (.aload_n 0, 1) := by decide +kernel
theorem dX2_joinQueue_29 : decode cX2_joinQueue 29 = .ok (.aload 7, 2) := by decide +kernel
theorem dX2_joinQueue_31 : decode cX2_joinQueue 31 = .ok (.iconst 1, 1) := by decide +kernel
theorem dX2_joinQueue_32 : decode cX2_joinQueue 32 = .ok (.aload_n 2, 1) := by decide +kernel
theorem dX2_joinQueue_33 : decode cX2_joinQueue 33 = .ok (.invokevirtual 87, 3) := by decide +kernel
theorem dX2_joinQueue_36 : decode cX2_joinQueue 36 = .ok (.ifCond .eq 23, 3) := by decide +kernel
theorem dX2_joinQueue_39 : decode cX2_joinQueue 39 = .ok (.aload 7, 2) := by decide +kernel
theorem dX2_joinQueue_41 : decode cX2_joinQueue 41 = .ok (.getfield 144, 3) := by decide +kernel
theorem dX2_joinQueue_44 : decode cX2_joinQueue 44 = .ok (.iload_n 3, 1) := by decide +kernel
theorem dX2_joinQueue_45 : decode cX2_joinQueue 45 = .ok (.if_icmp .lt 14, 3) := by decide +kernel
theorem dX2_joinQueue_48 : decode cX2_joinQueue 48 = .ok (.aload 7, 2) := by decide +kernel
theorem dX2_joinQueue_50 : decode cX2_joinQueue 50 = .ok (.dup, 1) := by decide +kernel
theorem dX2_joinQueue_51 : decode cX2_joinQueue 51 = .ok (.getfield 144, 3) := by decide +kernel
theorem dX2_joinQueue_54 : decode cX2_joinQueue 54 = .ok (.iconst 1, 1) := by decide +kernel
theorem dX2_joinQueue_55 : decode cX2_joinQueue 55 = .ok (.iadd, 1) := by decide +kernel
theorem dX2_joinQueue_56 : decode cX2_joinQueue 56 = .ok (.putfield 144, 3) := by decide +kernel
theorem dX2_joinQueue_59 : decode cX2_joinQueue 59 = .ok (.iinc 6 1, 3) := by decide +kernel
theorem dX2_joinQueue_62 : decode cX2_joinQueue 62 = .ok (.goto (-48), 3) := by decide +kernel
theorem dX2_joinQueue_65 : decode cX2_joinQueue 65 = .ok (.aload_n 1, 1) := by decide +kernel
theorem dX2_joinQueue_66 : decode cX2_joinQueue 66 = .ok (.iconst 1, 1) := by decide +kernel
theorem dX2_joinQueue_67 : decode cX2_joinQueue 67 = .ok (.putfield 138, 3) := by decide +kernel
theorem dX2_joinQueue_70 : decode cX2_joinQueue 70 = .ok (.aload_n 1, 1) := by decide +kernel
theorem dX2_joinQueue_71 : decode cX2_joinQueue 71 = .ok (.aload_n 2, 1) := by decide +kernel
theorem dX2_joinQueue_72 : decode cX2_joinQueue 72 = .ok (.getfield 133, 3) := by decide +kernel
theorem dX2_joinQueue_75 : decode cX2_joinQueue 75 = .ok (.putfield 141, 3) := by decide +kernel
theorem dX2_joinQueue_78 : decode cX2_joinQueue 78 = .ok (.aload_n 1, 1) := by decide +kernel
theorem dX2_joinQueue_79 : decode cX2_joinQueue 79 = .ok (.iload_n 3, 1) := by decide +kernel
theorem dX2_joinQueue_80 : decode cX2_joinQueue 80 = .ok (.putfield 144, 3) := by decide +kernel
theorem dX2_joinQueue_83 : decode cX2_joinQueue 83 = .ok (.return_, 1) := by decide +kernel
set_option maxRecDepth 20000 in
theorem ggX2_leaveQueue_X2_loseTurn : GoodIn wsX2_leaveQueue wsX2_loseTurn := goodIn_r _ [6, 14, 15, 16, 17, 18, 19, 20, 21, 22, 23] (by decide +kernel) (by decide +kernel)
set_option maxRecDepth 20000 in
theorem gX2_leaveQueue_X2_loseTurn : GoodIn wsX2_leaveQueue (wsV RX2 189 RX2 yX2_loseTurn wsX2_loseTurn) := goodIn_app (goodIn_of _ (by decide +kernel)) ggX2_leaveQueue_X2_loseTurn
set_option maxRecDepth 20000 in
theorem ggX2_leaveQueue_X2_becomeIdle : GoodIn wsX2_leaveQueue wsX2_becomeIdle := goodIn_r _ [10, 14, 15, 16, 17, 18, 19, 20, 21, 22, 23] (by decide +kernel) (by decide +kernel)
set_option maxRecDepth 20000 in
theorem gX2_leaveQueue_X2_becomeIdle : GoodIn wsX2_leaveQueue (wsV RX2 183 RX2 yX2_becomeIdle wsX2_becomeIdle) := goodIn_app (goodIn_of _ (by decide +kernel)) ggX2_leaveQueue_X2_becomeIdle
theorem dX2_leaveQueue_0 : decode cX2_leaveQueue 0 = .ok (.aload_n 0, 1) := by decide +kernel
theorem dX2_leaveQueue_1 : decode cX2_leaveQueue 1 = .ok (.getfield 17, 3) := by decide +kernel
theorem dX2_leaveQueue_4 : decode cX2_leaveQueue 4 = .ok (.astore_n 2, 1) := by decide +kernel
theorem dX2_leaveQueue_5 : decode cX2_leaveQueue 5 = .ok (.aload_n 2, 1) := by decide +kernel
theorem dX2_leaveQueue_6 : decode cX2_leaveQueue 6 = .ok (.arraylength, 1) := by decide +kernel
theorem dX2_leaveQueue_7 : decode cX2_leaveQueue 7 = .ok (.istore_n 3, 1) := by decide +kernel
theorem dX2_leaveQueue_8 : decode cX2_leaveQueue 8 = .ok (.iconst 0, 1) := by decide +kernel
theorem dX2_leaveQueue_9 : decode cX2_leaveQueue 9 = .ok (.istore 4, 2) := by decide +kernel
theorem dX2_leaveQueue_11 : decode cX2_leaveQueue 11 = .ok (.iload 4, 2) := by decide +kernel
theorem dX2_leaveQueue_13 : decode cX2_leaveQueue 13 = .ok (.iload_n 3, 1) := by decide +kernel
theorem dX2_leaveQueue_14 : decode cX2_leaveQueue 14 = .ok (.if_icmp .ge 59, 3) := by decide +kernel
theorem dX2_leaveQueue_17 : decode cX2_leaveQueue 17 = .ok (.aload_n 2, 1) := by decide +kernel
theorem dX2_leaveQueue_18 : decode cX2_leaveQueue 18 = .ok (.iload 4, 2) := by decide +kernel
theorem dX2_leaveQueue_20 : decode cX2_leaveQueue 20 = .ok (.aaload, 1) := by decide +kernel
theorem dX2_leaveQueue_21 : decode cX2_leaveQueue 21 = .ok (.astore 5, 2) := by decide +kernel
theorem dX2_leaveQueue_23 : decode cX2_leaveQueue 23 = .ok (.aload 5, 2) := by decide +kernel
theorem dX2_leaveQueue_25 : decode cX2_leaveQueue 25 = .ok (.getfield 138, 3) := by decide +kernel
theorem dX2_leaveQueue_28 : decode cX2_leaveQueue 28 = .ok (.iconst 1, 1) := by decide +kernel
theorem dX2_leaveQueue_29 : decode cX2_leaveQueue 29 = .ok (.if_icmp .ne 38, 3) := by decide +kernel
theorem dX2_leaveQueue_32 : decode cX2_leaveQueue 32 = .ok (.aload 5, 2) := by decide +kernel
theorem dX2_leaveQueue_34 : decode cX2_leaveQueue 34 = .ok (.getfield 141, 3) := by decide +kernel
theorem dX2_leaveQueue_37 : decode cX2_leaveQueue 37 = .ok (.aload_n 1, 1) := by decide +kernel
theorem dX2_leaveQueue_38 : decode cX2_leaveQueue 38 = .ok (.getfield 141, 3) := by decide +kernel
theorem dX2_leaveQueue_41 : decode cX2_leaveQueue 41 = .ok (.if_icmp .ne 26, 3) := by decide +kernel
theorem dX2_leaveQueue_44 : decode cX2_leaveQueue 44 = .ok (.aload 5, 2) := by decide +kernel
theorem dX2_leaveQueue_46 : decode cX2_leaveQueue 46 = .ok (.getfield 144, 3) := by decide +kernel
theorem dX2_leaveQueue_49 : decode cX2_leaveQueue 49 = .ok (.aload_n 1, 1) := by decide +kernel
theorem dX2_leaveQueue_50 : decode cX2_leaveQueue 50 = .ok (.getfield 144, 3) := by decide +kernel
theorem dX2_leaveQueue_53 : decode cX2_leaveQueue 53 = .ok (.if_icmp .le 14, 3) := by decide +kernel
theorem dX2_leaveQueue_56 : decode cX2_leaveQueue 56 = .ok (.aload 5, 2) := by decide +kernel
theorem dX2_leaveQueue_58 : decode cX2_leaveQueue 58 = .ok (.dup, 1) := by decide +kernel
theorem dX2_leaveQueue_59 : decode cX2_leaveQueue 59 = .ok (.getfield 144, 3) := by decide +kernel
theorem dX2_leaveQueue_62 : decode cX2_leaveQueue 62 = .ok (.iconst 1, 1) := by decide +kernel
theorem dX2_leaveQueue_63 : decode cX2_leaveQueue 63 = .ok (.isub, 1) := by decide +kernel
theorem dX2_leaveQueue_64 : decode cX2_leaveQueue 64 = .ok (.putfield 144, 3) := by decide +kernel
theorem dX2_leaveQueue_67 : decode cX2_leaveQueue 67 = .ok (.iinc 4 1, 3) := by decide +kernel
theorem dX2_leaveQueue_70 : decode cX2_leaveQueue 70 = .ok (.goto (-59), 3) := by decide +kernel
theorem dX2_leaveQueue_73 : decode cX2_leaveQueue 73 = .ok (.aload_n 1, 1) := by decide +kernel
theorem dX2_leaveQueue_74 : decode cX2_leaveQueue 74 = .ok (.getfield 91, 3) := by decide +kernel
theorem dX2_leaveQueue_77 : decode cX2_leaveQueue 77 = .ok (.ifCond .eq 13, 3) := by decide +kernel
theorem dX2_leaveQueue_80 : decode cX2_leaveQueue 80 = .ok (.aload_n 0, 1) := by decide +kernel
theorem dX2_leaveQueue_81 : decode cX2_leaveQueue 81 = .ok (.aload_n 1, 1) := by decide +kernel
theorem dX2_leaveQueue_82 : decode cX2_leaveQueue 82 = .ok (.invokevirtual 189, 3) := by decide +kernel
theorem dX2_leaveQueue_85 : decode cX2_leaveQueue 85 = .ok (.aload_n 1, 1) := by decide +kernel
theorem dX2_leaveQueue_86 : decode cX2_leaveQueue 86 = .ok (.iconst 0, 1) := by decide +kernel
theorem dX2_leaveQueue_87 : decode cX2_leaveQueue 87 = .ok (.putfield 91, 3) := by decide +kernel
theorem dX2_leaveQueue_90 : decode cX2_leaveQueue 90 = .ok (.aload_n 0, 1) := by decide +kernel
theorem dX2_leaveQueue_91 : decode cX2_leaveQueue 91 = .ok (.aload_n 1, 1) := by decide +kernel
theorem dX2_leaveQueue_92 : decode cX2_leaveQueue 92 = .ok (.invokevirtual 183, 3) := by decide +kernel
theorem dX2_leaveQueue_95 : decode cX2_leaveQueue 95 = .ok (.return_, 1) := by decide +kernel
set_option maxRecDepth 20000 in
theorem ggX2_emptyQueue_X2_isAt : GoodIn wsX2_emptyQueue wsX2_isAt := goodIn_r _ [6, 22, 23, 24, 25, 26, 27, 28, 29, 30, 31, 32, 33, 34, 35, 36, 37] (by decide +kernel) (by decide +kernel)
set_option maxRecDepth 20000 in
theorem gX2_emptyQueue_X2_isAt : GoodIn wsX2_emptyQueue (wsV RX2 87 RX2 yX2_isAt wsX2_isAt) := goodIn_app (goodIn_of _ (by decide +kernel)) ggX2_emptyQueue_X2_isAt
set_option maxRecDepth 20000 in
theorem ggX2_emptyQueue_X2_leaveQueue : GoodIn wsX2_emptyQueue wsX2_leaveQueue := goodIn_r _ [10, 1, 11, 12, 13, 5, 14, 15, 16, 17, 18, 19, 20, 21, 22, 23, 24, 25, 26, 27, 28, 29, 30, 31] (by decide +kernel) (by decide +kernel)
set_option maxRecDepth 20000 in
theorem gX2_emptyQueue_X2_leaveQueue : GoodIn wsX2_emptyQueue (wsV RX2 94 RX2 yX2_leaveQueue wsX2_leaveQueue) := goodIn_app (goodIn_of _ (by decide +kernel)) ggX2_emptyQueue_X2_leaveQueue
theorem dX2_emptyQueue_0 : decode cX2_emptyQueue 0 = .ok (.iconst 0, 1) := by decide +kernel
theorem dX2_emptyQueue_1 : decode cX2_emptyQueue 1 = .ok (.istore_n 2, 1) := by decide +kernel
theorem dX2_emptyQueue_2 : decode cX2_emptyQueue 2 = .ok (.aload_n 0, 1) := by decide +kernel
theorem dX2_emptyQueue_3 : decode cX2_emptyQueue 3 = .ok (.getfield 17, 3) := by decide +kernel
theorem dX2_emptyQueue_6 : decode cX2_emptyQueue 6 = .ok (.astore_n 3, 1) := by decide +kernel
theorem dX2_emptyQueue_7 : decode cX2_emptyQueue 7 = .ok (.aload_n 3, 1) := by decide +kernel
theorem dX2_emptyQueue_8 : decode cX2_emptyQueue 8 = .ok (.arraylength, 1) := by decide +kernel
theorem dX2_emptyQueue_9 : decode cX2_emptyQueue 9 = .ok (.istore 4, 2) := by decide +kernel
theorem dX2_emptyQueue_11 : decode cX2_emptyQueue 11 = .ok (.iconst 0, 1) := by decide +kernel
theorem dX2_emptyQueue_12 : decode cX2_emptyQueue 12 = .ok (.istore 5, 2) := by decide +kernel
theorem dX2_emptyQueue_14 : decode cX2_emptyQueue 14 = .ok (.iload 5, 2) := by decide +kernel
theorem dX2_emptyQueue_16 : decode cX2_emptyQueue 16 = .ok (.iload 4, 2) := by decide +kernel
theorem dX2_emptyQueue_18 : decode cX2_emptyQueue 18 = .ok (.if_icmp .ge 35, 3) := by decide +kernel
theorem dX2_emptyQueue_21 : decode cX2_emptyQueue 21 = .ok (.aload_n 3, 1) := by decide +kernel
theorem dX2_emptyQueue_22 : decode cX2_emptyQueue 22 = .ok (.iload 5, 2) := by decide +kernel
theorem dX2_emptyQueue_24 : decode cX2_emptyQueue 24 = .ok (.aaload, 1) := by decide +kernel
theorem dX2_emptyQueue_25 : decode cX2_emptyQueue 25 = .ok (.astore 6, 2) := by decide +kernel
theorem dX2_emptyQueue_27 : decode cX2_emptyQueue 27 = .ok (.aload_n 0, 1) := by decide +kernel
theorem dX2_emptyQueue_28 : decode cX2_emptyQueue 28 = .ok (.aload 6, 2) := by decide +kernel
theorem dX2_emptyQueue_30 : decode cX2_emptyQueue 30 = .ok (.iconst 1, 1) := by decide +kernel
theorem dX2_emptyQueue_31 : decode cX2_emptyQueue 31 = .ok (.aload_n 1, 1) := by decide +kernel
theorem dX2_emptyQueue_32 : decode cX2_emptyQueue 32 = .ok (.invokevirtual 87, 3) := by decide +kernel
theorem dX2_emptyQueue_35 : decode cX2_emptyQueue 35 = .ok (.ifCond .eq 12, 3) := by decide +kernel
theorem dX2_emptyQueue_38 : decode cX2_emptyQueue 38 = .ok (.aload_n 0, 1) := by decide +kernel
theorem dX2_emptyQueue_39 : decode cX2_emptyQueue 39 = .ok (.aload 6, 2) := by decide +kernel
theorem dX2_emptyQueue_41 : decode cX2_emptyQueue 41 = .ok (.invokevirtual 94, 3) := by decide +kernel
theorem dX2_emptyQueue_44 : decode cX2_emptyQueue 44 = .ok (.iinc 2 1, 3) := by decide +kernel
theorem dX2_emptyQueue_47 : decode cX2_emptyQueue 47 = .ok (.iinc 5 1, 3) := by decide +kernel
theorem dX2_emptyQueue_50 : decode cX2_emptyQueue 50 = .ok (.goto (-36), 3) := by decide +kernel
theorem dX2_emptyQueue_53 : decode cX2_emptyQueue 53 = .ok (.iload_n 2, 1) := by decide +kernel
theorem dX2_emptyQueue_54 : decode cX2_emptyQueue 54 = .ok (.ireturn, 1) := by decide +kernel
theorem dX3_init_0 : decode cX3_init 0 = .ok (.aload_n 0, 1) := by decide +kernel
theorem dX3_init_1 : decode cX3_init 1 = .ok (.invokespecial 1, 3) := by decide +kernel
theorem dX3_init_4 : decode cX3_init 4 = .ok (.aload_n 0, 1) := by decide +kernel
theorem dX3_init_5 : decode cX3_init 5 = .ok (.bipush 6, 2) := by decide +kernel
theorem dX3_init_7 : decode cX3_init 7 = .ok (.newarray .int, 2) := by decide +kernel
theorem dX3_init_9 : decode cX3_init 9 = .ok (.putfield 7, 3) := by decide +kernel
theorem dX3_init_12 : decode cX3_init 12 = .ok (.aload_n 0, 1) := by decide +kernel
theorem dX3_init_13 : decode cX3_init 13 = .ok (.bipush 6, 2) := by decide +kernel
theorem dX3_init_15 : decode cX3_init 15 = .ok (.newarray .int, 2) := by decide +kernel
theorem dX3_init_17 : decode cX3_init 17 = .ok (.putfield 13, 3) := by decide +kernel
theorem dX3_init_20 : decode cX3_init 20 = .ok (.aload_n 0, 1) := by decide +kernel
theorem dX3_init_21 : decode cX3_init 21 = .ok (.bipush 6, 2) := by decide +kernel
theorem dX3_init_23 : decode cX3_init 23 = .ok (.newarray .boolean, 2) := by decide +kernel
theorem dX3_init_25 : decode cX3_init 25 = .ok (.putfield 16, 3) := by decide +kernel
theorem dX3_init_28 : decode cX3_init 28 = .ok (.aload_n 0, 1) := by decide +kernel
theorem dX3_init_29 : decode cX3_init 29 = .ok (.bipush 48, 2) := by decide +kernel
theorem dX3_init_31 : decode cX3_init 31 = .ok (.newarray .int, 2) := by decide +kernel
theorem dX3_init_33 : decode cX3_init 33 = .ok (.putfield 20, 3) := by decide +kernel
theorem dX3_init_36 : decode cX3_init 36 = .ok (.aload_n 0, 1) := by decide +kernel
theorem dX3_init_37 : decode cX3_init 37 = .ok (.bipush 6, 2) := by decide +kernel
theorem dX3_init_39 : decode cX3_init 39 = .ok (.newarray .int, 2) := by decide +kernel
theorem dX3_init_41 : decode cX3_init 41 = .ok (.putfield 23, 3) := by decide +kernel
theorem dX3_init_44 : decode cX3_init 44 = .ok (.aload_n 0, 1) := by decide +kernel
theorem dX3_init_45 : decode cX3_init 45 = .ok (.bipush 48, 2) := by decide +kernel
theorem dX3_init_47 : decode cX3_init 47 = .ok (.newarray .int, 2) := by decide +kernel
theorem dX3_init_49 : decode cX3_init 49 = .ok (.putfield 26, 3) := by decide +kernel
theorem dX3_init_52 : decode cX3_init 52 = .ok (.aload_n 0, 1) := by decide +kernel
theorem dX3_init_53 : decode cX3_init 53 = .ok (.bipush 8, 2) := by decide +kernel
theorem dX3_init_55 : decode cX3_init 55 = .ok (.newarray .int, 2) := by decide +kernel
theorem dX3_init_57 : decode cX3_init 57 = .ok (.putfield 29, 3) := by decide +kernel
theorem dX3_init_60 : decode cX3_init 60 = .ok (.aload_n 0, 1) := by decide +kernel
theorem dX3_init_61 : decode cX3_init 61 = .ok (.bipush 8, 2) := by decide +kernel
theorem dX3_init_63 : decode cX3_init 63 = .ok (.newarray .int, 2) := by decide +kernel
theorem dX3_init_65 : decode cX3_init 65 = .ok (.putfield 32, 3) := by decide +kernel
theorem dX3_init_68 : decode cX3_init 68 = .ok (.aload_n 0, 1) := by decide +kernel
theorem dX3_init_69 : decode cX3_init 69 = .ok (.bipush 8, 2) := by decide +kernel
theorem dX3_init_71 : decode cX3_init 71 = .ok (.newarray .int, 2) := by decide +kernel
theorem dX3_init_73 : decode cX3_init 73 = .ok (.putfield 35, 3) := by decide +kernel
theorem dX3_init_76 : decode cX3_init 76 = .ok (.aload_n 0, 1) := by decide +kernel
theorem dX3_init_77 : decode cX3_init 77 = .ok (.bipush 8, 2) := by decide +kernel
theorem dX3_init_79 : decode cX3_init 79 = .ok (.newarray .int, 2) := by decide +kernel
theorem dX3_init_81 : decode cX3_init 81 = .ok (.putfield 38, 3) := by decide +kernel
theorem dX3_init_84 : decode cX3_init 84 = .ok (.aload_n 0, 1) := by decide +kernel
theorem dX3_init_85 : decode cX3_init 85 = .ok (.bipush 8, 2) := by decide +kernel
theorem dX3_init_87 : decode cX3_init 87 = .ok (.newarray .int, 2) := by decide +kernel
theorem dX3_init_89 : decode cX3_init 89 = .ok (.putfield 41, 3) := by decide +kernel
theorem dX3_init_92 : decode cX3_init 92 = .ok (.aload_n 0, 1) := by decide +kernel
theorem dX3_init_93 : decode cX3_init 93 = .ok (.bipush 8, 2) := by decide +kernel
theorem dX3_init_95 : decode cX3_init 95 = .ok (.newarray .int, 2) := by decide +kernel
theorem dX3_init_97 : decode cX3_init 97 = .ok (.putfield 44, 3) := by decide +kernel
theorem dX3_init_100 : decode cX3_init 100 = .ok (.aload_n 0, 1) := by decide +kernel
theorem dX3_init_101 : decode cX3_init 101 = .ok (.bipush 8, 2) := by decide +kernel
theorem dX3_init_103 : decode cX3_init 103 = .ok (.newarray .int, 2) := by decide +kernel
theorem dX3_init_105 : decode cX3_init 105 = .ok (.putfield 47, 3) := by decide +kernel
theorem dX3_init_108 : decode cX3_init 108 = .ok (.aload_n 0, 1) := by decide +kernel
theorem dX3_init_109 : decode cX3_init 109 = .ok (.bipush 8, 2) := by decide +kernel
theorem dX3_init_111 : decode cX3_init 111 = .ok (.newarray .boolean, 2) := by decide +kernel
theorem dX3_init_113 : decode cX3_init 113 = .ok (.putfield 50, 3) := by decide +kernel
theorem dX3_init_116 : decode cX3_init 116 = .ok (.aload_n 0, 1) := by decide +kernel
theorem dX3_init_117 : decode cX3_init 117 = .ok (.bipush 6, 2) := by decide +kernel
theorem dX3_init_119 : decode cX3_init 119 = .ok (.newarray .int, 2) := by decide +kernel
theorem dX3_init_121 : decode cX3_init 121 = .ok (.putfield 53, 3) := by decide +kernel
theorem dX3_init_124 : decode cX3_init 124 = .ok (.aload_n 0, 1) := by decide +kernel
theorem dX3_init_125 : decode cX3_init 125 = .ok (.bipush 6, 2) := by decide +kernel
theorem dX3_init_127 : decode cX3_init 127 = .ok (.newarray .int, 2) := by decide +kernel
theorem dX3_init_129 : decode cX3_init 129 = .ok (.putfield 56, 3) := by decide +kernel
theorem dX3_init_132 : decode cX3_init 132 = .ok (.aload_n 0, 1) := by decide +kernel
theorem dX3_init_133 : decode cX3_init 133 = .ok (.bipush 48, 2) := by decide +kernel
theorem dX3_init_135 : decode cX3_init 135 = .ok (.newarray .int, 2) := by decide +kernel
theorem dX3_init_137 : decode cX3_init 137 = .ok (.putfield 59, 3) := by decide +kernel
theorem dX3_init_140 : decode cX3_init 140 = .ok (.iconst 0, 1) := by decide +kernel
theorem dX3_init_141 : decode cX3_init 141 = .ok (.istore_n 1, 1) := by decide +kernel
theorem dX3_init_142 : decode cX3_init 142 = .ok (.iload_n 1, 1) := by decide +kernel
theorem dX3_init_143 : decode cX3_init 143 = .ok (.bipush 6, 2) := by decide +kernel
theorem dX3_init_145 : decode cX3_init 145 = .ok (.if_icmp .ge 31, 3) := by decide +kernel
theorem dX3_init_148 : decode cX3_init 148 = .ok (.aload_n 0, 1) := by decide +kernel
theorem dX3_init_149 : decode cX3_init 149 = .ok (.getfield 7, 3) := by decide +kernel
theorem dX3_init_152 : decode cX3_init 152 = .ok (.iload_n 1, 1) := by decide +kernel
theorem dX3_init_153 : decode cX3_init 153 = .ok (.iconst 2, 1) := by decide +kernel
theorem dX3_init_154 : decode cX3_init 154 = .ok (.iastore, 1) := by decide +kernel
theorem dX3_init_155 : decode cX3_init 155 = .ok (.aload_n 0, 1) := by decide +kernel
theorem dX3_init_156 : decode cX3_init 156 = .ok (.getfield 13, 3) := by decide +kernel
theorem dX3_init_159 : decode cX3_init 159 = .ok (.iload_n 1, 1) := by decide +kernel
theorem dX3_init_160 : decode cX3_init 160 = .ok (.iconst 5, 1) := by decide +kernel
theorem dX3_init_161 : decode cX3_init 161 = .ok (.iastore, 1) := by decide +kernel
theorem dX3_init_162 : decode cX3_init 162 = .ok (.aload_n 0, 1) := by decide +kernel
theorem dX3_init_163 : decode cX3_init 163 = .ok (.getfield 53, 3) := by decide +kernel
theorem dX3_init_166 : decode cX3_init 166 = .ok (.iload_n 1, 1) := by decide +kernel
theorem dX3_init_167 : decode cX3_init 167 = .ok (.bipush 10, 2) := by decide +kernel
theorem dX3_init_169 : decode cX3_init 169 = .ok (.iastore, 1) := by decide +kernel
theorem dX3_init_170 : decode cX3_init 170 = .ok (.iinc 1 1, 3) := by decide +kernel
theorem dX3_init_173 : decode cX3_init 173 = .ok (.goto (-31), 3) := by decide +kernel
theorem dX3_init_176 : decode cX3_init 176 = .ok (.iconst 0, 1) := by decide +kernel
theorem dX3_init_177 : decode cX3_init 177 = .ok (.istore_n 1, 1) := by decide +kernel
theorem dX3_init_178 : decode cX3_init 178 = .ok (.iload_n 1, 1) := by decide +kernel
theorem dX3_init_179 : decode cX3_init 179 = .ok (.bipush 8, 2) := by decide +kernel
theorem dX3_init_181 : decode cX3_init 181 = .ok (.if_icmp .ge 23, 3) := by decide +kernel
theorem dX3_init_184 : decode cX3_init 184 = .ok (.aload_n 0, 1) := by decide +kernel
theorem dX3_init_185 : decode cX3_init 185 = .ok (.getfield 35, 3) := by decide +kernel
theorem dX3_init_188 : decode cX3_init 188 = .ok (.iload_n 1, 1) := by decide +kernel
theorem dX3_init_189 : decode cX3_init 189 = .ok (.iconst (-1), 1) := by decide +kernel
theorem dX3_init_190 : decode cX3_init 190 = .ok (.iastore, 1) := by decide +kernel
theorem dX3_init_191 : decode cX3_init 191 = .ok (.aload_n 0, 1) := by decide +kernel
theorem dX3_init_192 : decode cX3_init 192 = .ok (.getfield 44, 3) := by decide +kernel
theorem dX3_init_195 : decode cX3_init 195 = .ok (.iload_n 1, 1) := by decide +kernel
theorem dX3_init_196 : decode cX3_init 196 = .ok (.iconst (-1), 1) := by decide +kernel
theorem dX3_init_197 : decode cX3_init 197 = .ok (.iastore, 1) := by decide +kernel
theorem dX3_init_198 : decode cX3_init 198 = .ok (.iinc 1 1, 3) := by decide +kernel
theorem dX3_init_201 : decode cX3_init 201 = .ok (.goto (-23), 3) := by decide +kernel
theorem dX3_init_204 : decode cX3_init 204 = .ok (.return_, 1) := by decide +kernel
theorem dX3_thrown_0 : decode cX3_thrown 0 = .ok (.aload_n 0, 1) := by decide +kernel
theorem dX3_thrown_1 : decode cX3_thrown 1 = .ok (.getfield 62, 3) := by decide +kernel
theorem dX3_thrown_4 : decode cX3_thrown 4 = .ok (.ireturn, 1) := by decide +kernel
theorem dX3_goes_0 : decode cX3_goes 0 = .ok (.aload_n 0, 1) := by decide +kernel
theorem dX3_goes_1 : decode cX3_goes 1 = .ok (.iload_n 1, 1) := by decide +kernel
theorem dX3_goes_2 : decode cX3_goes 2 = .ok (.ifCond .ne 7, 3) := by decide +kernel
theorem dX3_goes_5 : decode cX3_goes 5 = .ok (.iconst 1, 1) := by decide +kernel
theorem dX3_goes_6 : decode cX3_goes 6 = .ok (.goto 12, 3) := by decide +kernel
theorem dX3_goes_9 : decode cX3_goes 9 = .ok (.iload_n 2, 1) := by decide +kernel
theorem dX3_goes_10 : decode cX3_goes 10 = .ok (.ifCond .ne 7, 3) := by decide +kernel
theorem dX3_goes_13 : decode cX3_goes 13 = .ok (.iconst 2, 1) := by decide +kernel
theorem dX3_goes_14 : decode cX3_goes 14 = .ok (.goto 4, 3) := by decide +kernel
theorem dX3_goes_17 : decode cX3_goes 17 = .ok (.iconst 0, 1) := by decide +kernel
theorem dX3_goes_18 : decode cX3_goes 18 = .ok (.putfield 62, 3) := by decide +kernel
theorem dX3_goes_21 : decode cX3_goes 21 = .ok (.aload_n 0, 1) := by decide +kernel
theorem dX3_goes_22 : decode cX3_goes 22 = .ok (.getfield 62, 3) := by decide +kernel
theorem dX3_goes_25 : decode cX3_goes 25 = .ok (.ifCond .ne 7, 3) := by decide +kernel
theorem dX3_goes_28 : decode cX3_goes 28 = .ok (.iconst 1, 1) := by decide +kernel
theorem dX3_goes_29 : decode cX3_goes 29 = .ok (.goto 4, 3) := by decide +kernel
theorem dX3_goes_32 : decode cX3_goes 32 = .ok (.iconst 0, 1) := by decide +kernel
theorem dX3_goes_33 : decode cX3_goes 33 = .ok (.ireturn, 1) := by decide +kernel
theorem dX3_isPavilion_0 : decode cX3_isPavilion 0 = .ok (.iload_n 0, 1) := by decide +kernel
theorem dX3_isPavilion_1 : decode cX3_isPavilion 1 = .ok (.ifCond .lt 13, 3) := by decide +kernel
theorem dX3_isPavilion_4 : decode cX3_isPavilion 4 = .ok (.iload_n 0, 1) := by decide +kernel
theorem dX3_isPavilion_5 : decode cX3_isPavilion 5 = .ok (.bipush 6, 2) := by decide +kernel
theorem dX3_isPavilion_7 : decode cX3_isPavilion 7 = .ok (.if_icmp .ge 7, 3) := by decide +kernel
theorem dX3_isPavilion_10 : decode cX3_isPavilion 10 = .ok (.iconst 1, 1) := by decide +kernel
theorem dX3_isPavilion_11 : decode cX3_isPavilion 11 = .ok (.goto 4, 3) := by decide +kernel
theorem dX3_isPavilion_14 : decode cX3_isPavilion 14 = .ok (.iconst 0, 1) := by decide +kernel
theorem dX3_isPavilion_15 : decode cX3_isPavilion 15 = .ok (.ireturn, 1) := by decide +kernel
theorem dX3_isVisitor_0 : decode cX3_isVisitor 0 = .ok (.iload_n 0, 1) := by decide +kernel
theorem dX3_isVisitor_1 : decode cX3_isVisitor 1 = .ok (.ifCond .lt 13, 3) := by decide +kernel
theorem dX3_isVisitor_4 : decode cX3_isVisitor 4 = .ok (.iload_n 0, 1) := by decide +kernel
theorem dX3_isVisitor_5 : decode cX3_isVisitor 5 = .ok (.bipush 8, 2) := by decide +kernel
theorem dX3_isVisitor_7 : decode cX3_isVisitor 7 = .ok (.if_icmp .ge 7, 3) := by decide +kernel
theorem dX3_isVisitor_10 : decode cX3_isVisitor 10 = .ok (.iconst 1, 1) := by decide +kernel
theorem dX3_isVisitor_11 : decode cX3_isVisitor 11 = .ok (.goto 4, 3) := by decide +kernel
theorem dX3_isVisitor_14 : decode cX3_isVisitor 14 = .ok (.iconst 0, 1) := by decide +kernel
theorem dX3_isVisitor_15 : decode cX3_isVisitor 15 = .ok (.ireturn, 1) := by decide +kernel
theorem dX3_puts_0 : decode cX3_puts 0 = .ok (.aload_n 0, 1) := by decide +kernel
theorem dX3_puts_1 : decode cX3_puts 1 = .ok (.getfield 23, 3) := by decide +kernel
theorem dX3_puts_4 : decode cX3_puts 4 = .ok (.iload_n 1, 1) := by decide +kernel
theorem dX3_puts_5 : decode cX3_puts 5 = .ok (.iaload, 1) := by decide +kernel
theorem dX3_puts_6 : decode cX3_puts 6 = .ok (.istore 4, 2) := by decide +kernel
theorem dX3_puts_8 : decode cX3_puts 8 = .ok (.iload 4, 2) := by decide +kernel
theorem dX3_puts_10 : decode cX3_puts 10 = .ok (.iload_n 2, 1) := by decide +kernel
theorem dX3_puts_11 : decode cX3_puts 11 = .ok (.if_icmp .le 35, 3) := by decide +kernel
theorem dX3_puts_14 : decode cX3_puts 14 = .ok (.aload_n 0, 1) := by decide +kernel
theorem dX3_puts_15 : decode cX3_puts 15 = .ok (.getfield 20, 3) := by decide +kernel
theorem dX3_puts_18 : decode cX3_puts 18 = .ok (.bipush 8, 2) := by decide +kernel
theorem dX3_puts_20 : decode cX3_puts 20 = .ok (.iload_n 1, 1) := by decide +kernel
theorem dX3_puts_21 : decode cX3_puts 21 = .ok (.imul, 1) := by decide +kernel
theorem dX3_puts_22 : decode cX3_puts 22 = .ok (.iload 4, 2) := by decide +kernel
theorem dX3_puts_24 : decode cX3_puts 24 = .ok (.iadd, 1) := by decide +kernel
theorem dX3_puts_25 : decode cX3_puts 25 = .ok (.aload_n 0, 1) := by decide +kernel
theorem dX3_puts_26 : decode cX3_puts 26 = .ok (.getfield 20, 3) := by decide +kernel
theorem dX3_puts_29 : decode cX3_puts 29 = .ok (.bipush 8, 2) := by decide +kernel
theorem dX3_puts_31 : decode cX3_puts 31 = .ok (.iload_n 1, 1) := by decide +kernel
theorem dX3_puts_32 : decode cX3_puts 32 = .ok (.imul, 1) := by decide +kernel
theorem dX3_puts_33 : decode cX3_puts 33 = .ok (.iload 4, 2) := by decide +kernel
theorem dX3_puts_35 : decode cX3_puts 35 = .ok (.iadd, 1) := by decide +kernel
theorem dX3_puts_36 : decode cX3_puts 36 = .ok (.iconst 1, 1) := by decide +kernel
theorem dX3_puts_37 : decode cX3_puts 37 = .ok (.isub, 1) := by decide +kernel
theorem dX3_puts_38 : decode cX3_puts 38 = .ok (.iaload, 1) := by decide +kernel
theorem dX3_puts_39 : decode cX3_puts 39 = .ok (.iastore, 1) := by decide +kernel
theorem dX3_puts_40 : decode cX3_puts 40 = .ok (.iinc 4 (-1), 3) := by decide +kernel
theorem dX3_puts_43 : decode cX3_puts 43 = .ok (.goto (-35), 3) := by decide +kernel
theorem dX3_puts_46 : decode cX3_puts 46 = .ok (.aload_n 0, 1) := by decide +kernel
theorem dX3_puts_47 : decode cX3_puts 47 = .ok (.getfield 20, 3) := by decide +kernel
theorem dX3_puts_50 : decode cX3_puts 50 = .ok (.bipush 8, 2) := by decide +kernel
theorem dX3_puts_52 : decode cX3_puts 52 = .ok (.iload_n 1, 1) := by decide +kernel
theorem dX3_puts_53 : decode cX3_puts 53 = .ok (.imul, 1) := by decide +kernel
theorem dX3_puts_54 : decode cX3_puts 54 = .ok (.iload_n 2, 1) := by decide +kernel
theorem dX3_puts_55 : decode cX3_puts 55 = .ok (.iadd, 1) := by decide +kernel
theorem dX3_puts_56 : decode cX3_puts 56 = .ok (.iload_n 3, 1) := by decide +kernel
theorem dX3_puts_57 : decode cX3_puts 57 = .ok (.iastore, 1) := by decide +kernel
theorem dX3_puts_58 : decode cX3_puts 58 = .ok (.aload_n 0, 1) := by decide +kernel
theorem dX3_puts_59 : decode cX3_puts 59 = .ok (.getfield 23, 3) := by decide +kernel
theorem dX3_puts_62 : decode cX3_puts 62 = .ok (.iload_n 1, 1) := by decide +kernel
theorem dX3_puts_63 : decode cX3_puts 63 = .ok (.dup2, 1) := by decide +kernel
theorem dX3_puts_64 : decode cX3_puts 64 = .ok (.iaload, 1) := by decide +kernel
theorem dX3_puts_65 : decode cX3_puts 65 = .ok (.iconst 1, 1) := by decide +kernel
theorem dX3_puts_66 : decode cX3_puts 66 = .ok (.iadd, 1) := by decide +kernel
theorem dX3_puts_67 : decode cX3_puts 67 = .ok (.iastore, 1) := by decide +kernel
theorem dX3_puts_68 : decode cX3_puts 68 = .ok (.aload_n 0, 1) := by decide +kernel
theorem dX3_puts_69 : decode cX3_puts 69 = .ok (.getfield 32, 3) := by decide +kernel
theorem dX3_puts_72 : decode cX3_puts 72 = .ok (.iload_n 3, 1) := by decide +kernel
theorem dX3_puts_73 : decode cX3_puts 73 = .ok (.iconst 1, 1) := by decide +kernel
theorem dX3_puts_74 : decode cX3_puts 74 = .ok (.iastore, 1) := by decide +kernel
theorem dX3_puts_75 : decode cX3_puts 75 = .ok (.aload_n 0, 1) := by decide +kernel
theorem dX3_puts_76 : decode cX3_puts 76 = .ok (.getfield 35, 3) := by decide +kernel
theorem dX3_puts_79 : decode cX3_puts 79 = .ok (.iload_n 3, 1) := by decide +kernel
theorem dX3_puts_80 : decode cX3_puts 80 = .ok (.iload_n 1, 1) := by decide +kernel
theorem dX3_puts_81 : decode cX3_puts 81 = .ok (.iastore, 1) := by decide +kernel
theorem dX3_puts_82 : decode cX3_puts 82 = .ok (.return_, 1) := by decide +kernel
theorem dX3_placeIn_0 : decode cX3_placeIn 0 = .ok (.iconst (-1), 1) := by decide +kernel
theorem dX3_placeIn_1 : decode cX3_placeIn 1 = .ok (.istore_n 3, 1) := by decide +kernel
theorem dX3_placeIn_2 : decode cX3_placeIn 2 = .ok (.iconst 0, 1) := by decide +kernel
theorem dX3_placeIn_3 : decode cX3_placeIn 3 = .ok (.istore 4, 2) := by decide +kernel
theorem dX3_placeIn_5 : decode cX3_placeIn 5 = .ok (.iload 4, 2) := by decide +kernel
theorem dX3_placeIn_7 : decode cX3_placeIn 7 = .ok (.aload_n 0, 1) := by decide +kernel
theorem dX3_placeIn_8 : decode cX3_placeIn 8 = .ok (.getfield 23, 3) := by decide +kernel
theorem dX3_placeIn_11 : decode cX3_placeIn 11 = .ok (.iload_n 1, 1) := by decide +kernel
theorem dX3_placeIn_12 : decode cX3_placeIn 12 = .ok (.iaload, 1) := by decide +kernel
theorem dX3_placeIn_13 : decode cX3_placeIn 13 = .ok (.if_icmp .ge 32, 3) := by decide +kernel
theorem dX3_placeIn_16 : decode cX3_placeIn 16 = .ok (.aload_n 0, 1) := by decide +kernel
theorem dX3_placeIn_17 : decode cX3_placeIn 17 = .ok (.getfield 20, 3) := by decide +kernel
theorem dX3_placeIn_20 : decode cX3_placeIn 20 = .ok (.bipush 8, 2) := by decide +kernel
theorem dX3_placeIn_22 : decode cX3_placeIn 22 = .ok (.iload_n 1, 1) := by decide +kernel
theorem dX3_placeIn_23 : decode cX3_placeIn 23 = .ok (.imul, 1) := by decide +kernel
theorem dX3_placeIn_24 : decode cX3_placeIn 24 = .ok (.iload 4, 2) := by decide +kernel
theorem dX3_placeIn_26 : decode cX3_placeIn 26 = .ok (.iadd, 1) := by decide +kernel
theorem dX3_placeIn_27 : decode cX3_placeIn 27 = .ok (.iaload, 1) := by decide +kernel
theorem dX3_placeIn_28 : decode cX3_placeIn 28 = .ok (.iload_n 2, 1) := by decide +kernel
theorem dX3_placeIn_29 : decode cX3_placeIn 29 = .ok (.if_icmp .ne 8, 3) := by decide +kernel
theorem dX3_placeIn_32 : decode cX3_placeIn 32 = .ok (.iload 4, 2) := by decide +kernel
theorem dX3_placeIn_34 : decode cX3_placeIn 34 = .ok (.goto 4, 3) := by decide +kernel
theorem dX3_placeIn_37 : decode cX3_placeIn 37 = .ok (.iload_n 3, 1) := by decide +kernel
theorem dX3_placeIn_38 : decode cX3_placeIn 38 = .ok (.istore_n 3, 1) := by decide +kernel
theorem dX3_placeIn_39 : decode cX3_placeIn 39 = .ok (.iinc 4 1, 3) := by decide +kernel
theorem dX3_placeIn_42 : decode cX3_placeIn 42 = .ok (.goto (-37), 3) := by decide +kernel
theorem dX3_placeIn_45 : decode cX3_placeIn 45 = .ok (.iload_n 3, 1) := by decide +kernel
theorem dX3_placeIn_46 : decode cX3_placeIn 46 = .ok (.ireturn, 1) := by decide +kernel
set_option maxRecDepth 20000 in
theorem ggX3_leaves_X3_placeIn : GoodIn wsX3_leaves wsX3_placeIn := goodIn_r _ [9, 2, 3, 10, 11, 12, 13, 14, 15, 16, 17, 18, 19, 20, 21, 22, 23, 24, 25, 26, 27, 28] (by decide +kernel) (by decide +kernel)
set_option maxRecDepth 20000 in
theorem gX3_leaves_X3_placeIn : GoodIn wsX3_leaves (wsV RX3 66 RX3 yX3_placeIn wsX3_placeIn) := goodIn_app (goodIn_of _ (by decide +kernel)) ggX3_leaves_X3_placeIn
theorem dX3_leaves_0 : decode cX3_leaves 0 = .ok (.aload_n 0, 1) := by decide +kernel
theorem dX3_leaves_1 : decode cX3_leaves 1 = .ok (.getfield 35, 3) := by decide +kernel
theorem dX3_leaves_4 : decode cX3_leaves 4 = .ok (.iload_n 1, 1) := by decide +kernel
theorem dX3_leaves_5 : decode cX3_leaves 5 = .ok (.iaload, 1) := by decide +kernel
theorem dX3_leaves_6 : decode cX3_leaves 6 = .ok (.istore_n 2, 1) := by decide +kernel
theorem dX3_leaves_7 : decode cX3_leaves 7 = .ok (.aload_n 0, 1) := by decide +kernel
theorem dX3_leaves_8 : decode cX3_leaves 8 = .ok (.iload_n 2, 1) := by decide +kernel
theorem dX3_leaves_9 : decode cX3_leaves 9 = .ok (.iload_n 1, 1) := by decide +kernel
theorem dX3_leaves_10 : decode cX3_leaves 10 = .ok (.invokevirtual 66, 3) := by decide +kernel
theorem dX3_leaves_13 : decode cX3_leaves 13 = .ok (.istore_n 3, 1) := by decide +kernel
theorem dX3_leaves_14 : decode cX3_leaves 14 = .ok (.aload_n 0, 1) := by decide +kernel
theorem dX3_leaves_15 : decode cX3_leaves 15 = .ok (.getfield 23, 3) := by decide +kernel
theorem dX3_leaves_18 : decode cX3_leaves 18 = .ok (.iload_n 2, 1) := by decide +kernel
theorem dX3_leaves_19 : decode cX3_leaves 19 = .ok (.dup2, 1) := by decide +kernel
theorem dX3_leaves_20 : decode cX3_leaves 20 = .ok (.iaload, 1) := by decide +kernel
theorem dX3_leaves_21 : decode cX3_leaves 21 = .ok (.iconst 1, 1) := by decide +kernel
theorem dX3_leaves_22 : decode cX3_leaves 22 = .ok (.isub, 1) := by decide +kernel
theorem dX3_leaves_23 : decode cX3_leaves 23 = .ok (.iastore, 1) := by decide +kernel
theorem dX3_leaves_24 : decode cX3_leaves 24 = .ok (.iload_n 3, 1) := by decide +kernel
theorem dX3_leaves_25 : decode cX3_leaves 25 = .ok (.istore 4, 2) := by decide +kernel
theorem dX3_leaves_27 : decode cX3_leaves 27 = .ok (.iload 4, 2) := by decide +kernel
theorem dX3_leaves_29 : decode cX3_leaves 29 = .ok (.aload_n 0, 1) := by decide +kernel
theorem dX3_leaves_30 : decode cX3_leaves 30 = .ok (.getfield 23, 3) := by decide +kernel
theorem dX3_leaves_33 : decode cX3_leaves 33 = .ok (.iload_n 2, 1) := by decide +kernel
theorem dX3_leaves_34 : decode cX3_leaves 34 = .ok (.iaload, 1) := by decide +kernel
theorem dX3_leaves_35 : decode cX3_leaves 35 = .ok (.if_icmp .ge 35, 3) := by decide +kernel
theorem dX3_leaves_38 : decode cX3_leaves 38 = .ok (.aload_n 0, 1) := by decide +kernel
theorem dX3_leaves_39 : decode cX3_leaves 39 = .ok (.getfield 20, 3) := by decide +kernel
theorem dX3_leaves_42 : decode cX3_leaves 42 = .ok (.bipush 8, 2) := by decide +kernel
theorem dX3_leaves_44 : decode cX3_leaves 44 = .ok (.iload_n 2, 1) := by decide +kernel
theorem dX3_leaves_45 : decode cX3_leaves 45 = .ok (.imul, 1) := by decide +kernel
theorem dX3_leaves_46 : decode cX3_leaves 46 = .ok (.iload 4, 2) := by decide +kernel
theorem dX3_leaves_48 : decode cX3_leaves 48 = .ok (.iadd, 1) := by decide +kernel
theorem dX3_leaves_49 : decode cX3_leaves 49 = .ok (.aload_n 0, 1) := by decide +kernel
theorem dX3_leaves_50 : decode cX3_leaves 50 = .ok (.getfield 20, 3) := by decide +kernel
theorem dX3_leaves_53 : decode cX3_leaves 53 = .ok (.bipush 8, 2) := by decide +kernel
theorem dX3_leaves_55 : decode cX3_leaves 55 = .ok (.iload_n 2, 1) := by decide +kernel
theorem dX3_leaves_56 : decode cX3_leaves 56 = .ok (.imul, 1) := by decide +kernel
theorem dX3_leaves_57 : decode cX3_leaves 57 = .ok (.iload 4, 2) := by decide +kernel
theorem dX3_leaves_59 : decode cX3_leaves 59 = .ok (.iadd, 1) := by decide +kernel
theorem dX3_leaves_60 : decode cX3_leaves 60 = .ok (.iconst 1, 1) := by decide +kernel
theorem dX3_leaves_61 : decode cX3_leaves 61 = .ok (.iadd, 1) := by decide +kernel
theorem dX3_leaves_62 : decode cX3_leaves 62 = .ok (.iaload, 1) := by decide +kernel
theorem dX3_leaves_63 : decode cX3_leaves 63 = .ok (.iastore, 1) := by decide +kernel
theorem dX3_leaves_64 : decode cX3_leaves 64 = .ok (.iinc 4 1, 3) := by decide +kernel
theorem dX3_leaves_67 : decode cX3_leaves 67 = .ok (.goto (-40), 3) := by decide +kernel
theorem dX3_leaves_70 : decode cX3_leaves 70 = .ok (.aload_n 0, 1) := by decide +kernel
theorem dX3_leaves_71 : decode cX3_leaves 71 = .ok (.getfield 32, 3) := by decide +kernel
theorem dX3_leaves_74 : decode cX3_leaves 74 = .ok (.iload_n 1, 1) := by decide +kernel
theorem dX3_leaves_75 : decode cX3_leaves 75 = .ok (.iconst 0, 1) := by decide +kernel
theorem dX3_leaves_76 : decode cX3_leaves 76 = .ok (.iastore, 1) := by decide +kernel
theorem dX3_leaves_77 : decode cX3_leaves 77 = .ok (.aload_n 0, 1) := by decide +kernel
theorem dX3_leaves_78 : decode cX3_leaves 78 = .ok (.getfield 35, 3) := by decide +kernel
theorem dX3_leaves_81 : decode cX3_leaves 81 = .ok (.iload_n 1, 1) := by decide +kernel
theorem dX3_leaves_82 : decode cX3_leaves 82 = .ok (.iconst (-1), 1) := by decide +kernel
theorem dX3_leaves_83 : decode cX3_leaves 83 = .ok (.iastore, 1) := by decide +kernel
theorem dX3_leaves_84 : decode cX3_leaves 84 = .ok (.return_, 1) := by decide +kernel
theorem dX3_loses_0 : decode cX3_loses 0 = .ok (.aload_n 0, 1) := by decide +kernel
theorem dX3_loses_1 : decode cX3_loses 1 = .ok (.getfield 44, 3) := by decide +kernel
theorem dX3_loses_4 : decode cX3_loses 4 = .ok (.iload_n 1, 1) := by decide +kernel
theorem dX3_loses_5 : decode cX3_loses 5 = .ok (.iconst (-1), 1) := by decide +kernel
theorem dX3_loses_6 : decode cX3_loses 6 = .ok (.iastore, 1) := by decide +kernel
theorem dX3_loses_7 : decode cX3_loses 7 = .ok (.aload_n 0, 1) := by decide +kernel
theorem dX3_loses_8 : decode cX3_loses 8 = .ok (.getfield 50, 3) := by decide +kernel
theorem dX3_loses_11 : decode cX3_loses 11 = .ok (.iload_n 1, 1) := by decide +kernel
theorem dX3_loses_12 : decode cX3_loses 12 = .ok (.iconst 0, 1) := by decide +kernel
theorem dX3_loses_13 : decode cX3_loses 13 = .ok (.bastore, 1) := by decide +kernel
theorem dX3_loses_14 : decode cX3_loses 14 = .ok (.return_, 1) := by decide +kernel
theorem dX3_insideOf_0 : decode cX3_insideOf 0 = .ok (.iconst 0, 1) := by decide +kernel
theorem dX3_insideOf_1 : decode cX3_insideOf 1 = .ok (.istore_n 2, 1) := by decide +kernel
theorem dX3_insideOf_2 : decode cX3_insideOf 2 = .ok (.iconst 0, 1) := by decide +kernel
theorem dX3_insideOf_3 : decode cX3_insideOf 3 = .ok (.istore_n 3, 1) := by decide +kernel
theorem dX3_insideOf_4 : decode cX3_insideOf 4 = .ok (.iload_n 3, 1) := by decide +kernel
theorem dX3_insideOf_5 : decode cX3_insideOf 5 = .ok (.bipush 8, 2) := by decide +kernel
theorem dX3_insideOf_7 : decode cX3_insideOf 7 = .ok (.if_icmp .ge 37, 3) := by decide +kernel
theorem dX3_insideOf_10 : decode cX3_insideOf 10 = .ok (.iload_n 2, 1) := by decide +kernel
theorem dX3_insideOf_11 : decode cX3_insideOf 11 = .ok (.aload_n 0, 1) := by decide +kernel
theorem dX3_insideOf_12 : decode cX3_insideOf 12 = .ok (.getfield 32, 3) := by decide +kernel
theorem dX3_insideOf_15 : decode cX3_insideOf 15 = .ok (.iload_n 3, 1) := by decide +kernel
theorem dX3_insideOf_16 : decode cX3_insideOf 16 = .ok (.iaload, 1) := by decide +kernel
theorem dX3_insideOf_17 : decode cX3_insideOf 17 = .ok (.iconst 2, 1) := by decide +kernel
theorem dX3_insideOf_18 : decode cX3_insideOf 18 = .ok (.if_icmp .ne 17, 3) := by decide +kernel
theorem dX3_insideOf_21 : decode cX3_insideOf 21 = .ok (.aload_n 0, 1) := by decide +kernel
theorem dX3_insideOf_22 : decode cX3_insideOf 22 = .ok (.getfield 35, 3) := by decide +kernel
theorem dX3_insideOf_25 : decode cX3_insideOf 25 = .ok (.iload_n 3, 1) := by decide +kernel
theorem dX3_insideOf_26 : decode cX3_insideOf 26 = .ok (.iaload, 1) := by decide +kernel
theorem dX3_insideOf_27 : decode cX3_insideOf 27 = .ok (.iload_n 1, 1) := by decide +kernel
theorem dX3_insideOf_28 : decode cX3_insideOf 28 = .ok (.if_icmp .ne 7, 3) := by decide +kernel
theorem dX3_insideOf_31 : decode cX3_insideOf 31 = .ok (.iconst 1, 1) := by decide +kernel
theorem dX3_insideOf_32 : decode cX3_insideOf 32 = .ok (.goto 4, 3) := by decide +kernel
theorem dX3_insideOf_35 : decode cX3_insideOf 35 = .ok (.iconst 0, 1) := by decide +kernel
theorem dX3_insideOf_36 : decode cX3_insideOf 36 = .ok (.iadd, 1) := by decide +kernel
theorem dX3_insideOf_37 : decode cX3_insideOf 37 = .ok (.istore_n 2, 1) := by decide +kernel
theorem dX3_insideOf_38 : decode cX3_insideOf 38 = .ok (.iinc 3 1, 3) := by decide +kernel
theorem dX3_insideOf_41 : decode cX3_insideOf 41 = .ok (.goto (-37), 3) := by decide +kernel
theorem dX3_insideOf_44 : decode cX3_insideOf 44 = .ok (.iload_n 2, 1) := by decide +kernel
theorem dX3_insideOf_45 : decode cX3_insideOf 45 = .ok (.ireturn, 1) := by decide +kernel
set_option maxRecDepth 20000 in
theorem ggX3_setPavilion_X3_isPavilion : GoodIn wsX3_setPavilion wsX3_isPavilion := goodIn_r _ [6] (by decide +kernel) (by decide +kernel)
set_option maxRecDepth 20000 in
theorem gX3_setPavilion_X3_isPavilion : GoodIn wsX3_setPavilion (va_wsS RX3 70 yX3_isPavilion wsX3_isPavilion) := goodIn_app (goodIn_of _ (by decide +kernel)) ggX3_setPavilion_X3_isPavilion
set_option maxRecDepth 20000 in
theorem ggX3_setPavilion_X3_goes : GoodIn wsX3_setPavilion wsX3_goes := goodIn_r _ [10, 11, 12, 13, 14, 15, 16, 17, 18, 19, 20, 21, 22, 23, 24, 25, 26, 27, 28, 29, 30] (by decide +kernel) (by decide +kernel)
set_option maxRecDepth 20000 in
theorem gX3_setPavilion_X3_goes : GoodIn wsX3_setPavilion (wsV RX3 74 RX3 yX3_goes wsX3_goes) := goodIn_app (goodIn_of _ (by decide +kernel)) ggX3_setPavilion_X3_goes
theorem dX3_setPavilion_0 : decode cX3_setPavilion 0 = .ok (.aload_n 0, 1) := by decide +kernel
theorem dX3_setPavilion_1 : decode cX3_setPavilion 1 = .ok (.iload_n 1, 1) := by decide +kernel
theorem dX3_setPavilion_2 : decode cX3_setPavilion 2 = .ok (.invokestatic 70, 3) := by decide +kernel
theorem dX3_setPavilion_5 : decode cX3_setPavilion 5 = .ok (.iload_n 2, 1) := by decide +kernel
theorem dX3_setPavilion_6 : decode cX3_setPavilion 6 = .ok (.iconst 1, 1) := by decide +kernel
theorem dX3_setPavilion_7 : decode cX3_setPavilion 7 = .ok (.if_icmp .lt 24, 3) := by decide +kernel
theorem dX3_setPavilion_10 : decode cX3_setPavilion 10 = .ok (.iload_n 2, 1) := by decide +kernel
theorem dX3_setPavilion_11 : decode cX3_setPavilion 11 = .ok (.bipush 8, 2) := by decide +kernel
theorem dX3_setPavilion_13 : decode cX3_setPavilion 13 = .ok (.if_icmp .gt 18, 3) := by decide +kernel
theorem dX3_setPavilion_16 : decode cX3_setPavilion 16 = .ok (.iload_n 3, 1) := by decide +kernel
theorem dX3_setPavilion_17 : decode cX3_setPavilion 17 = .ok (.iconst 1, 1) := by decide +kernel
theorem dX3_setPavilion_18 : decode cX3_setPavilion 18 = .ok (.if_icmp .lt 13, 3) := by decide +kernel
theorem dX3_setPavilion_21 : decode cX3_setPavilion 21 = .ok (.iload_n 3, 1) := by decide +kernel
theorem dX3_setPavilion_22 : decode cX3_setPavilion 22 = .ok (.bipush 60, 2) := by decide +kernel
theorem dX3_setPavilion_24 : decode cX3_setPavilion 24 = .ok (.if_icmp .gt 7, 3) := by decide +kernel
theorem dX3_setPavilion_27 : decode cX3_setPavilion 27 = .ok (.iconst 1, 1) := by decide +kernel
theorem dX3_setPavilion_28 : decode cX3_setPavilion 28 = .ok (.goto 4, 3) := by decide +kernel
theorem dX3_setPavilion_31 : decode cX3_setPavilion 31 = .ok (.iconst 0, 1) := by decide +kernel
theorem dX3_setPavilion_32 : decode cX3_setPavilion 32 = .ok (.invokevirtual 74, 3) := by decide +kernel
theorem dX3_setPavilion_35 : decode cX3_setPavilion 35 = .ok (.ifCond .eq 17, 3) := by decide +kernel
theorem dX3_setPavilion_38 : decode cX3_setPavilion 38 = .ok (.aload_n 0, 1) := by decide +kernel
theorem dX3_setPavilion_39 : decode cX3_setPavilion 39 = .ok (.getfield 7, 3) := by decide +kernel
theorem dX3_setPavilion_42 : decode cX3_setPavilion 42 = .ok (.iload_n 1, 1) := by decide +kernel
theorem dX3_setPavilion_43 : decode cX3_setPavilion 43 = .ok (.iload_n 2, 1) := by decide +kernel
theorem dX3_setPavilion_44 : decode cX3_setPavilion 44 = .ok (.iastore, 1) := by decide +kernel
theorem dX3_setPavilion_45 : decode cX3_setPavilion 45 = .ok (.aload_n 0, 1) := by decide +kernel
theorem dX3_setPavilion_46 : decode cX3_setPavilion 46 = .ok (.getfield 13, 3) := by decide +kernel
theorem dX3_setPavilion_49 : decode cX3_setPavilion 49 = .ok (.iload_n 1, 1) := by decide +kernel
theorem dX3_setPavilion_50 : decode cX3_setPavilion 50 = .ok (.iload_n 3, 1) := by decide +kernel
theorem dX3_setPavilion_51 : decode cX3_setPavilion 51 = .ok (.iastore, 1) := by decide +kernel
theorem dX3_setPavilion_52 : decode cX3_setPavilion 52 = .ok (.return_, 1) := by decide +kernel
set_option maxRecDepth 20000 in
theorem ggX3_open_X3_isPavilion : GoodIn wsX3_open wsX3_isPavilion := goodIn_r _ [8] (by decide +kernel) (by decide +kernel)
set_option maxRecDepth 20000 in
theorem gX3_open_X3_isPavilion : GoodIn wsX3_open (va_wsS RX3 70 yX3_isPavilion wsX3_isPavilion) := goodIn_app (goodIn_of _ (by decide +kernel)) ggX3_open_X3_isPavilion
set_option maxRecDepth 20000 in
theorem ggX3_open_X3_goes : GoodIn wsX3_open wsX3_goes := goodIn_r _ [12, 13, 29, 30, 31, 32, 33, 34, 35, 36, 37, 38, 39, 40, 41, 42, 43, 44, 45, 46, 47] (by decide +kernel) (by decide +kernel)
set_option maxRecDepth 20000 in
theorem gX3_open_X3_goes : GoodIn wsX3_open (wsV RX3 74 RX3 yX3_goes wsX3_goes) := goodIn_app (goodIn_of _ (by decide +kernel)) ggX3_open_X3_goes
set_option maxRecDepth 20000 in
theorem ggX3_open_X3_leaves : GoodIn wsX3_open wsX3_leaves := goodIn_r _ [17, 18, 2, 3, 19, 20, 21, 22, 7, 23, 29, 30, 31, 32, 33, 34, 35, 36, 37, 38, 39, 40, 41, 42, 43, 44, 45, 46, 47] (by decide +kernel) (by decide +kernel)
set_option maxRecDepth 20000 in
theorem gX3_open_X3_leaves : GoodIn wsX3_open (wsV RX3 78 RX3 yX3_leaves wsX3_leaves) := goodIn_app (goodIn_of _ (by decide +kernel)) ggX3_open_X3_leaves
set_option maxRecDepth 20000 in
theorem ggX3_open_X3_loses : GoodIn wsX3_open wsX3_loses := goodIn_r _ [27, 28, 4, 29, 30, 31, 32, 33, 34, 35, 36, 37, 38, 39, 40, 41, 42, 43, 44, 45, 46, 47] (by decide +kernel) (by decide +kernel)
set_option maxRecDepth 20000 in
theorem gX3_open_X3_loses : GoodIn wsX3_open (wsV RX3 82 RX3 yX3_loses wsX3_loses) := goodIn_app (goodIn_of _ (by decide +kernel)) ggX3_open_X3_loses
theorem dX3_open_0 : decode cX3_open 0 = .ok (.aload_n 0, 1) := by decide +kernel
theorem dX3_open_1 : decode cX3_open 1 = .ok (.iload_n 1, 1) := by decide +kernel
theorem dX3_open_2 : decode cX3_open 2 = .ok (.invokestatic 70, 3) := by decide +kernel
theorem dX3_open_5 : decode cX3_open 5 = .ok (.iconst 1, 1) := by decide +kernel
theorem dX3_open_6 : decode cX3_open 6 = .ok (.invokevirtual 74, 3) := by decide +kernel
theorem dX3_open_9 : decode cX3_open 9 = .ok (.ifCond .ne 5, 3) := by decide +kernel
theorem dX3_open_12 : decode cX3_open 12 = .ok (.iconst 0, 1) := by decide +kernel
theorem dX3_open_13 : decode cX3_open 13 = .ok (.ireturn, 1) := by decide +kernel
theorem dX3_open_14 : decode cX3_open 14 = .ok (.iconst 0, 1) := by decide +kernel
theorem dX3_open_15 : decode cX3_open 15 = .ok (.istore_n 3, 1) := by decide +kernel
theorem dX3_open_16 : decode cX3_open 16 = .ok (.aload_n 0, 1) := by decide +kernel
theorem dX3_open_17 : decode cX3_open 17 = .ok (.getfield 16, 3) := by decide +kernel
theorem dX3_open_20 : decode cX3_open 20 = .ok (.iload_n 1, 1) := by decide +kernel
theorem dX3_open_21 : decode cX3_open 21 = .ok (.iload_n 2, 1) := by decide +kernel
theorem dX3_open_22 : decode cX3_open 22 = .ok (.ifCond .ne 7, 3) := by decide +kernel
theorem dX3_open_25 : decode cX3_open 25 = .ok (.iconst 1, 1) := by decide +kernel
theorem dX3_open_26 : decode cX3_open 26 = .ok (.goto 4, 3) := by decide +kernel
theorem dX3_open_29 : decode cX3_open 29 = .ok (.iconst 0, 1) := by decide +kernel
theorem dX3_open_30 : decode cX3_open 30 = .ok (.bastore, 1) := by decide +kernel
theorem dX3_open_31 : decode cX3_open 31 = .ok (.iload_n 2, 1) := by decide +kernel
theorem dX3_open_32 : decode cX3_open 32 = .ok (.ifCond .ne 51, 3) := by decide +kernel
theorem dX3_open_35 : decode cX3_open 35 = .ok (.aload_n 0, 1) := by decide +kernel
theorem dX3_open_36 : decode cX3_open 36 = .ok (.getfield 23, 3) := by decide +kernel
theorem dX3_open_39 : decode cX3_open 39 = .ok (.iload_n 1, 1) := by decide +kernel
theorem dX3_open_40 : decode cX3_open 40 = .ok (.iaload, 1) := by decide +kernel
theorem dX3_open_41 : decode cX3_open 41 = .ok (.ifCond .le 42, 3) := by decide +kernel
theorem dX3_open_44 : decode cX3_open 44 = .ok (.aload_n 0, 1) := by decide +kernel
theorem dX3_open_45 : decode cX3_open 45 = .ok (.getfield 20, 3) := by decide +kernel
theorem dX3_open_48 : decode cX3_open 48 = .ok (.bipush 8, 2) := by decide +kernel
theorem dX3_open_50 : decode cX3_open 50 = .ok (.iload_n 1, 1) := by decide +kernel
theorem dX3_open_51 : decode cX3_open 51 = .ok (.imul, 1) := by decide +kernel
theorem dX3_open_52 : decode cX3_open 52 = .ok (.iaload, 1) := by decide +kernel
theorem dX3_open_53 : decode cX3_open 53 = .ok (.istore 4, 2) := by decide +kernel
theorem dX3_open_55 : decode cX3_open 55 = .ok (.aload_n 0, 1) := by decide +kernel
theorem dX3_open_56 : decode cX3_open 56 = .ok (.iload 4, 2) := by decide +kernel
theorem dX3_open_58 : decode cX3_open 58 = .ok (.invokevirtual 78, 3) := by decide +kernel
theorem dX3_open_61 : decode cX3_open 61 = .ok (.aload_n 0, 1) := by decide +kernel
theorem dX3_open_62 : decode cX3_open 62 = .ok (.getfield 50, 3) := by decide +kernel
theorem dX3_open_65 : decode cX3_open 65 = .ok (.iload 4, 2) := by decide +kernel
theorem dX3_open_67 : decode cX3_open 67 = .ok (.baload, 1) := by decide +kernel
theorem dX3_open_68 : decode cX3_open 68 = .ok (.ifCond .eq 9, 3) := by decide +kernel
theorem dX3_open_71 : decode cX3_open 71 = .ok (.aload_n 0, 1) := by decide +kernel
theorem dX3_open_72 : decode cX3_open 72 = .ok (.iload 4, 2) := by decide +kernel
theorem dX3_open_74 : decode cX3_open 74 = .ok (.invokevirtual 82, 3) := by decide +kernel
theorem dX3_open_77 : decode cX3_open 77 = .ok (.iinc 3 1, 3) := by decide +kernel
theorem dX3_open_80 : decode cX3_open 80 = .ok (.goto (-49), 3) := by decide +kernel
theorem dX3_open_83 : decode cX3_open 83 = .ok (.iload_n 3, 1) := by decide +kernel
theorem dX3_open_84 : decode cX3_open 84 = .ok (.ireturn, 1) := by decide +kernel
theorem dX3_placeInPlan_0 : decode cX3_placeInPlan 0 = .ok (.iconst (-1), 1) := by decide +kernel
theorem dX3_placeInPlan_1 : decode cX3_placeInPlan 1 = .ok (.istore_n 3, 1) := by decide +kernel
theorem dX3_placeInPlan_2 : decode cX3_placeInPlan 2 = .ok (.iconst 0, 1) := by decide +kernel
theorem dX3_placeInPlan_3 : decode cX3_placeInPlan 3 = .ok (.istore 4, 2) := by decide +kernel
theorem dX3_placeInPlan_5 : decode cX3_placeInPlan 5 = .ok (.iload 4, 2) := by decide +kernel
theorem dX3_placeInPlan_7 : decode cX3_placeInPlan 7 = .ok (.aload_n 0, 1) := by decide +kernel
theorem dX3_placeInPlan_8 : decode cX3_placeInPlan 8 = .ok (.getfield 29, 3) := by decide +kernel
theorem dX3_placeInPlan_11 : decode cX3_placeInPlan 11 = .ok (.iload_n 1, 1) := by decide +kernel
theorem dX3_placeInPlan_12 : decode cX3_placeInPlan 12 = .ok (.iaload, 1) := by decide +kernel
theorem dX3_placeInPlan_13 : decode cX3_placeInPlan 13 = .ok (.if_icmp .ge 32, 3) := by decide +kernel
theorem dX3_placeInPlan_16 : decode cX3_placeInPlan 16 = .ok (.aload_n 0, 1) := by decide +kernel
theorem dX3_placeInPlan_17 : decode cX3_placeInPlan 17 = .ok (.getfield 26, 3) := by decide +kernel
theorem dX3_placeInPlan_20 : decode cX3_placeInPlan 20 = .ok (.bipush 6, 2) := by decide +kernel
theorem dX3_placeInPlan_22 : decode cX3_placeInPlan 22 = .ok (.iload_n 1, 1) := by decide +kernel
theorem dX3_placeInPlan_23 : decode cX3_placeInPlan 23 = .ok (.imul, 1) := by decide +kernel
theorem dX3_placeInPlan_24 : decode cX3_placeInPlan 24 = .ok (.iload 4, 2) := by decide +kernel
theorem dX3_placeInPlan_26 : decode cX3_placeInPlan 26 = .ok (.iadd, 1) := by decide +kernel
theorem dX3_placeInPlan_27 : decode cX3_placeInPlan 27 = .ok (.iaload, 1) := by decide +kernel
theorem dX3_placeInPlan_28 : decode cX3_placeInPlan 28 = .ok (.iload_n 2, 1) := by decide +kernel
theorem dX3_placeInPlan_29 : decode cX3_placeInPlan 29 = .ok (.if_icmp .ne 8, 3) := by decide +kernel
theorem dX3_placeInPlan_32 : decode cX3_placeInPlan 32 = .ok (.iload 4, 2) := by decide +kernel
theorem dX3_placeInPlan_34 : decode cX3_placeInPlan 34 = .ok (.goto 4, 3) := by decide +kernel
theorem dX3_placeInPlan_37 : decode cX3_placeInPlan 37 = .ok (.iload_n 3, 1) := by decide +kernel
theorem dX3_placeInPlan_38 : decode cX3_placeInPlan 38 = .ok (.istore_n 3, 1) := by decide +kernel
theorem dX3_placeInPlan_39 : decode cX3_placeInPlan 39 = .ok (.iinc 4 1, 3) := by decide +kernel
theorem dX3_placeInPlan_42 : decode cX3_placeInPlan 42 = .ok (.goto (-37), 3) := by decide +kernel
theorem dX3_placeInPlan_45 : decode cX3_placeInPlan 45 = .ok (.iload_n 3, 1) := by decide +kernel
theorem dX3_placeInPlan_46 : decode cX3_placeInPlan 46 = .ok (.ireturn, 1) := by decide +kernel
set_option maxRecDepth 20000 in
theorem ggX3_plan_X3_isVisitor : GoodIn wsX3_plan wsX3_isVisitor := goodIn_r _ [6] (by decide +kernel) (by decide +kernel)
set_option maxRecDepth 20000 in
theorem gX3_plan_X3_isVisitor : GoodIn wsX3_plan (va_wsS RX3 85 yX3_isVisitor wsX3_isVisitor) := goodIn_app (goodIn_of _ (by decide +kernel)) ggX3_plan_X3_isVisitor
set_option maxRecDepth 20000 in
theorem ggX3_plan_X3_isPavilion : GoodIn wsX3_plan wsX3_isPavilion := goodIn_r _ [9] (by decide +kernel) (by decide +kernel)
set_option maxRecDepth 20000 in
theorem gX3_plan_X3_isPavilion : GoodIn wsX3_plan (va_wsS RX3 70 yX3_isPavilion wsX3_isPavilion) := goodIn_app (goodIn_of _ (by decide +kernel)) ggX3_plan_X3_isPavilion
set_option maxRecDepth 20000 in
theorem ggX3_plan_X3_placeInPlan : GoodIn wsX3_plan wsX3_placeInPlan := goodIn_r _ [13, 2, 1, 19, 20, 21, 22, 23, 24, 25, 26, 27, 28, 29, 30, 31, 32, 33, 34, 35, 36, 37] (by decide +kernel) (by decide +kernel)
set_option maxRecDepth 20000 in
theorem gX3_plan_X3_placeInPlan : GoodIn wsX3_plan (wsV RX3 88 RX3 yX3_placeInPlan wsX3_placeInPlan) := goodIn_app (goodIn_of _ (by decide +kernel)) ggX3_plan_X3_placeInPlan
set_option maxRecDepth 20000 in
theorem ggX3_plan_X3_goes : GoodIn wsX3_plan wsX3_goes := goodIn_r _ [17, 18, 19, 20, 21, 22, 23, 24, 25, 26, 27, 28, 29, 30, 31, 32, 33, 34, 35, 36, 37] (by decide +kernel) (by decide +kernel)
set_option maxRecDepth 20000 in
theorem gX3_plan_X3_goes : GoodIn wsX3_plan (wsV RX3 74 RX3 yX3_goes wsX3_goes) := goodIn_app (goodIn_of _ (by decide +kernel)) ggX3_plan_X3_goes
theorem dX3_plan_0 : decode cX3_plan 0 = .ok (.iload_n 1, 1) := by decide +kernel
theorem dX3_plan_1 : decode cX3_plan 1 = .ok (.invokestatic 85, 3) := by decide +kernel
theorem dX3_plan_4 : decode cX3_plan 4 = .ok (.ifCond .eq 14, 3) := by decide +kernel
theorem dX3_plan_7 : decode cX3_plan 7 = .ok (.iload_n 2, 1) := by decide +kernel
theorem dX3_plan_8 : decode cX3_plan 8 = .ok (.invokestatic 70, 3) := by decide +kernel
theorem dX3_plan_11 : decode cX3_plan 11 = .ok (.ifCond .eq 7, 3) := by decide +kernel
theorem dX3_plan_14 : decode cX3_plan 14 = .ok (.iconst 1, 1) := by decide +kernel
theorem dX3_plan_15 : decode cX3_plan 15 = .ok (.goto 4, 3) := by decide +kernel
theorem dX3_plan_18 : decode cX3_plan 18 = .ok (.iconst 0, 1) := by decide +kernel
theorem dX3_plan_19 : decode cX3_plan 19 = .ok (.istore_n 3, 1) := by decide +kernel
theorem dX3_plan_20 : decode cX3_plan 20 = .ok (.aload_n 0, 1) := by decide +kernel
theorem dX3_plan_21 : decode cX3_plan 21 = .ok (.iload_n 3, 1) := by decide +kernel
theorem dX3_plan_22 : decode cX3_plan 22 = .ok (.iload_n 3, 1) := by decide +kernel
theorem dX3_plan_23 : decode cX3_plan 23 = .ok (.ifCond .eq 16, 3) := by decide +kernel
theorem dX3_plan_26 : decode cX3_plan 26 = .ok (.aload_n 0, 1) := by decide +kernel
theorem dX3_plan_27 : decode cX3_plan 27 = .ok (.iload_n 1, 1) := by decide +kernel
theorem dX3_plan_28 : decode cX3_plan 28 = .ok (.iload_n 2, 1) := by decide +kernel
theorem dX3_plan_29 : decode cX3_plan 29 = .ok (.invokevirtual 88, 3) := by decide +kernel
theorem dX3_plan_32 : decode cX3_plan 32 = .ok (.ifCond .ge 7, 3) := by decide +kernel
theorem dX3_plan_35 : decode cX3_plan 35 = .ok (.iconst 1, 1) := by decide +kernel
theorem dX3_plan_36 : decode cX3_plan 36 = .ok (.goto 4, 3) := by decide +kernel
theorem dX3_plan_39 : decode cX3_plan 39 = .ok (.iconst 0, 1) := by decide +kernel
theorem dX3_plan_40 : decode cX3_plan 40 = .ok (.invokevirtual 74, 3) := by decide +kernel
theorem dX3_plan_43 : decode cX3_plan 43 = .ok (.ifCond .ne 5, 3) := by decide +kernel
theorem dX3_plan_46 : decode cX3_plan 46 = .ok (.iconst 0, 1) := by decide +kernel
theorem dX3_plan_47 : decode cX3_plan 47 = .ok (.ireturn, 1) := by decide +kernel
theorem dX3_plan_48 : decode cX3_plan 48 = .ok (.aload_n 0, 1) := by decide +kernel
theorem dX3_plan_49 : decode cX3_plan 49 = .ok (.getfield 26, 3) := by decide +kernel
theorem dX3_plan_52 : decode cX3_plan 52 = .ok (.bipush 6, 2) := by decide +kernel
theorem dX3_plan_54 : decode cX3_plan 54 = .ok (.iload_n 1, 1) := by decide +kernel
theorem dX3_plan_55 : decode cX3_plan 55 = .ok (.imul, 1) := by decide +kernel
theorem dX3_plan_56 : decode cX3_plan 56 = .ok (.aload_n 0, 1) := by decide +kernel
theorem dX3_plan_57 : decode cX3_plan 57 = .ok (.getfield 29, 3) := by decide +kernel
theorem dX3_plan_60 : decode cX3_plan 60 = .ok (.iload_n 1, 1) := by decide +kernel
theorem dX3_plan_61 : decode cX3_plan 61 = .ok (.iaload, 1) := by decide +kernel
theorem dX3_plan_62 : decode cX3_plan 62 = .ok (.iadd, 1) := by decide +kernel
theorem dX3_plan_63 : decode cX3_plan 63 = .ok (.iload_n 2, 1) := by decide +kernel
theorem dX3_plan_64 : decode cX3_plan 64 = .ok (.iastore, 1) := by decide +kernel
theorem dX3_plan_65 : decode cX3_plan 65 = .ok (.aload_n 0, 1) := by decide +kernel
theorem dX3_plan_66 : decode cX3_plan 66 = .ok (.getfield 29, 3) := by decide +kernel
theorem dX3_plan_69 : decode cX3_plan 69 = .ok (.iload_n 1, 1) := by decide +kernel
theorem dX3_plan_70 : decode cX3_plan 70 = .ok (.dup2, 1) := by decide +kernel
theorem dX3_plan_71 : decode cX3_plan 71 = .ok (.iaload, 1) := by decide +kernel
theorem dX3_plan_72 : decode cX3_plan 72 = .ok (.iconst 1, 1) := by decide +kernel
theorem dX3_plan_73 : decode cX3_plan 73 = .ok (.iadd, 1) := by decide +kernel
theorem dX3_plan_74 : decode cX3_plan 74 = .ok (.iastore, 1) := by decide +kernel
theorem dX3_plan_75 : decode cX3_plan 75 = .ok (.aload_n 0, 1) := by decide +kernel
theorem dX3_plan_76 : decode cX3_plan 76 = .ok (.getfield 29, 3) := by decide +kernel
theorem dX3_plan_79 : decode cX3_plan 79 = .ok (.iload_n 1, 1) := by decide +kernel
theorem dX3_plan_80 : decode cX3_plan 80 = .ok (.iaload, 1) := by decide +kernel
theorem dX3_plan_81 : decode cX3_plan 81 = .ok (.ireturn, 1) := by decide +kernel
set_option maxRecDepth 20000 in
theorem ggX3_drop_X3_isVisitor : GoodIn wsX3_drop wsX3_isVisitor := goodIn_r _ [9] (by decide +kernel) (by decide +kernel)
set_option maxRecDepth 20000 in
theorem gX3_drop_X3_isVisitor : GoodIn wsX3_drop (va_wsS RX3 85 yX3_isVisitor wsX3_isVisitor) := goodIn_app (goodIn_of _ (by decide +kernel)) ggX3_drop_X3_isVisitor
set_option maxRecDepth 20000 in
theorem ggX3_drop_X3_isPavilion : GoodIn wsX3_drop wsX3_isPavilion := goodIn_r _ [12] (by decide +kernel) (by decide +kernel)
set_option maxRecDepth 20000 in
theorem gX3_drop_X3_isPavilion : GoodIn wsX3_drop (va_wsS RX3 70 yX3_isPavilion wsX3_isPavilion) := goodIn_app (goodIn_of _ (by decide +kernel)) ggX3_drop_X3_isPavilion
set_option maxRecDepth 20000 in
theorem ggX3_drop_X3_placeInPlan : GoodIn wsX3_drop wsX3_placeInPlan := goodIn_r _ [16, 1, 2, 32, 33, 34, 35, 36, 37, 38, 39, 40, 41, 42, 43, 44, 45, 46, 47, 48, 49, 50] (by decide +kernel) (by decide +kernel)
set_option maxRecDepth 20000 in
theorem gX3_drop_X3_placeInPlan : GoodIn wsX3_drop (wsV RX3 88 RX3 yX3_placeInPlan wsX3_placeInPlan) := goodIn_app (goodIn_of _ (by decide +kernel)) ggX3_drop_X3_placeInPlan
set_option maxRecDepth 20000 in
theorem ggX3_drop_X3_goes : GoodIn wsX3_drop wsX3_goes := goodIn_r _ [20, 21, 32, 33, 34, 35, 36, 37, 38, 39, 40, 41, 42, 43, 44, 45, 46, 47, 48, 49, 50] (by decide +kernel) (by decide +kernel)
set_option maxRecDepth 20000 in
theorem gX3_drop_X3_goes : GoodIn wsX3_drop (wsV RX3 74 RX3 yX3_goes wsX3_goes) := goodIn_app (goodIn_of _ (by decide +kernel)) ggX3_drop_X3_goes
set_option maxRecDepth 20000 in
theorem ggX3_drop_X3_leaves : GoodIn wsX3_drop wsX3_leaves := goodIn_r _ [25, 4, 26, 27, 3, 28, 29, 30, 8, 31, 32, 33, 34, 35, 36, 37, 38, 39, 40, 41, 42, 43, 44, 45, 46, 47, 48, 49, 50] (by decide +kernel) (by decide +kernel)
set_option maxRecDepth 20000 in
theorem gX3_drop_X3_leaves : GoodIn wsX3_drop (wsV RX3 78 RX3 yX3_leaves wsX3_leaves) := goodIn_app (goodIn_of _ (by decide +kernel)) ggX3_drop_X3_leaves
theorem dX3_drop_0 : decode cX3_drop 0 = .ok (.iload_n 1, 1) := by decide +kernel
theorem dX3_drop_1 : decode cX3_drop 1 = .ok (.invokestatic 85, 3) := by decide +kernel
theorem dX3_drop_4 : decode cX3_drop 4 = .ok (.ifCond .eq 14, 3) := by decide +kernel
theorem dX3_drop_7 : decode cX3_drop 7 = .ok (.iload_n 2, 1) := by decide +kernel
theorem dX3_drop_8 : decode cX3_drop 8 = .ok (.invokestatic 70, 3) := by decide +kernel
theorem dX3_drop_11 : decode cX3_drop 11 = .ok (.ifCond .eq 7, 3) := by decide +kernel
theorem dX3_drop_14 : decode cX3_drop 14 = .ok (.iconst 1, 1) := by decide +kernel
theorem dX3_drop_15 : decode cX3_drop 15 = .ok (.goto 4, 3) := by decide +kernel
theorem dX3_drop_18 : decode cX3_drop 18 = .ok (.iconst 0, 1) := by decide +kernel
theorem dX3_drop_19 : decode cX3_drop 19 = .ok (.istore_n 3, 1) := by decide +kernel
theorem dX3_drop_20 : decode cX3_drop 20 = .ok (.aload_n 0, 1) := by decide +kernel
theorem dX3_drop_21 : decode cX3_drop 21 = .ok (.iload_n 3, 1) := by decide +kernel
theorem dX3_drop_22 : decode cX3_drop 22 = .ok (.iload_n 3, 1) := by decide +kernel
theorem dX3_drop_23 : decode cX3_drop 23 = .ok (.ifCond .eq 16, 3) := by decide +kernel
theorem dX3_drop_26 : decode cX3_drop 26 = .ok (.aload_n 0, 1) := by decide +kernel
theorem dX3_drop_27 : decode cX3_drop 27 = .ok (.iload_n 1, 1) := by decide +kernel
theorem dX3_drop_28 : decode cX3_drop 28 = .ok (.iload_n 2, 1) := by decide +kernel
theorem dX3_drop_29 : decode cX3_drop 29 = .ok (.invokevirtual 88, 3) := by decide +kernel
theorem dX3_drop_32 : decode cX3_drop 32 = .ok (.ifCond .lt 7, 3) := by decide +kernel
theorem dX3_drop_35 : decode cX3_drop 35 = .ok (.iconst 1, 1) := by decide +kernel
theorem dX3_drop_36 : decode cX3_drop 36 = .ok (.goto 4, 3) := by decide +kernel
theorem dX3_drop_39 : decode cX3_drop 39 = .ok (.iconst 0, 1) := by decide +kernel
theorem dX3_drop_40 : decode cX3_drop 40 = .ok (.invokevirtual 74, 3) := by decide +kernel
theorem dX3_drop_43 : decode cX3_drop 43 = .ok (.ifCond .ne 5, 3) := by decide +kernel
theorem dX3_drop_46 : decode cX3_drop 46 = .ok (.iconst 0, 1) := by decide +kernel
theorem dX3_drop_47 : decode cX3_drop 47 = .ok (.ireturn, 1) := by decide +kernel
theorem dX3_drop_48 : decode cX3_drop 48 = .ok (.aload_n 0, 1) := by decide +kernel
theorem dX3_drop_49 : decode cX3_drop 49 = .ok (.iload_n 1, 1) := by decide +kernel
theorem dX3_drop_50 : decode cX3_drop 50 = .ok (.iload_n 2, 1) := by decide +kernel
theorem dX3_drop_51 : decode cX3_drop 51 = .ok (.invokevirtual 88, 3) := by decide +kernel
theorem dX3_drop_54 : decode cX3_drop 54 = .ok (.istore 4, 2) := by decide +kernel
theorem dX3_drop_56 : decode cX3_drop 56 = .ok (.aload_n 0, 1) := by decide +kernel
theorem dX3_drop_57 : decode cX3_drop 57 = .ok (.getfield 29, 3) := by decide +kernel
theorem dX3_drop_60 : decode cX3_drop 60 = .ok (.iload_n 1, 1) := by decide +kernel
theorem dX3_drop_61 : decode cX3_drop 61 = .ok (.dup2, 1) := by decide +kernel
theorem dX3_drop_62 : decode cX3_drop 62 = .ok (.iaload, 1) := by decide +kernel
theorem dX3_drop_63 : decode cX3_drop 63 = .ok (.iconst 1, 1) := by decide +kernel
theorem dX3_drop_64 : decode cX3_drop 64 = .ok (.isub, 1) := by decide +kernel
theorem dX3_drop_65 : decode cX3_drop 65 = .ok (.iastore, 1) := by decide +kernel
theorem dX3_drop_66 : decode cX3_drop 66 = .ok (.iload 4, 2) := by decide +kernel
theorem dX3_drop_68 : decode cX3_drop 68 = .ok (.istore 5, 2) := by decide +kernel
theorem dX3_drop_70 : decode cX3_drop 70 = .ok (.iload 5, 2) := by decide +kernel
theorem dX3_drop_72 : decode cX3_drop 72 = .ok (.aload_n 0, 1) := by decide +kernel
theorem dX3_drop_73 : decode cX3_drop 73 = .ok (.getfield 29, 3) := by decide +kernel
theorem dX3_drop_76 : decode cX3_drop 76 = .ok (.iload_n 1, 1) := by decide +kernel
theorem dX3_drop_77 : decode cX3_drop 77 = .ok (.iaload, 1) := by decide +kernel
theorem dX3_drop_78 : decode cX3_drop 78 = .ok (.if_icmp .ge 35, 3) := by decide +kernel
theorem dX3_drop_81 : decode cX3_drop 81 = .ok (.aload_n 0, 1) := by decide +kernel
theorem dX3_drop_82 : decode cX3_drop 82 = .ok (.getfield 26, 3) := by decide +kernel
theorem dX3_drop_85 : decode cX3_drop 85 = .ok (.bipush 6, 2) := by decide +kernel
theorem dX3_drop_87 : decode cX3_drop 87 = .ok (.iload_n 1, 1) := by decide +kernel
theorem dX3_drop_88 : decode cX3_drop 88 = .ok (.imul, 1) := by decide +kernel
theorem dX3_drop_89 : decode cX3_drop 89 = .ok (.iload 5, 2) := by decide +kernel
theorem dX3_drop_91 : decode cX3_drop 91 = .ok (.iadd, 1) := by decide +kernel
theorem dX3_drop_92 : decode cX3_drop 92 = .ok (.aload_n 0, 1) := by decide +kernel
theorem dX3_drop_93 : decode cX3_drop 93 = .ok (.getfield 26, 3) := by decide +kernel
theorem dX3_drop_96 : decode cX3_drop 96 = .ok (.bipush 6, 2) := by decide +kernel
theorem dX3_drop_98 : decode cX3_drop 98 = .ok (.iload_n 1, 1) := by decide +kernel
theorem dX3_drop_99 : decode cX3_drop 99 = .ok (.imul, 1) := by decide +kernel
theorem dX3_drop_100 : decode cX3_drop 100 = .ok (.iload 5, 2) := by decide +kernel
theorem dX3_drop_102 : decode cX3_drop 102 = .ok (.iadd, 1) := by decide +kernel
theorem dX3_drop_103 : decode cX3_drop 103 = .ok (.iconst 1, 1) := by decide +kernel
theorem dX3_drop_104 : decode cX3_drop 104 = .ok (.iadd, 1) := by decide +kernel
theorem dX3_drop_105 : decode cX3_drop 105 = .ok (.iaload, 1) := by decide +kernel
theorem dX3_drop_106 : decode cX3_drop 106 = .ok (.iastore, 1) := by decide +kernel
theorem dX3_drop_107 : decode cX3_drop 107 = .ok (.iinc 5 1, 3) := by decide +kernel
theorem dX3_drop_110 : decode cX3_drop 110 = .ok (.goto (-40), 3) := by decide +kernel
theorem dX3_drop_113 : decode cX3_drop 113 = .ok (.aload_n 0, 1) := by decide +kernel
theorem dX3_drop_114 : decode cX3_drop 114 = .ok (.getfield 32, 3) := by decide +kernel
theorem dX3_drop_117 : decode cX3_drop 117 = .ok (.iload_n 1, 1) := by decide +kernel
theorem dX3_drop_118 : decode cX3_drop 118 = .ok (.iaload, 1) := by decide +kernel
theorem dX3_drop_119 : decode cX3_drop 119 = .ok (.iconst 1, 1) := by decide +kernel
theorem dX3_drop_120 : decode cX3_drop 120 = .ok (.if_icmp .ne 27, 3) := by decide +kernel
theorem dX3_drop_123 : decode cX3_drop 123 = .ok (.aload_n 0, 1) := by decide +kernel
theorem dX3_drop_124 : decode cX3_drop 124 = .ok (.getfield 35, 3) := by decide +kernel
theorem dX3_drop_127 : decode cX3_drop 127 = .ok (.iload_n 1, 1) := by decide +kernel
theorem dX3_drop_128 : decode cX3_drop 128 = .ok (.iaload, 1) := by decide +kernel
theorem dX3_drop_129 : decode cX3_drop 129 = .ok (.iload_n 2, 1) := by decide +kernel
theorem dX3_drop_130 : decode cX3_drop 130 = .ok (.if_icmp .ne 17, 3) := by decide +kernel
theorem dX3_drop_133 : decode cX3_drop 133 = .ok (.aload_n 0, 1) := by decide +kernel
theorem dX3_drop_134 : decode cX3_drop 134 = .ok (.getfield 50, 3) := by decide +kernel
theorem dX3_drop_137 : decode cX3_drop 137 = .ok (.iload_n 1, 1) := by decide +kernel
theorem dX3_drop_138 : decode cX3_drop 138 = .ok (.baload, 1) := by decide +kernel
theorem dX3_drop_139 : decode cX3_drop 139 = .ok (.ifCond .ne 8, 3) := by decide +kernel
theorem dX3_drop_142 : decode cX3_drop 142 = .ok (.aload_n 0, 1) := by decide +kernel
theorem dX3_drop_143 : decode cX3_drop 143 = .ok (.iload_n 1, 1) := by decide +kernel
theorem dX3_drop_144 : decode cX3_drop 144 = .ok (.invokevirtual 78, 3) := by decide +kernel
theorem dX3_drop_147 : decode cX3_drop 147 = .ok (.aload_n 0, 1) := by decide +kernel
theorem dX3_drop_148 : decode cX3_drop 148 = .ok (.getfield 29, 3) := by decide +kernel
theorem dX3_drop_151 : decode cX3_drop 151 = .ok (.iload_n 1, 1) := by decide +kernel
theorem dX3_drop_152 : decode cX3_drop 152 = .ok (.iaload, 1) := by decide +kernel
theorem dX3_drop_153 : decode cX3_drop 153 = .ok (.ireturn, 1) := by decide +kernel
set_option maxRecDepth 20000 in
theorem ggX3_ask_X3_isVisitor : GoodIn wsX3_ask wsX3_isVisitor := goodIn_r _ [9] (by decide +kernel) (by decide +kernel)
set_option maxRecDepth 20000 in
theorem gX3_ask_X3_isVisitor : GoodIn wsX3_ask (va_wsS RX3 85 yX3_isVisitor wsX3_isVisitor) := goodIn_app (goodIn_of _ (by decide +kernel)) ggX3_ask_X3_isVisitor
set_option maxRecDepth 20000 in
theorem ggX3_ask_X3_isPavilion : GoodIn wsX3_ask wsX3_isPavilion := goodIn_r _ [12] (by decide +kernel) (by decide +kernel)
set_option maxRecDepth 20000 in
theorem gX3_ask_X3_isPavilion : GoodIn wsX3_ask (va_wsS RX3 70 yX3_isPavilion wsX3_isPavilion) := goodIn_app (goodIn_of _ (by decide +kernel)) ggX3_ask_X3_isPavilion
set_option maxRecDepth 20000 in
theorem ggX3_ask_X3_goes : GoodIn wsX3_ask wsX3_goes := goodIn_r _ [16, 17, 18, 19, 20, 21, 22, 23, 24, 25, 26, 27, 28, 29, 30, 31, 32, 33, 34, 35, 36] (by decide +kernel) (by decide +kernel)
set_option maxRecDepth 20000 in
theorem gX3_ask_X3_goes : GoodIn wsX3_ask (wsV RX3 74 RX3 yX3_goes wsX3_goes) := goodIn_app (goodIn_of _ (by decide +kernel)) ggX3_ask_X3_goes
theorem dX3_ask_0 : decode cX3_ask 0 = .ok (.iload_n 1, 1) := by decide +kernel
theorem dX3_ask_1 : decode cX3_ask 1 = .ok (.invokestatic 85, 3) := by decide +kernel
theorem dX3_ask_4 : decode cX3_ask 4 = .ok (.ifCond .eq 14, 3) := by decide +kernel
theorem dX3_ask_7 : decode cX3_ask 7 = .ok (.iload_n 2, 1) := by decide +kernel
theorem dX3_ask_8 : decode cX3_ask 8 = .ok (.invokestatic 70, 3) := by decide +kernel
theorem dX3_ask_11 : decode cX3_ask 11 = .ok (.ifCond .eq 7, 3) := by decide +kernel
theorem dX3_ask_14 : decode cX3_ask 14 = .ok (.iconst 1, 1) := by decide +kernel
theorem dX3_ask_15 : decode cX3_ask 15 = .ok (.goto 4, 3) := by decide +kernel
theorem dX3_ask_18 : decode cX3_ask 18 = .ok (.iconst 0, 1) := by decide +kernel
theorem dX3_ask_19 : decode cX3_ask 19 = .ok (.istore_n 3, 1) := by decide +kernel
theorem dX3_ask_20 : decode cX3_ask 20 = .ok (.aload_n 0, 1) := by decide +kernel
theorem dX3_ask_21 : decode cX3_ask 21 = .ok (.iload_n 3, 1) := by decide +kernel
theorem dX3_ask_22 : decode cX3_ask 22 = .ok (.iload_n 3, 1) := by decide +kernel
theorem dX3_ask_23 : decode cX3_ask 23 = .ok (.ifCond .eq 25, 3) := by decide +kernel
theorem dX3_ask_26 : decode cX3_ask 26 = .ok (.aload_n 0, 1) := by decide +kernel
theorem dX3_ask_27 : decode cX3_ask 27 = .ok (.getfield 44, 3) := by decide +kernel
theorem dX3_ask_30 : decode cX3_ask 30 = .ok (.iload_n 1, 1) := by decide +kernel
theorem dX3_ask_31 : decode cX3_ask 31 = .ok (.iaload, 1) := by decide +kernel
theorem dX3_ask_32 : decode cX3_ask 32 = .ok (.ifCond .ge 16, 3) := by decide +kernel
theorem dX3_ask_35 : decode cX3_ask 35 = .ok (.aload_n 0, 1) := by decide +kernel
theorem dX3_ask_36 : decode cX3_ask 36 = .ok (.getfield 16, 3) := by decide +kernel
theorem dX3_ask_39 : decode cX3_ask 39 = .ok (.iload_n 2, 1) := by decide +kernel
theorem dX3_ask_40 : decode cX3_ask 40 = .ok (.baload, 1) := by decide +kernel
theorem dX3_ask_41 : decode cX3_ask 41 = .ok (.ifCond .ne 7, 3) := by decide +kernel
theorem dX3_ask_44 : decode cX3_ask 44 = .ok (.iconst 1, 1) := by decide +kernel
theorem dX3_ask_45 : decode cX3_ask 45 = .ok (.goto 4, 3) := by decide +kernel
theorem dX3_ask_48 : decode cX3_ask 48 = .ok (.iconst 0, 1) := by decide +kernel
theorem dX3_ask_49 : decode cX3_ask 49 = .ok (.invokevirtual 74, 3) := by decide +kernel
theorem dX3_ask_52 : decode cX3_ask 52 = .ok (.ifCond .ne 5, 3) := by decide +kernel
theorem dX3_ask_55 : decode cX3_ask 55 = .ok (.iconst 0, 1) := by decide +kernel
theorem dX3_ask_56 : decode cX3_ask 56 = .ok (.ireturn, 1) := by decide +kernel
theorem dX3_ask_57 : decode cX3_ask 57 = .ok (.aload_n 0, 1) := by decide +kernel
theorem dX3_ask_58 : decode cX3_ask 58 = .ok (.getfield 91, 3) := by decide +kernel
theorem dX3_ask_61 : decode cX3_ask 61 = .ok (.iconst 5, 1) := by decide +kernel
theorem dX3_ask_62 : decode cX3_ask 62 = .ok (.idiv, 1) := by decide +kernel
theorem dX3_ask_63 : decode cX3_ask 63 = .ok (.iconst 1, 1) := by decide +kernel
theorem dX3_ask_64 : decode cX3_ask 64 = .ok (.iadd, 1) := by decide +kernel
theorem dX3_ask_65 : decode cX3_ask 65 = .ok (.iconst 5, 1) := by decide +kernel
theorem dX3_ask_66 : decode cX3_ask 66 = .ok (.imul, 1) := by decide +kernel
theorem dX3_ask_67 : decode cX3_ask 67 = .ok (.istore 4, 2) := by decide +kernel
theorem dX3_ask_69 : decode cX3_ask 69 = .ok (.iconst 1, 1) := by decide +kernel
theorem dX3_ask_70 : decode cX3_ask 70 = .ok (.istore 5, 2) := by decide +kernel
theorem dX3_ask_72 : decode cX3_ask 72 = .ok (.iload 5, 2) := by decide +kernel
theorem dX3_ask_74 : decode cX3_ask 74 = .ok (.ifCond .eq 75, 3) := by decide +kernel
theorem dX3_ask_77 : decode cX3_ask 77 = .ok (.iconst 0, 1) := by decide +kernel
theorem dX3_ask_78 : decode cX3_ask 78 = .ok (.istore 5, 2) := by decide +kernel
theorem dX3_ask_80 : decode cX3_ask 80 = .ok (.iconst 0, 1) := by decide +kernel
theorem dX3_ask_81 : decode cX3_ask 81 = .ok (.istore 6, 2) := by decide +kernel
theorem dX3_ask_83 : decode cX3_ask 83 = .ok (.iload 6, 2) := by decide +kernel
theorem dX3_ask_85 : decode cX3_ask 85 = .ok (.bipush 8, 2) := by decide +kernel
theorem dX3_ask_87 : decode cX3_ask 87 = .ok (.if_icmp .ge 44, 3) := by decide +kernel
theorem dX3_ask_90 : decode cX3_ask 90 = .ok (.iload 5, 2) := by decide +kernel
theorem dX3_ask_92 : decode cX3_ask 92 = .ok (.ifCond .ne 26, 3) := by decide +kernel
theorem dX3_ask_95 : decode cX3_ask 95 = .ok (.aload_n 0, 1) := by decide +kernel
theorem dX3_ask_96 : decode cX3_ask 96 = .ok (.getfield 44, 3) := by decide +kernel
theorem dX3_ask_99 : decode cX3_ask 99 = .ok (.iload 6, 2) := by decide +kernel
theorem dX3_ask_101 : decode cX3_ask 101 = .ok (.iaload, 1) := by decide +kernel
theorem dX3_ask_102 : decode cX3_ask 102 = .ok (.iload 4, 2) := by decide +kernel
theorem dX3_ask_104 : decode cX3_ask 104 = .ok (.if_icmp .ne 18, 3) := by decide +kernel
theorem dX3_ask_107 : decode cX3_ask 107 = .ok (.aload_n 0, 1) := by decide +kernel
theorem dX3_ask_108 : decode cX3_ask 108 = .ok (.getfield 47, 3) := by decide +kernel
theorem dX3_ask_111 : decode cX3_ask 111 = .ok (.iload 6, 2) := by decide +kernel
theorem dX3_ask_113 : decode cX3_ask 113 = .ok (.iaload, 1) := by decide +kernel
theorem dX3_ask_114 : decode cX3_ask 114 = .ok (.iload_n 2, 1) := by decide +kernel
theorem dX3_ask_115 : decode cX3_ask 115 = .ok (.if_icmp .ne 7, 3) := by decide +kernel
theorem dX3_ask_118 : decode cX3_ask 118 = .ok (.iconst 1, 1) := by decide +kernel
theorem dX3_ask_119 : decode cX3_ask 119 = .ok (.goto 4, 3) := by decide +kernel
theorem dX3_ask_122 : decode cX3_ask 122 = .ok (.iconst 0, 1) := by decide +kernel
theorem dX3_ask_123 : decode cX3_ask 123 = .ok (.istore 5, 2) := by decide +kernel
theorem dX3_ask_125 : decode cX3_ask 125 = .ok (.iinc 6 1, 3) := by decide +kernel
theorem dX3_ask_128 : decode cX3_ask 128 = .ok (.goto (-45), 3) := by decide +kernel
theorem dX3_ask_131 : decode cX3_ask 131 = .ok (.iload 4, 2) := by decide +kernel
theorem dX3_ask_133 : decode cX3_ask 133 = .ok (.iload 5, 2) := by decide +kernel
theorem dX3_ask_135 : decode cX3_ask 135 = .ok (.ifCond .eq 7, 3) := by decide +kernel
theorem dX3_ask_138 : decode cX3_ask 138 = .ok (.iconst 5, 1) := by decide +kernel
theorem dX3_ask_139 : decode cX3_ask 139 = .ok (.goto 4, 3) := by decide +kernel
theorem dX3_ask_142 : decode cX3_ask 142 = .ok (.iconst 0, 1) := by decide +kernel
theorem dX3_ask_143 : decode cX3_ask 143 = .ok (.iadd, 1) := by decide +kernel
theorem dX3_ask_144 : decode cX3_ask 144 = .ok (.istore 4, 2) := by decide +kernel
theorem dX3_ask_146 : decode cX3_ask 146 = .ok (.goto (-74), 3) := by decide +kernel
theorem dX3_ask_149 : decode cX3_ask 149 = .ok (.aload_n 0, 1) := by decide +kernel
theorem dX3_ask_150 : decode cX3_ask 150 = .ok (.getfield 44, 3) := by decide +kernel
theorem dX3_ask_153 : decode cX3_ask 153 = .ok (.iload_n 1, 1) := by decide +kernel
theorem dX3_ask_154 : decode cX3_ask 154 = .ok (.iload 4, 2) := by decide +kernel
theorem dX3_ask_156 : decode cX3_ask 156 = .ok (.iastore, 1) := by decide +kernel
theorem dX3_ask_157 : decode cX3_ask 157 = .ok (.aload_n 0, 1) := by decide +kernel
theorem dX3_ask_158 : decode cX3_ask 158 = .ok (.getfield 47, 3) := by decide +kernel
theorem dX3_ask_161 : decode cX3_ask 161 = .ok (.iload_n 1, 1) := by decide +kernel
theorem dX3_ask_162 : decode cX3_ask 162 = .ok (.iload_n 2, 1) := by decide +kernel
theorem dX3_ask_163 : decode cX3_ask 163 = .ok (.iastore, 1) := by decide +kernel
theorem dX3_ask_164 : decode cX3_ask 164 = .ok (.aload_n 0, 1) := by decide +kernel
theorem dX3_ask_165 : decode cX3_ask 165 = .ok (.getfield 50, 3) := by decide +kernel
theorem dX3_ask_168 : decode cX3_ask 168 = .ok (.iload_n 1, 1) := by decide +kernel
theorem dX3_ask_169 : decode cX3_ask 169 = .ok (.iconst 0, 1) := by decide +kernel
theorem dX3_ask_170 : decode cX3_ask 170 = .ok (.bastore, 1) := by decide +kernel
theorem dX3_ask_171 : decode cX3_ask 171 = .ok (.iload 4, 2) := by decide +kernel
theorem dX3_ask_173 : decode cX3_ask 173 = .ok (.ireturn, 1) := by decide +kernel
theorem dX3_comeOut_0 : decode cX3_comeOut 0 = .ok (.iconst 0, 1) := by decide +kernel
theorem dX3_comeOut_1 : decode cX3_comeOut 1 = .ok (.istore_n 1, 1) := by decide +kernel
theorem dX3_comeOut_2 : decode cX3_comeOut 2 = .ok (.iload_n 1, 1) := by decide +kernel
theorem dX3_comeOut_3 : decode cX3_comeOut 3 = .ok (.bipush 8, 2) := by decide +kernel
theorem dX3_comeOut_5 : decode cX3_comeOut 5 = .ok (.if_icmp .ge 63, 3) := by decide +kernel
theorem dX3_comeOut_8 : decode cX3_comeOut 8 = .ok (.aload_n 0, 1) := by decide +kernel
theorem dX3_comeOut_9 : decode cX3_comeOut 9 = .ok (.getfield 32, 3) := by decide +kernel
theorem dX3_comeOut_12 : decode cX3_comeOut 12 = .ok (.iload_n 1, 1) := by decide +kernel
theorem dX3_comeOut_13 : decode cX3_comeOut 13 = .ok (.iaload, 1) := by decide +kernel
theorem dX3_comeOut_14 : decode cX3_comeOut 14 = .ok (.iconst 2, 1) := by decide +kernel
theorem dX3_comeOut_15 : decode cX3_comeOut 15 = .ok (.if_icmp .ne 47, 3) := by decide +kernel
theorem dX3_comeOut_18 : decode cX3_comeOut 18 = .ok (.aload_n 0, 1) := by decide +kernel
theorem dX3_comeOut_19 : decode cX3_comeOut 19 = .ok (.getfield 38, 3) := by decide +kernel
theorem dX3_comeOut_22 : decode cX3_comeOut 22 = .ok (.iload_n 1, 1) := by decide +kernel
theorem dX3_comeOut_23 : decode cX3_comeOut 23 = .ok (.iaload, 1) := by decide +kernel
theorem dX3_comeOut_24 : decode cX3_comeOut 24 = .ok (.aload_n 0, 1) := by decide +kernel
theorem dX3_comeOut_25 : decode cX3_comeOut 25 = .ok (.getfield 91, 3) := by decide +kernel
theorem dX3_comeOut_28 : decode cX3_comeOut 28 = .ok (.if_icmp .gt 34, 3) := by decide +kernel
theorem dX3_comeOut_31 : decode cX3_comeOut 31 = .ok (.aload_n 0, 1) := by decide +kernel
theorem dX3_comeOut_32 : decode cX3_comeOut 32 = .ok (.getfield 41, 3) := by decide +kernel
theorem dX3_comeOut_35 : decode cX3_comeOut 35 = .ok (.iload_n 1, 1) := by decide +kernel
theorem dX3_comeOut_36 : decode cX3_comeOut 36 = .ok (.dup2, 1) := by decide +kernel
theorem dX3_comeOut_37 : decode cX3_comeOut 37 = .ok (.iaload, 1) := by decide +kernel
theorem dX3_comeOut_38 : decode cX3_comeOut 38 = .ok (.iconst 1, 1) := by decide +kernel
theorem dX3_comeOut_39 : decode cX3_comeOut 39 = .ok (.aload_n 0, 1) := by decide +kernel
theorem dX3_comeOut_40 : decode cX3_comeOut 40 = .ok (.getfield 35, 3) := by decide +kernel
theorem dX3_comeOut_43 : decode cX3_comeOut 43 = .ok (.iload_n 1, 1) := by decide +kernel
theorem dX3_comeOut_44 : decode cX3_comeOut 44 = .ok (.iaload, 1) := by decide +kernel
theorem dX3_comeOut_45 : decode cX3_comeOut 45 = .ok (.ishl, 1) := by decide +kernel
theorem dX3_comeOut_46 : decode cX3_comeOut 46 = .ok (.ior, 1) := by decide +kernel
theorem dX3_comeOut_47 : decode cX3_comeOut 47 = .ok (.iastore, 1) := by decide +kernel
theorem dX3_comeOut_48 : decode cX3_comeOut 48 = .ok (.aload_n 0, 1) := by decide +kernel
theorem dX3_comeOut_49 : decode cX3_comeOut 49 = .ok (.getfield 32, 3) := by decide +kernel
theorem dX3_comeOut_52 : decode cX3_comeOut 52 = .ok (.iload_n 1, 1) := by decide +kernel
theorem dX3_comeOut_53 : decode cX3_comeOut 53 = .ok (.iconst 0, 1) := by decide +kernel
theorem dX3_comeOut_54 : decode cX3_comeOut 54 = .ok (.iastore, 1) := by decide +kernel
theorem dX3_comeOut_55 : decode cX3_comeOut 55 = .ok (.aload_n 0, 1) := by decide +kernel
theorem dX3_comeOut_56 : decode cX3_comeOut 56 = .ok (.getfield 35, 3) := by decide +kernel
theorem dX3_comeOut_59 : decode cX3_comeOut 59 = .ok (.iload_n 1, 1) := by decide +kernel
theorem dX3_comeOut_60 : decode cX3_comeOut 60 = .ok (.iconst (-1), 1) := by decide +kernel
theorem dX3_comeOut_61 : decode cX3_comeOut 61 = .ok (.iastore, 1) := by decide +kernel
theorem dX3_comeOut_62 : decode cX3_comeOut 62 = .ok (.iinc 1 1, 3) := by decide +kernel
theorem dX3_comeOut_65 : decode cX3_comeOut 65 = .ok (.goto (-63), 3) := by decide +kernel
theorem dX3_comeOut_68 : decode cX3_comeOut 68 = .ok (.return_, 1) := by decide +kernel
set_option maxRecDepth 20000 in
theorem ggX3_takeTurns_X3_loses : GoodIn wsX3_takeTurns wsX3_loses := goodIn_r _ [13, 1, 3, 27, 28, 29, 30, 31, 32, 33, 34, 35, 36, 37, 38, 39, 40, 41, 42, 43, 44, 45] (by decide +kernel) (by decide +kernel)
set_option maxRecDepth 20000 in
theorem gX3_takeTurns_X3_loses : GoodIn wsX3_takeTurns (wsV RX3 82 RX3 yX3_loses wsX3_loses) := goodIn_app (goodIn_of _ (by decide +kernel)) ggX3_takeTurns_X3_loses
set_option maxRecDepth 20000 in
theorem ggX3_takeTurns_X3_leaves : GoodIn wsX3_takeTurns wsX3_leaves := goodIn_r _ [17, 18, 7, 8, 5, 19, 20, 21, 12, 22, 27, 28, 29, 30, 31, 32, 33, 34, 35, 36, 37, 38, 39, 40, 41, 42, 43, 44, 45] (by decide +kernel) (by decide +kernel)
set_option maxRecDepth 20000 in
theorem gX3_takeTurns_X3_leaves : GoodIn wsX3_takeTurns (wsV RX3 78 RX3 yX3_leaves wsX3_leaves) := goodIn_app (goodIn_of _ (by decide +kernel)) ggX3_takeTurns_X3_leaves
set_option maxRecDepth 20000 in
theorem ggX3_takeTurns_X3_puts : GoodIn wsX3_takeTurns wsX3_puts := goodIn_r _ [26, 7, 8, 5, 18, 27, 28, 29, 30, 31, 32, 33, 34, 35, 36, 37, 38, 39, 40, 41, 42, 43, 44, 45] (by decide +kernel) (by decide +kernel)
set_option maxRecDepth 20000 in
theorem gX3_takeTurns_X3_puts : GoodIn wsX3_takeTurns (wsV RX3 94 RX3 yX3_puts wsX3_puts) := goodIn_app (goodIn_of _ (by decide +kernel)) ggX3_takeTurns_X3_puts
theorem dX3_takeTurns_0 : decode cX3_takeTurns 0 = .ok (.iconst 0, 1) := by decide +kernel
theorem dX3_takeTurns_1 : decode cX3_takeTurns 1 = .ok (.istore_n 1, 1) := by decide +kernel
theorem dX3_takeTurns_2 : decode cX3_takeTurns 2 = .ok (.iload_n 1, 1) := by decide +kernel
theorem dX3_takeTurns_3 : decode cX3_takeTurns 3 = .ok (.bipush 8, 2) := by decide +kernel
theorem dX3_takeTurns_5 : decode cX3_takeTurns 5 = .ok (.if_icmp .ge 131, 3) := by decide +kernel
theorem dX3_takeTurns_8 : decode cX3_takeTurns 8 = .ok (.aload_n 0, 1) := by decide +kernel
theorem dX3_takeTurns_9 : decode cX3_takeTurns 9 = .ok (.getfield 44, 3) := by decide +kernel
theorem dX3_takeTurns_12 : decode cX3_takeTurns 12 = .ok (.iload_n 1, 1) := by decide +kernel
theorem dX3_takeTurns_13 : decode cX3_takeTurns 13 = .ok (.iaload, 1) := by decide +kernel
theorem dX3_takeTurns_14 : decode cX3_takeTurns 14 = .ok (.aload_n 0, 1) := by decide +kernel
theorem dX3_takeTurns_15 : decode cX3_takeTurns 15 = .ok (.getfield 91, 3) := by decide +kernel
theorem dX3_takeTurns_18 : decode cX3_takeTurns 18 = .ok (.if_icmp .ne 112, 3) := by decide +kernel
theorem dX3_takeTurns_21 : decode cX3_takeTurns 21 = .ok (.aload_n 0, 1) := by decide +kernel
theorem dX3_takeTurns_22 : decode cX3_takeTurns 22 = .ok (.getfield 50, 3) := by decide +kernel
theorem dX3_takeTurns_25 : decode cX3_takeTurns 25 = .ok (.iload_n 1, 1) := by decide +kernel
theorem dX3_takeTurns_26 : decode cX3_takeTurns 26 = .ok (.baload, 1) := by decide +kernel
theorem dX3_takeTurns_27 : decode cX3_takeTurns 27 = .ok (.ifCond .ne 103, 3) := by decide +kernel
theorem dX3_takeTurns_30 : decode cX3_takeTurns 30 = .ok (.aload_n 0, 1) := by decide +kernel
theorem dX3_takeTurns_31 : decode cX3_takeTurns 31 = .ok (.getfield 47, 3) := by decide +kernel
theorem dX3_takeTurns_34 : decode cX3_takeTurns 34 = .ok (.iload_n 1, 1) := by decide +kernel
theorem dX3_takeTurns_35 : decode cX3_takeTurns 35 = .ok (.iaload, 1) := by decide +kernel
theorem dX3_takeTurns_36 : decode cX3_takeTurns 36 = .ok (.istore_n 2, 1) := by decide +kernel
theorem dX3_takeTurns_37 : decode cX3_takeTurns 37 = .ok (.aload_n 0, 1) := by decide +kernel
theorem dX3_takeTurns_38 : decode cX3_takeTurns 38 = .ok (.getfield 32, 3) := by decide +kernel
theorem dX3_takeTurns_41 : decode cX3_takeTurns 41 = .ok (.iload_n 1, 1) := by decide +kernel
theorem dX3_takeTurns_42 : decode cX3_takeTurns 42 = .ok (.iaload, 1) := by decide +kernel
theorem dX3_takeTurns_43 : decode cX3_takeTurns 43 = .ok (.iconst 2, 1) := by decide +kernel
theorem dX3_takeTurns_44 : decode cX3_takeTurns 44 = .ok (.if_icmp .eq 12, 3) := by decide +kernel
theorem dX3_takeTurns_47 : decode cX3_takeTurns 47 = .ok (.aload_n 0, 1) := by decide +kernel
theorem dX3_takeTurns_48 : decode cX3_takeTurns 48 = .ok (.getfield 16, 3) := by decide +kernel
theorem dX3_takeTurns_51 : decode cX3_takeTurns 51 = .ok (.iload_n 2, 1) := by decide +kernel
theorem dX3_takeTurns_52 : decode cX3_takeTurns 52 = .ok (.baload, 1) := by decide +kernel
theorem dX3_takeTurns_53 : decode cX3_takeTurns 53 = .ok (.ifCond .eq 11, 3) := by decide +kernel
theorem dX3_takeTurns_56 : decode cX3_takeTurns 56 = .ok (.aload_n 0, 1) := by decide +kernel
theorem dX3_takeTurns_57 : decode cX3_takeTurns 57 = .ok (.iload_n 1, 1) := by decide +kernel
theorem dX3_takeTurns_58 : decode cX3_takeTurns 58 = .ok (.invokevirtual 82, 3) := by decide +kernel
theorem dX3_takeTurns_61 : decode cX3_takeTurns 61 = .ok (.goto 69, 3) := by decide +kernel
theorem dX3_takeTurns_64 : decode cX3_takeTurns 64 = .ok (.aload_n 0, 1) := by decide +kernel
theorem dX3_takeTurns_65 : decode cX3_takeTurns 65 = .ok (.getfield 32, 3) := by decide +kernel
theorem dX3_takeTurns_68 : decode cX3_takeTurns 68 = .ok (.iload_n 1, 1) := by decide +kernel
theorem dX3_takeTurns_69 : decode cX3_takeTurns 69 = .ok (.iaload, 1) := by decide +kernel
theorem dX3_takeTurns_70 : decode cX3_takeTurns 70 = .ok (.iconst 1, 1) := by decide +kernel
theorem dX3_takeTurns_71 : decode cX3_takeTurns 71 = .ok (.if_icmp .ne 8, 3) := by decide +kernel
theorem dX3_takeTurns_74 : decode cX3_takeTurns 74 = .ok (.aload_n 0, 1) := by decide +kernel
theorem dX3_takeTurns_75 : decode cX3_takeTurns 75 = .ok (.iload_n 1, 1) := by decide +kernel
theorem dX3_takeTurns_76 : decode cX3_takeTurns 76 = .ok (.invokevirtual 78, 3) := by decide +kernel
theorem dX3_takeTurns_79 : decode cX3_takeTurns 79 = .ok (.iconst 0, 1) := by decide +kernel
theorem dX3_takeTurns_80 : decode cX3_takeTurns 80 = .ok (.istore_n 3, 1) := by decide +kernel
theorem dX3_takeTurns_81 : decode cX3_takeTurns 81 = .ok (.iload_n 3, 1) := by decide +kernel
theorem dX3_takeTurns_82 : decode cX3_takeTurns 82 = .ok (.aload_n 0, 1) := by decide +kernel
theorem dX3_takeTurns_83 : decode cX3_takeTurns 83 = .ok (.getfield 23, 3) := by decide +kernel
theorem dX3_takeTurns_86 : decode cX3_takeTurns 86 = .ok (.iload_n 2, 1) := by decide +kernel
theorem dX3_takeTurns_87 : decode cX3_takeTurns 87 = .ok (.iaload, 1) := by decide +kernel
theorem dX3_takeTurns_88 : decode cX3_takeTurns 88 = .ok (.if_icmp .ge 28, 3) := by decide +kernel
theorem dX3_takeTurns_91 : decode cX3_takeTurns 91 = .ok (.aload_n 0, 1) := by decide +kernel
theorem dX3_takeTurns_92 : decode cX3_takeTurns 92 = .ok (.getfield 50, 3) := by decide +kernel
theorem dX3_takeTurns_95 : decode cX3_takeTurns 95 = .ok (.aload_n 0, 1) := by decide +kernel
theorem dX3_takeTurns_96 : decode cX3_takeTurns 96 = .ok (.getfield 20, 3) := by decide +kernel
theorem dX3_takeTurns_99 : decode cX3_takeTurns 99 = .ok (.bipush 8, 2) := by decide +kernel
theorem dX3_takeTurns_101 : decode cX3_takeTurns 101 = .ok (.iload_n 2, 1) := by decide +kernel
theorem dX3_takeTurns_102 : decode cX3_takeTurns 102 = .ok (.imul, 1) := by decide +kernel
theorem dX3_takeTurns_103 : decode cX3_takeTurns 103 = .ok (.iload_n 3, 1) := by decide +kernel
theorem dX3_takeTurns_104 : decode cX3_takeTurns 104 = .ok (.iadd, 1) := by decide +kernel
theorem dX3_takeTurns_105 : decode cX3_takeTurns 105 = .ok (.iaload, 1) := by decide +kernel
theorem dX3_takeTurns_106 : decode cX3_takeTurns 106 = .ok (.baload, 1) := by decide +kernel
theorem dX3_takeTurns_107 : decode cX3_takeTurns 107 = .ok (.ifCond .eq 9, 3) := by decide +kernel
theorem dX3_takeTurns_110 : decode cX3_takeTurns 110 = .ok (.iinc 3 1, 3) := by decide +kernel
theorem dX3_takeTurns_113 : decode cX3_takeTurns 113 = .ok (.goto (-32), 3) := by decide +kernel
theorem dX3_takeTurns_116 : decode cX3_takeTurns 116 = .ok (.aload_n 0, 1) := by decide +kernel
theorem dX3_takeTurns_117 : decode cX3_takeTurns 117 = .ok (.iload_n 2, 1) := by decide +kernel
theorem dX3_takeTurns_118 : decode cX3_takeTurns 118 = .ok (.iload_n 3, 1) := by decide +kernel
theorem dX3_takeTurns_119 : decode cX3_takeTurns 119 = .ok (.iload_n 1, 1) := by decide +kernel

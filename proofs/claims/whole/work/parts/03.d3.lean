theorem dX3_takeTurns_120 : decode cX3_takeTurns 120 = .ok (.invokevirtual 94, 3) := by decide +kernel
theorem dX3_takeTurns_123 : decode cX3_takeTurns 123 = .ok (.aload_n 0, 1) := by decide +kernel
theorem dX3_takeTurns_124 : decode cX3_takeTurns 124 = .ok (.getfield 50, 3) := by decide +kernel
theorem dX3_takeTurns_127 : decode cX3_takeTurns 127 = .ok (.iload_n 1, 1) := by decide +kernel
theorem dX3_takeTurns_128 : decode cX3_takeTurns 128 = .ok (.iconst 1, 1) := by decide +kernel
theorem dX3_takeTurns_129 : decode cX3_takeTurns 129 = .ok (.bastore, 1) := by decide +kernel
theorem dX3_takeTurns_130 : decode cX3_takeTurns 130 = .ok (.iinc 1 1, 3) := by decide +kernel
theorem dX3_takeTurns_133 : decode cX3_takeTurns 133 = .ok (.goto (-131), 3) := by decide +kernel
theorem dX3_takeTurns_136 : decode cX3_takeTurns 136 = .ok (.return_, 1) := by decide +kernel
set_option maxRecDepth 20000 in
theorem ggX3_goOn_X3_puts : GoodIn wsX3_goOn wsX3_puts := goodIn_r _ [11, 6, 12, 2, 13, 14, 15, 16, 17, 18, 19, 20, 21, 22, 23, 24, 25, 26, 27, 28, 29, 30, 31, 32] (by decide +kernel) (by decide +kernel)
set_option maxRecDepth 20000 in
theorem gX3_goOn_X3_puts : GoodIn wsX3_goOn (wsV RX3 94 RX3 yX3_puts wsX3_puts) := goodIn_app (goodIn_of _ (by decide +kernel)) ggX3_goOn_X3_puts
theorem dX3_goOn_0 : decode cX3_goOn 0 = .ok (.iconst 0, 1) := by decide +kernel
theorem dX3_goOn_1 : decode cX3_goOn 1 = .ok (.istore_n 2, 1) := by decide +kernel
theorem dX3_goOn_2 : decode cX3_goOn 2 = .ok (.iload_n 2, 1) := by decide +kernel
theorem dX3_goOn_3 : decode cX3_goOn 3 = .ok (.aload_n 0, 1) := by decide +kernel
theorem dX3_goOn_4 : decode cX3_goOn 4 = .ok (.getfield 29, 3) := by decide +kernel
theorem dX3_goOn_7 : decode cX3_goOn 7 = .ok (.iload_n 1, 1) := by decide +kernel
theorem dX3_goOn_8 : decode cX3_goOn 8 = .ok (.iaload, 1) := by decide +kernel
theorem dX3_goOn_9 : decode cX3_goOn 9 = .ok (.if_icmp .ge 64, 3) := by decide +kernel
theorem dX3_goOn_12 : decode cX3_goOn 12 = .ok (.aload_n 0, 1) := by decide +kernel
theorem dX3_goOn_13 : decode cX3_goOn 13 = .ok (.getfield 32, 3) := by decide +kernel
theorem dX3_goOn_16 : decode cX3_goOn 16 = .ok (.iload_n 1, 1) := by decide +kernel
theorem dX3_goOn_17 : decode cX3_goOn 17 = .ok (.iaload, 1) := by decide +kernel
theorem dX3_goOn_18 : decode cX3_goOn 18 = .ok (.ifCond .ne 55, 3) := by decide +kernel
theorem dX3_goOn_21 : decode cX3_goOn 21 = .ok (.aload_n 0, 1) := by decide +kernel
theorem dX3_goOn_22 : decode cX3_goOn 22 = .ok (.getfield 26, 3) := by decide +kernel
theorem dX3_goOn_25 : decode cX3_goOn 25 = .ok (.bipush 6, 2) := by decide +kernel
theorem dX3_goOn_27 : decode cX3_goOn 27 = .ok (.iload_n 1, 1) := by decide +kernel
theorem dX3_goOn_28 : decode cX3_goOn 28 = .ok (.imul, 1) := by decide +kernel
theorem dX3_goOn_29 : decode cX3_goOn 29 = .ok (.iload_n 2, 1) := by decide +kernel
theorem dX3_goOn_30 : decode cX3_goOn 30 = .ok (.iadd, 1) := by decide +kernel
theorem dX3_goOn_31 : decode cX3_goOn 31 = .ok (.iaload, 1) := by decide +kernel
theorem dX3_goOn_32 : decode cX3_goOn 32 = .ok (.istore_n 3, 1) := by decide +kernel
theorem dX3_goOn_33 : decode cX3_goOn 33 = .ok (.aload_n 0, 1) := by decide +kernel
theorem dX3_goOn_34 : decode cX3_goOn 34 = .ok (.getfield 16, 3) := by decide +kernel
theorem dX3_goOn_37 : decode cX3_goOn 37 = .ok (.iload_n 3, 1) := by decide +kernel
theorem dX3_goOn_38 : decode cX3_goOn 38 = .ok (.baload, 1) := by decide +kernel
theorem dX3_goOn_39 : decode cX3_goOn 39 = .ok (.ifCond .ne 28, 3) := by decide +kernel
theorem dX3_goOn_42 : decode cX3_goOn 42 = .ok (.aload_n 0, 1) := by decide +kernel
theorem dX3_goOn_43 : decode cX3_goOn 43 = .ok (.getfield 41, 3) := by decide +kernel
theorem dX3_goOn_46 : decode cX3_goOn 46 = .ok (.iload_n 1, 1) := by decide +kernel
theorem dX3_goOn_47 : decode cX3_goOn 47 = .ok (.iaload, 1) := by decide +kernel
theorem dX3_goOn_48 : decode cX3_goOn 48 = .ok (.iload_n 3, 1) := by decide +kernel
theorem dX3_goOn_49 : decode cX3_goOn 49 = .ok (.ishr, 1) := by decide +kernel
theorem dX3_goOn_50 : decode cX3_goOn 50 = .ok (.iconst 1, 1) := by decide +kernel
theorem dX3_goOn_51 : decode cX3_goOn 51 = .ok (.iand, 1) := by decide +kernel
theorem dX3_goOn_52 : decode cX3_goOn 52 = .ok (.ifCond .ne 15, 3) := by decide +kernel
theorem dX3_goOn_55 : decode cX3_goOn 55 = .ok (.aload_n 0, 1) := by decide +kernel
theorem dX3_goOn_56 : decode cX3_goOn 56 = .ok (.iload_n 3, 1) := by decide +kernel
theorem dX3_goOn_57 : decode cX3_goOn 57 = .ok (.aload_n 0, 1) := by decide +kernel
theorem dX3_goOn_58 : decode cX3_goOn 58 = .ok (.getfield 23, 3) := by decide +kernel
theorem dX3_goOn_61 : decode cX3_goOn 61 = .ok (.iload_n 3, 1) := by decide +kernel
theorem dX3_goOn_62 : decode cX3_goOn 62 = .ok (.iaload, 1) := by decide +kernel
theorem dX3_goOn_63 : decode cX3_goOn 63 = .ok (.iload_n 1, 1) := by decide +kernel
theorem dX3_goOn_64 : decode cX3_goOn 64 = .ok (.invokevirtual 94, 3) := by decide +kernel
theorem dX3_goOn_67 : decode cX3_goOn 67 = .ok (.iinc 2 1, 3) := by decide +kernel
theorem dX3_goOn_70 : decode cX3_goOn 70 = .ok (.goto (-68), 3) := by decide +kernel
theorem dX3_goOn_73 : decode cX3_goOn 73 = .ok (.return_, 1) := by decide +kernel
set_option maxRecDepth 20000 in
theorem ggX3_goIn_X3_insideOf : GoodIn wsX3_goIn wsX3_insideOf := goodIn_r _ [15, 6, 7, 29, 30, 31, 32, 33, 34, 35, 36, 37, 38, 39, 40, 41, 42, 43, 44, 45, 46, 47] (by decide +kernel) (by decide +kernel)
set_option maxRecDepth 20000 in
theorem gX3_goIn_X3_insideOf : GoodIn wsX3_goIn (wsV RX3 98 RX3 yX3_insideOf wsX3_insideOf) := goodIn_app (goodIn_of _ (by decide +kernel)) ggX3_goIn_X3_insideOf
set_option maxRecDepth 20000 in
theorem ggX3_goIn_X3_leaves : GoodIn wsX3_goIn wsX3_leaves := goodIn_r _ [19, 7, 2, 4, 6, 20, 21, 22, 14, 23, 29, 30, 31, 32, 33, 34, 35, 36, 37, 38, 39, 40, 41, 42, 43, 44, 45, 46, 47] (by decide +kernel) (by decide +kernel)
set_option maxRecDepth 20000 in
theorem gX3_goIn_X3_leaves : GoodIn wsX3_goIn (wsV RX3 78 RX3 yX3_leaves wsX3_leaves) := goodIn_app (goodIn_of _ (by decide +kernel)) ggX3_goIn_X3_leaves
set_option maxRecDepth 20000 in
theorem ggX3_goIn_X3_loses : GoodIn wsX3_goIn wsX3_loses := goodIn_r _ [27, 28, 5, 29, 30, 31, 32, 33, 34, 35, 36, 37, 38, 39, 40, 41, 42, 43, 44, 45, 46, 47] (by decide +kernel) (by decide +kernel)
set_option maxRecDepth 20000 in
theorem gX3_goIn_X3_loses : GoodIn wsX3_goIn (wsV RX3 82 RX3 yX3_loses wsX3_loses) := goodIn_app (goodIn_of _ (by decide +kernel)) ggX3_goIn_X3_loses
theorem dX3_goIn_0 : decode cX3_goIn 0 = .ok (.aload_n 0, 1) := by decide +kernel
theorem dX3_goIn_1 : decode cX3_goIn 1 = .ok (.getfield 16, 3) := by decide +kernel
theorem dX3_goIn_4 : decode cX3_goIn 4 = .ok (.iload_n 1, 1) := by decide +kernel
theorem dX3_goIn_5 : decode cX3_goIn 5 = .ok (.baload, 1) := by decide +kernel
theorem dX3_goIn_6 : decode cX3_goIn 6 = .ok (.ifCond .ne 89, 3) := by decide +kernel
theorem dX3_goIn_9 : decode cX3_goIn 9 = .ok (.aload_n 0, 1) := by decide +kernel
theorem dX3_goIn_10 : decode cX3_goIn 10 = .ok (.getfield 23, 3) := by decide +kernel
theorem dX3_goIn_13 : decode cX3_goIn 13 = .ok (.iload_n 1, 1) := by decide +kernel
theorem dX3_goIn_14 : decode cX3_goIn 14 = .ok (.iaload, 1) := by decide +kernel
theorem dX3_goIn_15 : decode cX3_goIn 15 = .ok (.ifCond .le 80, 3) := by decide +kernel
theorem dX3_goIn_18 : decode cX3_goIn 18 = .ok (.aload_n 0, 1) := by decide +kernel
theorem dX3_goIn_19 : decode cX3_goIn 19 = .ok (.iload_n 1, 1) := by decide +kernel
theorem dX3_goIn_20 : decode cX3_goIn 20 = .ok (.invokevirtual 98, 3) := by decide +kernel
theorem dX3_goIn_23 : decode cX3_goIn 23 = .ok (.aload_n 0, 1) := by decide +kernel
theorem dX3_goIn_24 : decode cX3_goIn 24 = .ok (.getfield 7, 3) := by decide +kernel
theorem dX3_goIn_27 : decode cX3_goIn 27 = .ok (.iload_n 1, 1) := by decide +kernel
theorem dX3_goIn_28 : decode cX3_goIn 28 = .ok (.iaload, 1) := by decide +kernel
theorem dX3_goIn_29 : decode cX3_goIn 29 = .ok (.if_icmp .ge 66, 3) := by decide +kernel
theorem dX3_goIn_32 : decode cX3_goIn 32 = .ok (.aload_n 0, 1) := by decide +kernel
theorem dX3_goIn_33 : decode cX3_goIn 33 = .ok (.getfield 20, 3) := by decide +kernel
theorem dX3_goIn_36 : decode cX3_goIn 36 = .ok (.bipush 8, 2) := by decide +kernel
theorem dX3_goIn_38 : decode cX3_goIn 38 = .ok (.iload_n 1, 1) := by decide +kernel
theorem dX3_goIn_39 : decode cX3_goIn 39 = .ok (.imul, 1) := by decide +kernel
theorem dX3_goIn_40 : decode cX3_goIn 40 = .ok (.iaload, 1) := by decide +kernel
theorem dX3_goIn_41 : decode cX3_goIn 41 = .ok (.istore_n 2, 1) := by decide +kernel
theorem dX3_goIn_42 : decode cX3_goIn 42 = .ok (.aload_n 0, 1) := by decide +kernel
theorem dX3_goIn_43 : decode cX3_goIn 43 = .ok (.iload_n 2, 1) := by decide +kernel
theorem dX3_goIn_44 : decode cX3_goIn 44 = .ok (.invokevirtual 78, 3) := by decide +kernel
theorem dX3_goIn_47 : decode cX3_goIn 47 = .ok (.aload_n 0, 1) := by decide +kernel
theorem dX3_goIn_48 : decode cX3_goIn 48 = .ok (.getfield 50, 3) := by decide +kernel
theorem dX3_goIn_51 : decode cX3_goIn 51 = .ok (.iload_n 2, 1) := by decide +kernel
theorem dX3_goIn_52 : decode cX3_goIn 52 = .ok (.baload, 1) := by decide +kernel
theorem dX3_goIn_53 : decode cX3_goIn 53 = .ok (.ifCond .eq 8, 3) := by decide +kernel
theorem dX3_goIn_56 : decode cX3_goIn 56 = .ok (.aload_n 0, 1) := by decide +kernel
theorem dX3_goIn_57 : decode cX3_goIn 57 = .ok (.iload_n 2, 1) := by decide +kernel
theorem dX3_goIn_58 : decode cX3_goIn 58 = .ok (.invokevirtual 82, 3) := by decide +kernel
theorem dX3_goIn_61 : decode cX3_goIn 61 = .ok (.aload_n 0, 1) := by decide +kernel
theorem dX3_goIn_62 : decode cX3_goIn 62 = .ok (.getfield 32, 3) := by decide +kernel
theorem dX3_goIn_65 : decode cX3_goIn 65 = .ok (.iload_n 2, 1) := by decide +kernel
theorem dX3_goIn_66 : decode cX3_goIn 66 = .ok (.iconst 2, 1) := by decide +kernel
theorem dX3_goIn_67 : decode cX3_goIn 67 = .ok (.iastore, 1) := by decide +kernel
theorem dX3_goIn_68 : decode cX3_goIn 68 = .ok (.aload_n 0, 1) := by decide +kernel
theorem dX3_goIn_69 : decode cX3_goIn 69 = .ok (.getfield 35, 3) := by decide +kernel
theorem dX3_goIn_72 : decode cX3_goIn 72 = .ok (.iload_n 2, 1) := by decide +kernel
theorem dX3_goIn_73 : decode cX3_goIn 73 = .ok (.iload_n 1, 1) := by decide +kernel
theorem dX3_goIn_74 : decode cX3_goIn 74 = .ok (.iastore, 1) := by decide +kernel
theorem dX3_goIn_75 : decode cX3_goIn 75 = .ok (.aload_n 0, 1) := by decide +kernel
theorem dX3_goIn_76 : decode cX3_goIn 76 = .ok (.getfield 38, 3) := by decide +kernel
theorem dX3_goIn_79 : decode cX3_goIn 79 = .ok (.iload_n 2, 1) := by decide +kernel
theorem dX3_goIn_80 : decode cX3_goIn 80 = .ok (.aload_n 0, 1) := by decide +kernel
theorem dX3_goIn_81 : decode cX3_goIn 81 = .ok (.getfield 91, 3) := by decide +kernel
theorem dX3_goIn_84 : decode cX3_goIn 84 = .ok (.aload_n 0, 1) := by decide +kernel
theorem dX3_goIn_85 : decode cX3_goIn 85 = .ok (.getfield 13, 3) := by decide +kernel
theorem dX3_goIn_88 : decode cX3_goIn 88 = .ok (.iload_n 1, 1) := by decide +kernel
theorem dX3_goIn_89 : decode cX3_goIn 89 = .ok (.iaload, 1) := by decide +kernel
theorem dX3_goIn_90 : decode cX3_goIn 90 = .ok (.iadd, 1) := by decide +kernel
theorem dX3_goIn_91 : decode cX3_goIn 91 = .ok (.iastore, 1) := by decide +kernel
theorem dX3_goIn_92 : decode cX3_goIn 92 = .ok (.goto (-92), 3) := by decide +kernel
theorem dX3_goIn_95 : decode cX3_goIn 95 = .ok (.return_, 1) := by decide +kernel
set_option maxRecDepth 20000 in
theorem ggX3_advance_X3_goes : GoodIn wsX3_advance wsX3_goes := goodIn_r _ [6, 7, 58, 59, 60, 61, 62, 63, 64, 65, 66, 67, 68, 69, 70, 71, 72, 73, 74, 75, 76] (by decide +kernel) (by decide +kernel)
set_option maxRecDepth 20000 in
theorem gX3_advance_X3_goes : GoodIn wsX3_advance (wsV RX3 74 RX3 yX3_goes wsX3_goes) := goodIn_app (goodIn_of _ (by decide +kernel)) ggX3_advance_X3_goes
set_option maxRecDepth 20000 in
theorem ggX3_advance_X3_comeOut : GoodIn wsX3_advance wsX3_comeOut := goodIn_r _ [11, 12, 13, 1, 14, 15, 58, 59, 60, 61, 62, 63, 64, 65, 66, 67, 68, 69, 70, 71, 72, 73, 74, 75, 76] (by decide +kernel) (by decide +kernel)
set_option maxRecDepth 20000 in
theorem gX3_advance_X3_comeOut : GoodIn wsX3_advance (wsV RX3 102 RX3 yX3_comeOut wsX3_comeOut) := goodIn_app (goodIn_of _ (by decide +kernel)) ggX3_advance_X3_comeOut
set_option maxRecDepth 20000 in
theorem ggX3_advance_X3_takeTurns : GoodIn wsX3_advance wsX3_takeTurns := goodIn_r _ [19, 20, 1, 21, 22, 12, 23, 24, 25, 26, 27, 28, 5, 29, 30, 31, 32, 33, 15, 34, 35, 36, 37, 38, 39, 40, 41, 58, 59, 60, 61, 62, 63, 64, 65, 66, 67, 68, 69, 70, 71, 72, 73, 74, 75, 76] (by decide +kernel) (by decide +kernel)
set_option maxRecDepth 20000 in
theorem gX3_advance_X3_takeTurns : GoodIn wsX3_advance (wsV RX3 105 RX3 yX3_takeTurns wsX3_takeTurns) := goodIn_app (goodIn_of _ (by decide +kernel)) ggX3_advance_X3_takeTurns
set_option maxRecDepth 20000 in
theorem ggX3_advance_X3_goOn : GoodIn wsX3_advance wsX3_goOn := goodIn_r _ [45, 46, 12, 47, 23, 14, 24, 38, 39, 40, 5, 41, 25, 15, 58, 59, 60, 61, 62, 63, 64, 65, 66, 67, 68, 69, 70, 71, 72, 73, 74, 75, 76] (by decide +kernel) (by decide +kernel)
set_option maxRecDepth 20000 in
theorem gX3_advance_X3_goOn : GoodIn wsX3_advance (wsV RX3 108 RX3 yX3_goOn wsX3_goOn) := goodIn_app (goodIn_of _ (by decide +kernel)) ggX3_advance_X3_goOn
set_option maxRecDepth 20000 in
theorem ggX3_advance_X3_goIn : GoodIn wsX3_advance wsX3_goIn := goodIn_r _ [51, 23, 24, 52, 25, 21, 12, 15, 13, 1, 53, 54, 55, 56, 5, 57, 30, 31, 32, 33, 34, 35, 36, 37, 26, 27, 28, 29, 20, 58, 59, 60, 61, 62, 63, 64, 65, 66, 67, 68, 69, 70, 71, 72, 73, 74, 75, 76] (by decide +kernel) (by decide +kernel)
set_option maxRecDepth 20000 in
theorem gX3_advance_X3_goIn : GoodIn wsX3_advance (wsV RX3 111 RX3 yX3_goIn wsX3_goIn) := goodIn_app (goodIn_of _ (by decide +kernel)) ggX3_advance_X3_goIn
theorem dX3_advance_0 : decode cX3_advance 0 = .ok (.aload_n 0, 1) := by decide +kernel
theorem dX3_advance_1 : decode cX3_advance 1 = .ok (.iload_n 1, 1) := by decide +kernel
theorem dX3_advance_2 : decode cX3_advance 2 = .ok (.iconst 1, 1) := by decide +kernel
theorem dX3_advance_3 : decode cX3_advance 3 = .ok (.if_icmp .lt 13, 3) := by decide +kernel
theorem dX3_advance_6 : decode cX3_advance 6 = .ok (.iload_n 1, 1) := by decide +kernel
theorem dX3_advance_7 : decode cX3_advance 7 = .ok (.bipush 60, 2) := by decide +kernel
theorem dX3_advance_9 : decode cX3_advance 9 = .ok (.if_icmp .gt 7, 3) := by decide +kernel
theorem dX3_advance_12 : decode cX3_advance 12 = .ok (.iconst 1, 1) := by decide +kernel
theorem dX3_advance_13 : decode cX3_advance 13 = .ok (.goto 4, 3) := by decide +kernel
theorem dX3_advance_16 : decode cX3_advance 16 = .ok (.iconst 0, 1) := by decide +kernel
theorem dX3_advance_17 : decode cX3_advance 17 = .ok (.aload_n 0, 1) := by decide +kernel
theorem dX3_advance_18 : decode cX3_advance 18 = .ok (.getfield 91, 3) := by decide +kernel
theorem dX3_advance_21 : decode cX3_advance 21 = .ok (.iload_n 1, 1) := by decide +kernel
theorem dX3_advance_22 : decode cX3_advance 22 = .ok (.iadd, 1) := by decide +kernel
theorem dX3_advance_23 : decode cX3_advance 23 = .ok (.sipush 1200, 3) := by decide +kernel
theorem dX3_advance_26 : decode cX3_advance 26 = .ok (.if_icmp .gt 7, 3) := by decide +kernel
theorem dX3_advance_29 : decode cX3_advance 29 = .ok (.iconst 1, 1) := by decide +kernel
theorem dX3_advance_30 : decode cX3_advance 30 = .ok (.goto 4, 3) := by decide +kernel
theorem dX3_advance_33 : decode cX3_advance 33 = .ok (.iconst 0, 1) := by decide +kernel
theorem dX3_advance_34 : decode cX3_advance 34 = .ok (.invokevirtual 74, 3) := by decide +kernel
theorem dX3_advance_37 : decode cX3_advance 37 = .ok (.ifCond .ne 5, 3) := by decide +kernel
theorem dX3_advance_40 : decode cX3_advance 40 = .ok (.iconst 0, 1) := by decide +kernel
theorem dX3_advance_41 : decode cX3_advance 41 = .ok (.ireturn, 1) := by decide +kernel
theorem dX3_advance_42 : decode cX3_advance 42 = .ok (.iconst 0, 1) := by decide +kernel
theorem dX3_advance_43 : decode cX3_advance 43 = .ok (.istore_n 2, 1) := by decide +kernel
theorem dX3_advance_44 : decode cX3_advance 44 = .ok (.iload_n 2, 1) := by decide +kernel
theorem dX3_advance_45 : decode cX3_advance 45 = .ok (.iload_n 1, 1) := by decide +kernel
theorem dX3_advance_46 : decode cX3_advance 46 = .ok (.if_icmp .ge 65, 3) := by decide +kernel
theorem dX3_advance_49 : decode cX3_advance 49 = .ok (.aload_n 0, 1) := by decide +kernel
theorem dX3_advance_50 : decode cX3_advance 50 = .ok (.dup, 1) := by decide +kernel
theorem dX3_advance_51 : decode cX3_advance 51 = .ok (.getfield 91, 3) := by decide +kernel
theorem dX3_advance_54 : decode cX3_advance 54 = .ok (.iconst 1, 1) := by decide +kernel
theorem dX3_advance_55 : decode cX3_advance 55 = .ok (.iadd, 1) := by decide +kernel
theorem dX3_advance_56 : decode cX3_advance 56 = .ok (.putfield 91, 3) := by decide +kernel
theorem dX3_advance_59 : decode cX3_advance 59 = .ok (.aload_n 0, 1) := by decide +kernel
theorem dX3_advance_60 : decode cX3_advance 60 = .ok (.invokevirtual 102, 3) := by decide +kernel
theorem dX3_advance_63 : decode cX3_advance 63 = .ok (.aload_n 0, 1) := by decide +kernel
theorem dX3_advance_64 : decode cX3_advance 64 = .ok (.invokevirtual 105, 3) := by decide +kernel
theorem dX3_advance_67 : decode cX3_advance 67 = .ok (.iconst 0, 1) := by decide +kernel
theorem dX3_advance_68 : decode cX3_advance 68 = .ok (.istore_n 3, 1) := by decide +kernel
theorem dX3_advance_69 : decode cX3_advance 69 = .ok (.iload_n 3, 1) := by decide +kernel
theorem dX3_advance_70 : decode cX3_advance 70 = .ok (.bipush 8, 2) := by decide +kernel
theorem dX3_advance_72 : decode cX3_advance 72 = .ok (.if_icmp .ge 14, 3) := by decide +kernel
theorem dX3_advance_75 : decode cX3_advance 75 = .ok (.aload_n 0, 1) := by decide +kernel
theorem dX3_advance_76 : decode cX3_advance 76 = .ok (.iload_n 3, 1) := by decide +kernel
theorem dX3_advance_77 : decode cX3_advance 77 = .ok (.invokevirtual 108, 3) := by decide +kernel
theorem dX3_advance_80 : decode cX3_advance 80 = .ok (.iinc 3 1, 3) := by decide +kernel
theorem dX3_advance_83 : decode cX3_advance 83 = .ok (.goto (-14), 3) := by decide +kernel
theorem dX3_advance_86 : decode cX3_advance 86 = .ok (.iconst 0, 1) := by decide +kernel
theorem dX3_advance_87 : decode cX3_advance 87 = .ok (.istore_n 3, 1) := by decide +kernel
theorem dX3_advance_88 : decode cX3_advance 88 = .ok (.iload_n 3, 1) := by decide +kernel
theorem dX3_advance_89 : decode cX3_advance 89 = .ok (.bipush 6, 2) := by decide +kernel
theorem dX3_advance_91 : decode cX3_advance 91 = .ok (.if_icmp .ge 14, 3) := by decide +kernel
theorem dX3_advance_94 : decode cX3_advance 94 = .ok (.aload_n 0, 1) := by decide +kernel
theorem dX3_advance_95 : decode cX3_advance 95 = .ok (.iload_n 3, 1) := by decide +kernel
theorem dX3_advance_96 : decode cX3_advance 96 = .ok (.invokevirtual 111, 3) := by decide +kernel
theorem dX3_advance_99 : decode cX3_advance 99 = .ok (.iinc 3 1, 3) := by decide +kernel
theorem dX3_advance_102 : decode cX3_advance 102 = .ok (.goto (-14), 3) := by decide +kernel
theorem dX3_advance_105 : decode cX3_advance 105 = .ok (.iinc 2 1, 3) := by decide +kernel
theorem dX3_advance_108 : decode cX3_advance 108 = .ok (.goto (-64), 3) := by decide +kernel
theorem dX3_advance_111 : decode cX3_advance 111 = .ok (.aload_n 0, 1) := by decide +kernel
theorem dX3_advance_112 : decode cX3_advance 112 = .ok (.getfield 91, 3) := by decide +kernel
theorem dX3_advance_115 : decode cX3_advance 115 = .ok (.ireturn, 1) := by decide +kernel
set_option maxRecDepth 20000 in
theorem ggX3_send_X3_isVisitor : GoodIn wsX3_send wsX3_isVisitor := goodIn_r _ [8] (by decide +kernel) (by decide +kernel)
set_option maxRecDepth 20000 in
theorem gX3_send_X3_isVisitor : GoodIn wsX3_send (va_wsS RX3 85 yX3_isVisitor wsX3_isVisitor) := goodIn_app (goodIn_of _ (by decide +kernel)) ggX3_send_X3_isVisitor
set_option maxRecDepth 20000 in
theorem ggX3_send_X3_isPavilion : GoodIn wsX3_send wsX3_isPavilion := goodIn_r _ [11] (by decide +kernel) (by decide +kernel)
set_option maxRecDepth 20000 in
theorem gX3_send_X3_isPavilion : GoodIn wsX3_send (va_wsS RX3 70 yX3_isPavilion wsX3_isPavilion) := goodIn_app (goodIn_of _ (by decide +kernel)) ggX3_send_X3_isPavilion
set_option maxRecDepth 20000 in
theorem ggX3_send_X3_goes : GoodIn wsX3_send wsX3_goes := goodIn_r _ [15, 16, 17, 18, 19, 20, 21, 22, 23, 24, 25, 26, 27, 28, 29, 30, 31, 32, 33, 34, 35] (by decide +kernel) (by decide +kernel)
set_option maxRecDepth 20000 in
theorem gX3_send_X3_goes : GoodIn wsX3_send (wsV RX3 74 RX3 yX3_goes wsX3_goes) := goodIn_app (goodIn_of _ (by decide +kernel)) ggX3_send_X3_goes
theorem dX3_send_0 : decode cX3_send 0 = .ok (.iload_n 1, 1) := by decide +kernel
theorem dX3_send_1 : decode cX3_send 1 = .ok (.invokestatic 85, 3) := by decide +kernel
theorem dX3_send_4 : decode cX3_send 4 = .ok (.ifCond .eq 14, 3) := by decide +kernel
theorem dX3_send_7 : decode cX3_send 7 = .ok (.iload_n 2, 1) := by decide +kernel
theorem dX3_send_8 : decode cX3_send 8 = .ok (.invokestatic 70, 3) := by decide +kernel
theorem dX3_send_11 : decode cX3_send 11 = .ok (.ifCond .eq 7, 3) := by decide +kernel
theorem dX3_send_14 : decode cX3_send 14 = .ok (.iconst 1, 1) := by decide +kernel
theorem dX3_send_15 : decode cX3_send 15 = .ok (.goto 4, 3) := by decide +kernel
theorem dX3_send_18 : decode cX3_send 18 = .ok (.iconst 0, 1) := by decide +kernel
theorem dX3_send_19 : decode cX3_send 19 = .ok (.istore_n 3, 1) := by decide +kernel
theorem dX3_send_20 : decode cX3_send 20 = .ok (.aload_n 0, 1) := by decide +kernel
theorem dX3_send_21 : decode cX3_send 21 = .ok (.iload_n 3, 1) := by decide +kernel
theorem dX3_send_22 : decode cX3_send 22 = .ok (.iload_n 3, 1) := by decide +kernel
theorem dX3_send_23 : decode cX3_send 23 = .ok (.ifCond .eq 21, 3) := by decide +kernel
theorem dX3_send_26 : decode cX3_send 26 = .ok (.aload_n 0, 1) := by decide +kernel
theorem dX3_send_27 : decode cX3_send 27 = .ok (.getfield 41, 3) := by decide +kernel
theorem dX3_send_30 : decode cX3_send 30 = .ok (.iload_n 1, 1) := by decide +kernel
theorem dX3_send_31 : decode cX3_send 31 = .ok (.iaload, 1) := by decide +kernel
theorem dX3_send_32 : decode cX3_send 32 = .ok (.iload_n 2, 1) := by decide +kernel
theorem dX3_send_33 : decode cX3_send 33 = .ok (.ishr, 1) := by decide +kernel
theorem dX3_send_34 : decode cX3_send 34 = .ok (.iconst 1, 1) := by decide +kernel
theorem dX3_send_35 : decode cX3_send 35 = .ok (.iand, 1) := by decide +kernel
theorem dX3_send_36 : decode cX3_send 36 = .ok (.iconst 1, 1) := by decide +kernel
theorem dX3_send_37 : decode cX3_send 37 = .ok (.if_icmp .ne 7, 3) := by decide +kernel
theorem dX3_send_40 : decode cX3_send 40 = .ok (.iconst 1, 1) := by decide +kernel
theorem dX3_send_41 : decode cX3_send 41 = .ok (.goto 4, 3) := by decide +kernel
theorem dX3_send_44 : decode cX3_send 44 = .ok (.iconst 0, 1) := by decide +kernel
theorem dX3_send_45 : decode cX3_send 45 = .ok (.invokevirtual 74, 3) := by decide +kernel
theorem dX3_send_48 : decode cX3_send 48 = .ok (.ifCond .ne 5, 3) := by decide +kernel
theorem dX3_send_51 : decode cX3_send 51 = .ok (.iconst 0, 1) := by decide +kernel
theorem dX3_send_52 : decode cX3_send 52 = .ok (.ireturn, 1) := by decide +kernel
theorem dX3_send_53 : decode cX3_send 53 = .ok (.aload_n 0, 1) := by decide +kernel
theorem dX3_send_54 : decode cX3_send 54 = .ok (.getfield 53, 3) := by decide +kernel
theorem dX3_send_57 : decode cX3_send 57 = .ok (.iload_n 2, 1) := by decide +kernel
theorem dX3_send_58 : decode cX3_send 58 = .ok (.iaload, 1) := by decide +kernel
theorem dX3_send_59 : decode cX3_send 59 = .ok (.ifCond .ne 15, 3) := by decide +kernel
theorem dX3_send_62 : decode cX3_send 62 = .ok (.aload_n 0, 1) := by decide +kernel
theorem dX3_send_63 : decode cX3_send 63 = .ok (.getfield 56, 3) := by decide +kernel
theorem dX3_send_66 : decode cX3_send 66 = .ok (.iload_n 2, 1) := by decide +kernel
theorem dX3_send_67 : decode cX3_send 67 = .ok (.dup2, 1) := by decide +kernel
theorem dX3_send_68 : decode cX3_send 68 = .ok (.iaload, 1) := by decide +kernel
theorem dX3_send_69 : decode cX3_send 69 = .ok (.iconst 1, 1) := by decide +kernel
theorem dX3_send_70 : decode cX3_send 70 = .ok (.iadd, 1) := by decide +kernel
theorem dX3_send_71 : decode cX3_send 71 = .ok (.iastore, 1) := by decide +kernel
theorem dX3_send_72 : decode cX3_send 72 = .ok (.iconst 0, 1) := by decide +kernel
theorem dX3_send_73 : decode cX3_send 73 = .ok (.ireturn, 1) := by decide +kernel
theorem dX3_send_74 : decode cX3_send 74 = .ok (.aload_n 0, 1) := by decide +kernel
theorem dX3_send_75 : decode cX3_send 75 = .ok (.getfield 53, 3) := by decide +kernel
theorem dX3_send_78 : decode cX3_send 78 = .ok (.iload_n 2, 1) := by decide +kernel
theorem dX3_send_79 : decode cX3_send 79 = .ok (.dup2, 1) := by decide +kernel
theorem dX3_send_80 : decode cX3_send 80 = .ok (.iaload, 1) := by decide +kernel
theorem dX3_send_81 : decode cX3_send 81 = .ok (.iconst 1, 1) := by decide +kernel
theorem dX3_send_82 : decode cX3_send 82 = .ok (.isub, 1) := by decide +kernel
theorem dX3_send_83 : decode cX3_send 83 = .ok (.iastore, 1) := by decide +kernel
theorem dX3_send_84 : decode cX3_send 84 = .ok (.aload_n 0, 1) := by decide +kernel
theorem dX3_send_85 : decode cX3_send 85 = .ok (.getfield 59, 3) := by decide +kernel
theorem dX3_send_88 : decode cX3_send 88 = .ok (.bipush 6, 2) := by decide +kernel
theorem dX3_send_90 : decode cX3_send 90 = .ok (.iload_n 1, 1) := by decide +kernel
theorem dX3_send_91 : decode cX3_send 91 = .ok (.imul, 1) := by decide +kernel
theorem dX3_send_92 : decode cX3_send 92 = .ok (.iload_n 2, 1) := by decide +kernel
theorem dX3_send_93 : decode cX3_send 93 = .ok (.iadd, 1) := by decide +kernel
theorem dX3_send_94 : decode cX3_send 94 = .ok (.dup2, 1) := by decide +kernel
theorem dX3_send_95 : decode cX3_send 95 = .ok (.iaload, 1) := by decide +kernel
theorem dX3_send_96 : decode cX3_send 96 = .ok (.iconst 1, 1) := by decide +kernel
theorem dX3_send_97 : decode cX3_send 97 = .ok (.iadd, 1) := by decide +kernel
theorem dX3_send_98 : decode cX3_send 98 = .ok (.iastore, 1) := by decide +kernel
theorem dX3_send_99 : decode cX3_send 99 = .ok (.iconst 1, 1) := by decide +kernel
theorem dX3_send_100 : decode cX3_send 100 = .ok (.ireturn, 1) := by decide +kernel
set_option maxRecDepth 20000 in
theorem ggX3_reprint_X3_goes : GoodIn wsX3_reprint wsX3_goes := goodIn_r _ [7, 8, 9, 10, 11, 12, 13, 14, 15, 16, 17, 18, 19, 20, 21, 22, 23, 24, 25, 26, 27] (by decide +kernel) (by decide +kernel)
set_option maxRecDepth 20000 in
theorem gX3_reprint_X3_goes : GoodIn wsX3_reprint (wsV RX3 74 RX3 yX3_goes wsX3_goes) := goodIn_app (goodIn_of _ (by decide +kernel)) ggX3_reprint_X3_goes
theorem dX3_reprint_0 : decode cX3_reprint 0 = .ok (.aload_n 0, 1) := by decide +kernel
theorem dX3_reprint_1 : decode cX3_reprint 1 = .ok (.iload_n 1, 1) := by decide +kernel
theorem dX3_reprint_2 : decode cX3_reprint 2 = .ok (.iconst 1, 1) := by decide +kernel
theorem dX3_reprint_3 : decode cX3_reprint 3 = .ok (.if_icmp .lt 14, 3) := by decide +kernel
theorem dX3_reprint_6 : decode cX3_reprint 6 = .ok (.iload_n 1, 1) := by decide +kernel
theorem dX3_reprint_7 : decode cX3_reprint 7 = .ok (.sipush 1000, 3) := by decide +kernel
theorem dX3_reprint_10 : decode cX3_reprint 10 = .ok (.if_icmp .gt 7, 3) := by decide +kernel
theorem dX3_reprint_13 : decode cX3_reprint 13 = .ok (.iconst 1, 1) := by decide +kernel
theorem dX3_reprint_14 : decode cX3_reprint 14 = .ok (.goto 4, 3) := by decide +kernel
theorem dX3_reprint_17 : decode cX3_reprint 17 = .ok (.iconst 0, 1) := by decide +kernel
theorem dX3_reprint_18 : decode cX3_reprint 18 = .ok (.iconst 1, 1) := by decide +kernel
theorem dX3_reprint_19 : decode cX3_reprint 19 = .ok (.invokevirtual 74, 3) := by decide +kernel
theorem dX3_reprint_22 : decode cX3_reprint 22 = .ok (.ifCond .ne 5, 3) := by decide +kernel
theorem dX3_reprint_25 : decode cX3_reprint 25 = .ok (.iconst 0, 1) := by decide +kernel
theorem dX3_reprint_26 : decode cX3_reprint 26 = .ok (.ireturn, 1) := by decide +kernel
theorem dX3_reprint_27 : decode cX3_reprint 27 = .ok (.iconst 0, 1) := by decide +kernel
theorem dX3_reprint_28 : decode cX3_reprint 28 = .ok (.istore_n 2, 1) := by decide +kernel
theorem dX3_reprint_29 : decode cX3_reprint 29 = .ok (.iconst 0, 1) := by decide +kernel
theorem dX3_reprint_30 : decode cX3_reprint 30 = .ok (.istore_n 3, 1) := by decide +kernel
theorem dX3_reprint_31 : decode cX3_reprint 31 = .ok (.iload_n 3, 1) := by decide +kernel
theorem dX3_reprint_32 : decode cX3_reprint 32 = .ok (.bipush 6, 2) := by decide +kernel
theorem dX3_reprint_34 : decode cX3_reprint 34 = .ok (.if_icmp .ge 50, 3) := by decide +kernel
theorem dX3_reprint_37 : decode cX3_reprint 37 = .ok (.aload_n 0, 1) := by decide +kernel
theorem dX3_reprint_38 : decode cX3_reprint 38 = .ok (.getfield 56, 3) := by decide +kernel
theorem dX3_reprint_41 : decode cX3_reprint 41 = .ok (.iload_n 3, 1) := by decide +kernel
theorem dX3_reprint_42 : decode cX3_reprint 42 = .ok (.iaload, 1) := by decide +kernel
theorem dX3_reprint_43 : decode cX3_reprint 43 = .ok (.iload_n 1, 1) := by decide +kernel
theorem dX3_reprint_44 : decode cX3_reprint 44 = .ok (.if_icmp .lt 34, 3) := by decide +kernel
theorem dX3_reprint_47 : decode cX3_reprint 47 = .ok (.aload_n 0, 1) := by decide +kernel
theorem dX3_reprint_48 : decode cX3_reprint 48 = .ok (.getfield 53, 3) := by decide +kernel
theorem dX3_reprint_51 : decode cX3_reprint 51 = .ok (.iload_n 3, 1) := by decide +kernel
theorem dX3_reprint_52 : decode cX3_reprint 52 = .ok (.dup2, 1) := by decide +kernel
theorem dX3_reprint_53 : decode cX3_reprint 53 = .ok (.iaload, 1) := by decide +kernel
theorem dX3_reprint_54 : decode cX3_reprint 54 = .ok (.aload_n 0, 1) := by decide +kernel
theorem dX3_reprint_55 : decode cX3_reprint 55 = .ok (.getfield 56, 3) := by decide +kernel
theorem dX3_reprint_58 : decode cX3_reprint 58 = .ok (.iload_n 3, 1) := by decide +kernel
theorem dX3_reprint_59 : decode cX3_reprint 59 = .ok (.iaload, 1) := by decide +kernel
theorem dX3_reprint_60 : decode cX3_reprint 60 = .ok (.iadd, 1) := by decide +kernel
theorem dX3_reprint_61 : decode cX3_reprint 61 = .ok (.iastore, 1) := by decide +kernel
theorem dX3_reprint_62 : decode cX3_reprint 62 = .ok (.iload_n 2, 1) := by decide +kernel
theorem dX3_reprint_63 : decode cX3_reprint 63 = .ok (.aload_n 0, 1) := by decide +kernel
theorem dX3_reprint_64 : decode cX3_reprint 64 = .ok (.getfield 56, 3) := by decide +kernel
theorem dX3_reprint_67 : decode cX3_reprint 67 = .ok (.iload_n 3, 1) := by decide +kernel
theorem dX3_reprint_68 : decode cX3_reprint 68 = .ok (.iaload, 1) := by decide +kernel
theorem dX3_reprint_69 : decode cX3_reprint 69 = .ok (.iadd, 1) := by decide +kernel
theorem dX3_reprint_70 : decode cX3_reprint 70 = .ok (.istore_n 2, 1) := by decide +kernel
theorem dX3_reprint_71 : decode cX3_reprint 71 = .ok (.aload_n 0, 1) := by decide +kernel
theorem dX3_reprint_72 : decode cX3_reprint 72 = .ok (.getfield 56, 3) := by decide +kernel
theorem dX3_reprint_75 : decode cX3_reprint 75 = .ok (.iload_n 3, 1) := by decide +kernel
theorem dX3_reprint_76 : decode cX3_reprint 76 = .ok (.iconst 0, 1) := by decide +kernel
theorem dX3_reprint_77 : decode cX3_reprint 77 = .ok (.iastore, 1) := by decide +kernel
theorem dX3_reprint_78 : decode cX3_reprint 78 = .ok (.iinc 3 1, 3) := by decide +kernel
theorem dX3_reprint_81 : decode cX3_reprint 81 = .ok (.goto (-50), 3) := by decide +kernel
theorem dX3_reprint_84 : decode cX3_reprint 84 = .ok (.iload_n 2, 1) := by decide +kernel
theorem dX3_reprint_85 : decode cX3_reprint 85 = .ok (.ireturn, 1) := by decide +kernel
theorem dX3_minute_0 : decode cX3_minute 0 = .ok (.aload_n 0, 1) := by decide +kernel
theorem dX3_minute_1 : decode cX3_minute 1 = .ok (.iconst 0, 1) := by decide +kernel
theorem dX3_minute_2 : decode cX3_minute 2 = .ok (.putfield 62, 3) := by decide +kernel
theorem dX3_minute_5 : decode cX3_minute 5 = .ok (.aload_n 0, 1) := by decide +kernel
theorem dX3_minute_6 : decode cX3_minute 6 = .ok (.getfield 91, 3) := by decide +kernel
theorem dX3_minute_9 : decode cX3_minute 9 = .ok (.ireturn, 1) := by decide +kernel
set_option maxRecDepth 20000 in
theorem ggX3_stateOf_X3_isVisitor : GoodIn wsX3_stateOf wsX3_isVisitor := goodIn_r _ [5] (by decide +kernel) (by decide +kernel)
set_option maxRecDepth 20000 in
theorem gX3_stateOf_X3_isVisitor : GoodIn wsX3_stateOf (va_wsS RX3 85 yX3_isVisitor wsX3_isVisitor) := goodIn_app (goodIn_of _ (by decide +kernel)) ggX3_stateOf_X3_isVisitor
set_option maxRecDepth 20000 in
theorem ggX3_stateOf_X3_goes : GoodIn wsX3_stateOf wsX3_goes := goodIn_r _ [9, 10, 11, 12, 13, 14, 15, 16, 17, 18, 19, 20, 21, 22, 23, 24, 25, 26, 27, 28, 29] (by decide +kernel) (by decide +kernel)
set_option maxRecDepth 20000 in
theorem gX3_stateOf_X3_goes : GoodIn wsX3_stateOf (wsV RX3 74 RX3 yX3_goes wsX3_goes) := goodIn_app (goodIn_of _ (by decide +kernel)) ggX3_stateOf_X3_goes
theorem dX3_stateOf_0 : decode cX3_stateOf 0 = .ok (.aload_n 0, 1) := by decide +kernel
theorem dX3_stateOf_1 : decode cX3_stateOf 1 = .ok (.iload_n 1, 1) := by decide +kernel
theorem dX3_stateOf_2 : decode cX3_stateOf 2 = .ok (.invokestatic 85, 3) := by decide +kernel
theorem dX3_stateOf_5 : decode cX3_stateOf 5 = .ok (.iconst 1, 1) := by decide +kernel
theorem dX3_stateOf_6 : decode cX3_stateOf 6 = .ok (.invokevirtual 74, 3) := by decide +kernel
theorem dX3_stateOf_9 : decode cX3_stateOf 9 = .ok (.ifCond .eq 12, 3) := by decide +kernel
theorem dX3_stateOf_12 : decode cX3_stateOf 12 = .ok (.aload_n 0, 1) := by decide +kernel
theorem dX3_stateOf_13 : decode cX3_stateOf 13 = .ok (.getfield 32, 3) := by decide +kernel
theorem dX3_stateOf_16 : decode cX3_stateOf 16 = .ok (.iload_n 1, 1) := by decide +kernel
theorem dX3_stateOf_17 : decode cX3_stateOf 17 = .ok (.iaload, 1) := by decide +kernel
theorem dX3_stateOf_18 : decode cX3_stateOf 18 = .ok (.goto 4, 3) := by decide +kernel
theorem dX3_stateOf_21 : decode cX3_stateOf 21 = .ok (.iconst 0, 1) := by decide +kernel
theorem dX3_stateOf_22 : decode cX3_stateOf 22 = .ok (.ireturn, 1) := by decide +kernel
set_option maxRecDepth 20000 in
theorem ggX3_whereIs_X3_isVisitor : GoodIn wsX3_whereIs wsX3_isVisitor := goodIn_r _ [5] (by decide +kernel) (by decide +kernel)
set_option maxRecDepth 20000 in
theorem gX3_whereIs_X3_isVisitor : GoodIn wsX3_whereIs (va_wsS RX3 85 yX3_isVisitor wsX3_isVisitor) := goodIn_app (goodIn_of _ (by decide +kernel)) ggX3_whereIs_X3_isVisitor
set_option maxRecDepth 20000 in
theorem ggX3_whereIs_X3_goes : GoodIn wsX3_whereIs wsX3_goes := goodIn_r _ [9, 10, 11, 12, 13, 14, 15, 16, 17, 18, 19, 20, 21, 22, 23, 24, 25, 26, 27, 28, 29] (by decide +kernel) (by decide +kernel)
set_option maxRecDepth 20000 in
theorem gX3_whereIs_X3_goes : GoodIn wsX3_whereIs (wsV RX3 74 RX3 yX3_goes wsX3_goes) := goodIn_app (goodIn_of _ (by decide +kernel)) ggX3_whereIs_X3_goes
theorem dX3_whereIs_0 : decode cX3_whereIs 0 = .ok (.aload_n 0, 1) := by decide +kernel
theorem dX3_whereIs_1 : decode cX3_whereIs 1 = .ok (.iload_n 1, 1) := by decide +kernel
theorem dX3_whereIs_2 : decode cX3_whereIs 2 = .ok (.invokestatic 85, 3) := by decide +kernel
theorem dX3_whereIs_5 : decode cX3_whereIs 5 = .ok (.iconst 1, 1) := by decide +kernel
theorem dX3_whereIs_6 : decode cX3_whereIs 6 = .ok (.invokevirtual 74, 3) := by decide +kernel
theorem dX3_whereIs_9 : decode cX3_whereIs 9 = .ok (.ifCond .eq 12, 3) := by decide +kernel
theorem dX3_whereIs_12 : decode cX3_whereIs 12 = .ok (.aload_n 0, 1) := by decide +kernel
theorem dX3_whereIs_13 : decode cX3_whereIs 13 = .ok (.getfield 35, 3) := by decide +kernel
theorem dX3_whereIs_16 : decode cX3_whereIs 16 = .ok (.iload_n 1, 1) := by decide +kernel
theorem dX3_whereIs_17 : decode cX3_whereIs 17 = .ok (.iaload, 1) := by decide +kernel
theorem dX3_whereIs_18 : decode cX3_whereIs 18 = .ok (.goto 4, 3) := by decide +kernel
theorem dX3_whereIs_21 : decode cX3_whereIs 21 = .ok (.iconst 0, 1) := by decide +kernel
theorem dX3_whereIs_22 : decode cX3_whereIs 22 = .ok (.ireturn, 1) := by decide +kernel
set_option maxRecDepth 20000 in
theorem ggX3_placeOf_X3_isVisitor : GoodIn wsX3_placeOf wsX3_isVisitor := goodIn_r _ [6] (by decide +kernel) (by decide +kernel)
set_option maxRecDepth 20000 in
theorem gX3_placeOf_X3_isVisitor : GoodIn wsX3_placeOf (va_wsS RX3 85 yX3_isVisitor wsX3_isVisitor) := goodIn_app (goodIn_of _ (by decide +kernel)) ggX3_placeOf_X3_isVisitor
set_option maxRecDepth 20000 in
theorem ggX3_placeOf_X3_goes : GoodIn wsX3_placeOf wsX3_goes := goodIn_r _ [10, 11, 18, 19, 20, 21, 22, 23, 24, 25, 26, 27, 28, 29, 30, 31, 32, 33, 34, 35, 36] (by decide +kernel) (by decide +kernel)
set_option maxRecDepth 20000 in
theorem gX3_placeOf_X3_goes : GoodIn wsX3_placeOf (wsV RX3 74 RX3 yX3_goes wsX3_goes) := goodIn_app (goodIn_of _ (by decide +kernel)) ggX3_placeOf_X3_goes
set_option maxRecDepth 20000 in
theorem ggX3_placeOf_X3_placeIn : GoodIn wsX3_placeOf wsX3_placeIn := goodIn_r _ [15, 16, 17, 18, 19, 20, 21, 22, 23, 24, 25, 26, 27, 28, 29, 30, 31, 32, 33, 34, 35, 36] (by decide +kernel) (by decide +kernel)
set_option maxRecDepth 20000 in
theorem gX3_placeOf_X3_placeIn : GoodIn wsX3_placeOf (wsV RX3 66 RX3 yX3_placeIn wsX3_placeIn) := goodIn_app (goodIn_of _ (by decide +kernel)) ggX3_placeOf_X3_placeIn
theorem dX3_placeOf_0 : decode cX3_placeOf 0 = .ok (.aload_n 0, 1) := by decide +kernel
theorem dX3_placeOf_1 : decode cX3_placeOf 1 = .ok (.iload_n 1, 1) := by decide +kernel
theorem dX3_placeOf_2 : decode cX3_placeOf 2 = .ok (.invokestatic 85, 3) := by decide +kernel
theorem dX3_placeOf_5 : decode cX3_placeOf 5 = .ok (.iconst 1, 1) := by decide +kernel
theorem dX3_placeOf_6 : decode cX3_placeOf 6 = .ok (.invokevirtual 74, 3) := by decide +kernel
theorem dX3_placeOf_9 : decode cX3_placeOf 9 = .ok (.ifCond .ne 5, 3) := by decide +kernel
theorem dX3_placeOf_12 : decode cX3_placeOf 12 = .ok (.iconst 0, 1) := by decide +kernel
theorem dX3_placeOf_13 : decode cX3_placeOf 13 = .ok (.ireturn, 1) := by decide +kernel
theorem dX3_placeOf_14 : decode cX3_placeOf 14 = .ok (.aload_n 0, 1) := by decide +kernel
theorem dX3_placeOf_15 : decode cX3_placeOf 15 = .ok (.getfield 32, 3) := by decide +kernel
theorem dX3_placeOf_18 : decode cX3_placeOf 18 = .ok (.iload_n 1, 1) := by decide +kernel
theorem dX3_placeOf_19 : decode cX3_placeOf 19 = .ok (.iaload, 1) := by decide +kernel
theorem dX3_placeOf_20 : decode cX3_placeOf 20 = .ok (.iconst 1, 1) := by decide +kernel
theorem dX3_placeOf_21 : decode cX3_placeOf 21 = .ok (.if_icmp .ne 17, 3) := by decide +kernel
theorem dX3_placeOf_24 : decode cX3_placeOf 24 = .ok (.aload_n 0, 1) := by decide +kernel
theorem dX3_placeOf_25 : decode cX3_placeOf 25 = .ok (.aload_n 0, 1) := by decide +kernel
theorem dX3_placeOf_26 : decode cX3_placeOf 26 = .ok (.getfield 35, 3) := by decide +kernel
theorem dX3_placeOf_29 : decode cX3_placeOf 29 = .ok (.iload_n 1, 1) := by decide +kernel
theorem dX3_placeOf_30 : decode cX3_placeOf 30 = .ok (.iaload, 1) := by decide +kernel
theorem dX3_placeOf_31 : decode cX3_placeOf 31 = .ok (.iload_n 1, 1) := by decide +kernel
theorem dX3_placeOf_32 : decode cX3_placeOf 32 = .ok (.invokevirtual 66, 3) := by decide +kernel
theorem dX3_placeOf_35 : decode cX3_placeOf 35 = .ok (.goto 4, 3) := by decide +kernel
theorem dX3_placeOf_38 : decode cX3_placeOf 38 = .ok (.iconst (-1), 1) := by decide +kernel
theorem dX3_placeOf_39 : decode cX3_placeOf 39 = .ok (.ireturn, 1) := by decide +kernel
set_option maxRecDepth 20000 in
theorem ggX3_turnOf_X3_isVisitor : GoodIn wsX3_turnOf wsX3_isVisitor := goodIn_r _ [5] (by decide +kernel) (by decide +kernel)
set_option maxRecDepth 20000 in
theorem gX3_turnOf_X3_isVisitor : GoodIn wsX3_turnOf (va_wsS RX3 85 yX3_isVisitor wsX3_isVisitor) := goodIn_app (goodIn_of _ (by decide +kernel)) ggX3_turnOf_X3_isVisitor
set_option maxRecDepth 20000 in
theorem ggX3_turnOf_X3_goes : GoodIn wsX3_turnOf wsX3_goes := goodIn_r _ [9, 10, 11, 12, 13, 14, 15, 16, 17, 18, 19, 20, 21, 22, 23, 24, 25, 26, 27, 28, 29] (by decide +kernel) (by decide +kernel)
set_option maxRecDepth 20000 in
theorem gX3_turnOf_X3_goes : GoodIn wsX3_turnOf (wsV RX3 74 RX3 yX3_goes wsX3_goes) := goodIn_app (goodIn_of _ (by decide +kernel)) ggX3_turnOf_X3_goes
theorem dX3_turnOf_0 : decode cX3_turnOf 0 = .ok (.aload_n 0, 1) := by decide +kernel
theorem dX3_turnOf_1 : decode cX3_turnOf 1 = .ok (.iload_n 1, 1) := by decide +kernel
theorem dX3_turnOf_2 : decode cX3_turnOf 2 = .ok (.invokestatic 85, 3) := by decide +kernel
theorem dX3_turnOf_5 : decode cX3_turnOf 5 = .ok (.iconst 1, 1) := by decide +kernel
theorem dX3_turnOf_6 : decode cX3_turnOf 6 = .ok (.invokevirtual 74, 3) := by decide +kernel
theorem dX3_turnOf_9 : decode cX3_turnOf 9 = .ok (.ifCond .eq 12, 3) := by decide +kernel
theorem dX3_turnOf_12 : decode cX3_turnOf 12 = .ok (.aload_n 0, 1) := by decide +kernel
theorem dX3_turnOf_13 : decode cX3_turnOf 13 = .ok (.getfield 44, 3) := by decide +kernel
theorem dX3_turnOf_16 : decode cX3_turnOf 16 = .ok (.iload_n 1, 1) := by decide +kernel
theorem dX3_turnOf_17 : decode cX3_turnOf 17 = .ok (.iaload, 1) := by decide +kernel
theorem dX3_turnOf_18 : decode cX3_turnOf 18 = .ok (.goto 4, 3) := by decide +kernel
theorem dX3_turnOf_21 : decode cX3_turnOf 21 = .ok (.iconst 0, 1) := by decide +kernel
theorem dX3_turnOf_22 : decode cX3_turnOf 22 = .ok (.ireturn, 1) := by decide +kernel
set_option maxRecDepth 20000 in
theorem ggX3_stamps_X3_isVisitor : GoodIn wsX3_stamps wsX3_isVisitor := goodIn_r _ [5] (by decide +kernel) (by decide +kernel)
set_option maxRecDepth 20000 in
theorem gX3_stamps_X3_isVisitor : GoodIn wsX3_stamps (va_wsS RX3 85 yX3_isVisitor wsX3_isVisitor) := goodIn_app (goodIn_of _ (by decide +kernel)) ggX3_stamps_X3_isVisitor
set_option maxRecDepth 20000 in
theorem ggX3_stamps_X3_goes : GoodIn wsX3_stamps wsX3_goes := goodIn_r _ [9, 10, 11, 12, 13, 14, 15, 16, 17, 18, 19, 20, 21, 22, 23, 24, 25, 26, 27, 28, 29] (by decide +kernel) (by decide +kernel)
set_option maxRecDepth 20000 in
theorem gX3_stamps_X3_goes : GoodIn wsX3_stamps (wsV RX3 74 RX3 yX3_goes wsX3_goes) := goodIn_app (goodIn_of _ (by decide +kernel)) ggX3_stamps_X3_goes
theorem dX3_stamps_0 : decode cX3_stamps 0 = .ok (.aload_n 0, 1) := by decide +kernel
theorem dX3_stamps_1 : decode cX3_stamps 1 = .ok (.iload_n 1, 1) := by decide +kernel
theorem dX3_stamps_2 : decode cX3_stamps 2 = .ok (.invokestatic 85, 3) := by decide +kernel
theorem dX3_stamps_5 : decode cX3_stamps 5 = .ok (.iconst 1, 1) := by decide +kernel
theorem dX3_stamps_6 : decode cX3_stamps 6 = .ok (.invokevirtual 74, 3) := by decide +kernel
theorem dX3_stamps_9 : decode cX3_stamps 9 = .ok (.ifCond .eq 12, 3) := by decide +kernel
theorem dX3_stamps_12 : decode cX3_stamps 12 = .ok (.aload_n 0, 1) := by decide +kernel
theorem dX3_stamps_13 : decode cX3_stamps 13 = .ok (.getfield 41, 3) := by decide +kernel
theorem dX3_stamps_16 : decode cX3_stamps 16 = .ok (.iload_n 1, 1) := by decide +kernel
theorem dX3_stamps_17 : decode cX3_stamps 17 = .ok (.iaload, 1) := by decide +kernel
theorem dX3_stamps_18 : decode cX3_stamps 18 = .ok (.goto 4, 3) := by decide +kernel
theorem dX3_stamps_21 : decode cX3_stamps 21 = .ok (.iconst 0, 1) := by decide +kernel
theorem dX3_stamps_22 : decode cX3_stamps 22 = .ok (.ireturn, 1) := by decide +kernel
set_option maxRecDepth 20000 in
theorem ggX3_queue_X3_isPavilion : GoodIn wsX3_queue wsX3_isPavilion := goodIn_r _ [5] (by decide +kernel) (by decide +kernel)
set_option maxRecDepth 20000 in
theorem gX3_queue_X3_isPavilion : GoodIn wsX3_queue (va_wsS RX3 70 yX3_isPavilion wsX3_isPavilion) := goodIn_app (goodIn_of _ (by decide +kernel)) ggX3_queue_X3_isPavilion
set_option maxRecDepth 20000 in
theorem ggX3_queue_X3_goes : GoodIn wsX3_queue wsX3_goes := goodIn_r _ [9, 10, 11, 12, 13, 14, 15, 16, 17, 18, 19, 20, 21, 22, 23, 24, 25, 26, 27, 28, 29] (by decide +kernel) (by decide +kernel)
set_option maxRecDepth 20000 in
theorem gX3_queue_X3_goes : GoodIn wsX3_queue (wsV RX3 74 RX3 yX3_goes wsX3_goes) := goodIn_app (goodIn_of _ (by decide +kernel)) ggX3_queue_X3_goes
theorem dX3_queue_0 : decode cX3_queue 0 = .ok (.aload_n 0, 1) := by decide +kernel
theorem dX3_queue_1 : decode cX3_queue 1 = .ok (.iload_n 1, 1) := by decide +kernel
theorem dX3_queue_2 : decode cX3_queue 2 = .ok (.invokestatic 70, 3) := by decide +kernel
theorem dX3_queue_5 : decode cX3_queue 5 = .ok (.iconst 1, 1) := by decide +kernel
theorem dX3_queue_6 : decode cX3_queue 6 = .ok (.invokevirtual 74, 3) := by decide +kernel
theorem dX3_queue_9 : decode cX3_queue 9 = .ok (.ifCond .eq 12, 3) := by decide +kernel
theorem dX3_queue_12 : decode cX3_queue 12 = .ok (.aload_n 0, 1) := by decide +kernel
theorem dX3_queue_13 : decode cX3_queue 13 = .ok (.getfield 23, 3) := by decide +kernel
theorem dX3_queue_16 : decode cX3_queue 16 = .ok (.iload_n 1, 1) := by decide +kernel
theorem dX3_queue_17 : decode cX3_queue 17 = .ok (.iaload, 1) := by decide +kernel
theorem dX3_queue_18 : decode cX3_queue 18 = .ok (.goto 4, 3) := by decide +kernel
theorem dX3_queue_21 : decode cX3_queue 21 = .ok (.iconst 0, 1) := by decide +kernel
theorem dX3_queue_22 : decode cX3_queue 22 = .ok (.ireturn, 1) := by decide +kernel
set_option maxRecDepth 20000 in
theorem ggX3_inside_X3_isPavilion : GoodIn wsX3_inside wsX3_isPavilion := goodIn_r _ [4] (by decide +kernel) (by decide +kernel)
set_option maxRecDepth 20000 in
theorem gX3_inside_X3_isPavilion : GoodIn wsX3_inside (va_wsS RX3 70 yX3_isPavilion wsX3_isPavilion) := goodIn_app (goodIn_of _ (by decide +kernel)) ggX3_inside_X3_isPavilion
set_option maxRecDepth 20000 in
theorem ggX3_inside_X3_goes : GoodIn wsX3_inside wsX3_goes := goodIn_r _ [8, 9, 16, 17, 18, 19, 20, 21, 22, 23, 24, 25, 26, 27, 28, 29, 30, 31, 32, 33, 34] (by decide +kernel) (by decide +kernel)
set_option maxRecDepth 20000 in
theorem gX3_inside_X3_goes : GoodIn wsX3_inside (wsV RX3 74 RX3 yX3_goes wsX3_goes) := goodIn_app (goodIn_of _ (by decide +kernel)) ggX3_inside_X3_goes
set_option maxRecDepth 20000 in
theorem ggX3_inside_X3_insideOf : GoodIn wsX3_inside wsX3_insideOf := goodIn_r _ [13, 14, 15, 16, 17, 18, 19, 20, 21, 22, 23, 24, 25, 26, 27, 28, 29, 30, 31, 32, 33, 34] (by decide +kernel) (by decide +kernel)
set_option maxRecDepth 20000 in
theorem gX3_inside_X3_insideOf : GoodIn wsX3_inside (wsV RX3 98 RX3 yX3_insideOf wsX3_insideOf) := goodIn_app (goodIn_of _ (by decide +kernel)) ggX3_inside_X3_insideOf
theorem dX3_inside_0 : decode cX3_inside 0 = .ok (.aload_n 0, 1) := by decide +kernel
theorem dX3_inside_1 : decode cX3_inside 1 = .ok (.iload_n 1, 1) := by decide +kernel
theorem dX3_inside_2 : decode cX3_inside 2 = .ok (.invokestatic 70, 3) := by decide +kernel
theorem dX3_inside_5 : decode cX3_inside 5 = .ok (.iconst 1, 1) := by decide +kernel
theorem dX3_inside_6 : decode cX3_inside 6 = .ok (.invokevirtual 74, 3) := by decide +kernel
theorem dX3_inside_9 : decode cX3_inside 9 = .ok (.ifCond .eq 11, 3) := by decide +kernel
theorem dX3_inside_12 : decode cX3_inside 12 = .ok (.aload_n 0, 1) := by decide +kernel
theorem dX3_inside_13 : decode cX3_inside 13 = .ok (.iload_n 1, 1) := by decide +kernel
theorem dX3_inside_14 : decode cX3_inside 14 = .ok (.invokevirtual 98, 3) := by decide +kernel
theorem dX3_inside_17 : decode cX3_inside 17 = .ok (.goto 4, 3) := by decide +kernel
theorem dX3_inside_20 : decode cX3_inside 20 = .ok (.iconst 0, 1) := by decide +kernel
theorem dX3_inside_21 : decode cX3_inside 21 = .ok (.ireturn, 1) := by decide +kernel
set_option maxRecDepth 20000 in
theorem ggX3_stock_X3_isPavilion : GoodIn wsX3_stock wsX3_isPavilion := goodIn_r _ [5] (by decide +kernel) (by decide +kernel)
set_option maxRecDepth 20000 in
theorem gX3_stock_X3_isPavilion : GoodIn wsX3_stock (va_wsS RX3 70 yX3_isPavilion wsX3_isPavilion) := goodIn_app (goodIn_of _ (by decide +kernel)) ggX3_stock_X3_isPavilion
set_option maxRecDepth 20000 in
theorem ggX3_stock_X3_goes : GoodIn wsX3_stock wsX3_goes := goodIn_r _ [9, 10, 11, 12, 13, 14, 15, 16, 17, 18, 19, 20, 21, 22, 23, 24, 25, 26, 27, 28, 29] (by decide +kernel) (by decide +kernel)
set_option maxRecDepth 20000 in
theorem gX3_stock_X3_goes : GoodIn wsX3_stock (wsV RX3 74 RX3 yX3_goes wsX3_goes) := goodIn_app (goodIn_of _ (by decide +kernel)) ggX3_stock_X3_goes
theorem dX3_stock_0 : decode cX3_stock 0 = .ok (.aload_n 0, 1) := by decide +kernel
theorem dX3_stock_1 : decode cX3_stock 1 = .ok (.iload_n 1, 1) := by decide +kernel
theorem dX3_stock_2 : decode cX3_stock 2 = .ok (.invokestatic 70, 3) := by decide +kernel
theorem dX3_stock_5 : decode cX3_stock 5 = .ok (.iconst 1, 1) := by decide +kernel
theorem dX3_stock_6 : decode cX3_stock 6 = .ok (.invokevirtual 74, 3) := by decide +kernel
theorem dX3_stock_9 : decode cX3_stock 9 = .ok (.ifCond .eq 12, 3) := by decide +kernel
theorem dX3_stock_12 : decode cX3_stock 12 = .ok (.aload_n 0, 1) := by decide +kernel
theorem dX3_stock_13 : decode cX3_stock 13 = .ok (.getfield 53, 3) := by decide +kernel
theorem dX3_stock_16 : decode cX3_stock 16 = .ok (.iload_n 1, 1) := by decide +kernel
theorem dX3_stock_17 : decode cX3_stock 17 = .ok (.iaload, 1) := by decide +kernel
theorem dX3_stock_18 : decode cX3_stock 18 = .ok (.goto 4, 3) := by decide +kernel
theorem dX3_stock_21 : decode cX3_stock 21 = .ok (.iconst 0, 1) := by decide +kernel
theorem dX3_stock_22 : decode cX3_stock 22 = .ok (.ireturn, 1) := by decide +kernel
set_option maxRecDepth 20000 in
theorem ggX3_demand_X3_isPavilion : GoodIn wsX3_demand wsX3_isPavilion := goodIn_r _ [5] (by decide +kernel) (by decide +kernel)
set_option maxRecDepth 20000 in
theorem gX3_demand_X3_isPavilion : GoodIn wsX3_demand (va_wsS RX3 70 yX3_isPavilion wsX3_isPavilion) := goodIn_app (goodIn_of _ (by decide +kernel)) ggX3_demand_X3_isPavilion
set_option maxRecDepth 20000 in
theorem ggX3_demand_X3_goes : GoodIn wsX3_demand wsX3_goes := goodIn_r _ [9, 10, 11, 12, 13, 14, 15, 16, 17, 18, 19, 20, 21, 22, 23, 24, 25, 26, 27, 28, 29] (by decide +kernel) (by decide +kernel)
set_option maxRecDepth 20000 in
theorem gX3_demand_X3_goes : GoodIn wsX3_demand (wsV RX3 74 RX3 yX3_goes wsX3_goes) := goodIn_app (goodIn_of _ (by decide +kernel)) ggX3_demand_X3_goes
theorem dX3_demand_0 : decode cX3_demand 0 = .ok (.aload_n 0, 1) := by decide +kernel
theorem dX3_demand_1 : decode cX3_demand 1 = .ok (.iload_n 1, 1) := by decide +kernel
theorem dX3_demand_2 : decode cX3_demand 2 = .ok (.invokestatic 70, 3) := by decide +kernel
theorem dX3_demand_5 : decode cX3_demand 5 = .ok (.iconst 1, 1) := by decide +kernel
theorem dX3_demand_6 : decode cX3_demand 6 = .ok (.invokevirtual 74, 3) := by decide +kernel
theorem dX3_demand_9 : decode cX3_demand 9 = .ok (.ifCond .eq 12, 3) := by decide +kernel
theorem dX3_demand_12 : decode cX3_demand 12 = .ok (.aload_n 0, 1) := by decide +kernel
theorem dX3_demand_13 : decode cX3_demand 13 = .ok (.getfield 56, 3) := by decide +kernel
theorem dX3_demand_16 : decode cX3_demand 16 = .ok (.iload_n 1, 1) := by decide +kernel
theorem dX3_demand_17 : decode cX3_demand 17 = .ok (.iaload, 1) := by decide +kernel
theorem dX3_demand_18 : decode cX3_demand 18 = .ok (.goto 4, 3) := by decide +kernel
theorem dX3_demand_21 : decode cX3_demand 21 = .ok (.iconst 0, 1) := by decide +kernel
theorem dX3_demand_22 : decode cX3_demand 22 = .ok (.ireturn, 1) := by decide +kernel
set_option maxRecDepth 20000 in
theorem ggX3_sent_X3_isVisitor : GoodIn wsX3_sent wsX3_isVisitor := goodIn_r _ [5] (by decide +kernel) (by decide +kernel)
set_option maxRecDepth 20000 in
theorem gX3_sent_X3_isVisitor : GoodIn wsX3_sent (va_wsS RX3 85 yX3_isVisitor wsX3_isVisitor) := goodIn_app (goodIn_of _ (by decide +kernel)) ggX3_sent_X3_isVisitor
set_option maxRecDepth 20000 in
theorem ggX3_sent_X3_isPavilion : GoodIn wsX3_sent wsX3_isPavilion := goodIn_r _ [8] (by decide +kernel) (by decide +kernel)
set_option maxRecDepth 20000 in
theorem gX3_sent_X3_isPavilion : GoodIn wsX3_sent (va_wsS RX3 70 yX3_isPavilion wsX3_isPavilion) := goodIn_app (goodIn_of _ (by decide +kernel)) ggX3_sent_X3_isPavilion
set_option maxRecDepth 20000 in
theorem ggX3_sent_X3_goes : GoodIn wsX3_sent wsX3_goes := goodIn_r _ [12, 13, 14, 15, 16, 17, 18, 19, 20, 21, 22, 23, 24, 25, 26, 27, 28, 29, 30, 31, 32] (by decide +kernel) (by decide +kernel)
set_option maxRecDepth 20000 in
theorem gX3_sent_X3_goes : GoodIn wsX3_sent (wsV RX3 74 RX3 yX3_goes wsX3_goes) := goodIn_app (goodIn_of _ (by decide +kernel)) ggX3_sent_X3_goes
theorem dX3_sent_0 : decode cX3_sent 0 = .ok (.aload_n 0, 1) := by decide +kernel
theorem dX3_sent_1 : decode cX3_sent 1 = .ok (.iload_n 1, 1) := by decide +kernel
theorem dX3_sent_2 : decode cX3_sent 2 = .ok (.invokestatic 85, 3) := by decide +kernel
theorem dX3_sent_5 : decode cX3_sent 5 = .ok (.ifCond .eq 14, 3) := by decide +kernel
theorem dX3_sent_8 : decode cX3_sent 8 = .ok (.iload_n 2, 1) := by decide +kernel
theorem dX3_sent_9 : decode cX3_sent 9 = .ok (.invokestatic 70, 3) := by decide +kernel
theorem dX3_sent_12 : decode cX3_sent 12 = .ok (.ifCond .eq 7, 3) := by decide +kernel
theorem dX3_sent_15 : decode cX3_sent 15 = .ok (.iconst 1, 1) := by decide +kernel
theorem dX3_sent_16 : decode cX3_sent 16 = .ok (.goto 4, 3) := by decide +kernel
theorem dX3_sent_19 : decode cX3_sent 19 = .ok (.iconst 0, 1) := by decide +kernel
theorem dX3_sent_20 : decode cX3_sent 20 = .ok (.iconst 1, 1) := by decide +kernel
theorem dX3_sent_21 : decode cX3_sent 21 = .ok (.invokevirtual 74, 3) := by decide +kernel
theorem dX3_sent_24 : decode cX3_sent 24 = .ok (.ifCond .eq 17, 3) := by decide +kernel
theorem dX3_sent_27 : decode cX3_sent 27 = .ok (.aload_n 0, 1) := by decide +kernel
theorem dX3_sent_28 : decode cX3_sent 28 = .ok (.getfield 59, 3) := by decide +kernel
theorem dX3_sent_31 : decode cX3_sent 31 = .ok (.bipush 6, 2) := by decide +kernel
theorem dX3_sent_33 : decode cX3_sent 33 = .ok (.iload_n 1, 1) := by decide +kernel
theorem dX3_sent_34 : decode cX3_sent 34 = .ok (.imul, 1) := by decide +kernel
theorem dX3_sent_35 : decode cX3_sent 35 = .ok (.iload_n 2, 1) := by decide +kernel
theorem dX3_sent_36 : decode cX3_sent 36 = .ok (.iadd, 1) := by decide +kernel
theorem dX3_sent_37 : decode cX3_sent 37 = .ok (.iaload, 1) := by decide +kernel
theorem dX3_sent_38 : decode cX3_sent 38 = .ok (.goto 4, 3) := by decide +kernel
theorem dX3_sent_41 : decode cX3_sent 41 = .ok (.iconst 0, 1) := by decide +kernel
theorem dX3_sent_42 : decode cX3_sent 42 = .ok (.ireturn, 1) := by decide +kernel
theorem dJ9_max_7cf53_0 : decode cJ9_max_7cf53 0 = .ok (.iload_n 0, 1) := by decide +kernel
theorem dJ9_max_7cf53_1 : decode cJ9_max_7cf53 1 = .ok (.iload_n 1, 1) := by decide +kernel
theorem dJ9_max_7cf53_2 : decode cJ9_max_7cf53 2 = .ok (.if_icmp .lt 7, 3) := by decide +kernel
theorem dJ9_max_7cf53_5 : decode cJ9_max_7cf53 5 = .ok (.iload_n 0, 1) := by decide +kernel
theorem dJ9_max_7cf53_6 : decode cJ9_max_7cf53 6 = .ok (.goto 4, 3) := by decide +kernel
theorem dJ9_max_7cf53_9 : decode cJ9_max_7cf53 9 = .ok (.iload_n 1, 1) := by decide +kernel
theorem dJ9_max_7cf53_10 : decode cJ9_max_7cf53 10 = .ok (.ireturn, 1) := by decide +kernel
theorem dJ9_min_7cf53_0 : decode cJ9_min_7cf53 0 = .ok (.iload_n 0, 1) := by decide +kernel
theorem dJ9_min_7cf53_1 : decode cJ9_min_7cf53 1 = .ok (.iload_n 1, 1) := by decide +kernel
theorem dJ9_min_7cf53_2 : decode cJ9_min_7cf53 2 = .ok (.if_icmp .gt 7, 3) := by decide +kernel
theorem dJ9_min_7cf53_5 : decode cJ9_min_7cf53 5 = .ok (.iload_n 0, 1) := by decide +kernel
theorem dJ9_min_7cf53_6 : decode cJ9_min_7cf53 6 = .ok (.goto 4, 3) := by decide +kernel
theorem dJ9_min_7cf53_9 : decode cJ9_min_7cf53 9 = .ok (.iload_n 1, 1) := by decide +kernel
theorem dJ9_min_7cf53_10 : decode cJ9_min_7cf53 10 = .ok (.ireturn, 1) := by decide +kernel
theorem dJxa1e45_init_da8c8_0 : decode cJxa1e45_init_da8c8 0 = .ok (.aload_n 0, 1) := by decide +kernel
theorem dJxa1e45_init_da8c8_1 : decode cJxa1e45_init_da8c8 1 = .ok (.invokespecial 1, 3) := by decide +kernel
theorem dJxa1e45_init_da8c8_4 : decode cJxa1e45_init_da8c8 4 = .ok (.return_, 1) := by decide +kernel
set_option maxRecDepth 20000 in
theorem ggJxc12de_init_da8c8_Jxa1e45_init_da8c8 : GoodIn wsJxc12de_init_da8c8 wsJxa1e45_init_da8c8 := goodIn_r _ [5, 6, 7, 8] (by decide +kernel) (by decide +kernel)
set_option maxRecDepth 20000 in
theorem gJxc12de_init_da8c8_Jxa1e45_init_da8c8 : GoodIn wsJxc12de_init_da8c8 (wsJxa1e45_init_da8c8) := ggJxc12de_init_da8c8_Jxa1e45_init_da8c8
theorem dJxc12de_init_da8c8_0 : decode cJxc12de_init_da8c8 0 = .ok (.aload_n 0, 1) := by decide +kernel
theorem dJxc12de_init_da8c8_1 : decode cJxc12de_init_da8c8 1 = .ok (.invokespecial 1, 3) := by decide +kernel
theorem dJxc12de_init_da8c8_4 : decode cJxc12de_init_da8c8 4 = .ok (.aload_n 0, 1) := by decide +kernel
theorem dJxc12de_init_da8c8_5 : decode cJxc12de_init_da8c8 5 = .ok (.iconst 0, 1) := by decide +kernel
theorem dJxc12de_init_da8c8_6 : decode cJxc12de_init_da8c8 6 = .ok (.putfield 7, 3) := by decide +kernel
theorem dJxc12de_init_da8c8_9 : decode cJxc12de_init_da8c8 9 = .ok (.return_, 1) := by decide +kernel
set_option maxRecDepth 20000 in
theorem ggJx4a65c_init_da8c8_Jxc12de_init_da8c8 : GoodIn wsJx4a65c_init_da8c8 wsJxc12de_init_da8c8 := goodIn_r _ [6, 7, 8, 9, 10, 11, 12, 13, 14, 15, 16, 17] (by decide +kernel) (by decide +kernel)
set_option maxRecDepth 20000 in
theorem gJx4a65c_init_da8c8_Jxc12de_init_da8c8 : GoodIn wsJx4a65c_init_da8c8 (wsJxc12de_init_da8c8) := ggJx4a65c_init_da8c8_Jxc12de_init_da8c8
theorem dJx4a65c_init_da8c8_0 : decode cJx4a65c_init_da8c8 0 = .ok (.aload_n 0, 1) := by decide +kernel
theorem dJx4a65c_init_da8c8_1 : decode cJx4a65c_init_da8c8 1 = .ok (.invokespecial 1, 3) := by decide +kernel
theorem dJx4a65c_init_da8c8_4 : decode cJx4a65c_init_da8c8 4 = .ok (.aload_n 0, 1) := by decide +kernel
theorem dJx4a65c_init_da8c8_5 : decode cJx4a65c_init_da8c8 5 = .ok (.getstatic 39, 3) := by decide +kernel
theorem dJx4a65c_init_da8c8_8 : decode cJx4a65c_init_da8c8 8 = .ok (.putfield 9, 3) := by decide +kernel
theorem dJx4a65c_init_da8c8_11 : decode cJx4a65c_init_da8c8 11 = .ok (.return_, 1) := by decide +kernel
set_option maxRecDepth 20000 in
theorem ggJx4a65c_grow_92f84_J8_newLength_cabcc : GoodIn wsJx4a65c_grow_92f84 wsJ8_newLength_cabcc := goodIn_r _ [11, 12, 4, 5, 6, 13, 14, 15, 10, 16] (by decide +kernel) (by decide +kernel)
set_option maxRecDepth 20000 in
theorem gJx4a65c_grow_92f84_J8_newLength_cabcc : GoodIn wsJx4a65c_grow_92f84 (va_wsS RJx4a65c 73 yJ8_newLength_cabcc wsJ8_newLength_cabcc) := goodIn_app (goodIn_of _ (by decide +kernel)) ggJx4a65c_grow_92f84_J8_newLength_cabcc
set_option maxRecDepth 20000 in
theorem ggJx4a65c_grow_92f84_J7_copyOf_1904c : GoodIn wsJx4a65c_grow_92f84 wsJ7_copyOf_1904c := goodIn_r _ [20, 21, 22, 23, 24, 25, 26, 19, 27, 28, 29, 30, 31, 5, 32, 33, 34, 35, 36] (by decide +kernel) (by decide +kernel)
set_option maxRecDepth 20000 in
theorem gJx4a65c_grow_92f84_J7_copyOf_1904c : GoodIn wsJx4a65c_grow_92f84 (va_wsS RJx4a65c 66 yJ7_copyOf_1904c wsJ7_copyOf_1904c) := goodIn_app (goodIn_of _ (by decide +kernel)) ggJx4a65c_grow_92f84_J7_copyOf_1904c
theorem dJx4a65c_grow_92f84_0 : decode cJx4a65c_grow_92f84 0 = .ok (.aload_n 0, 1) := by decide +kernel
theorem dJx4a65c_grow_92f84_1 : decode cJx4a65c_grow_92f84 1 = .ok (.getfield 9, 3) := by decide +kernel
theorem dJx4a65c_grow_92f84_4 : decode cJx4a65c_grow_92f84 4 = .ok (.arraylength, 1) := by decide +kernel
theorem dJx4a65c_grow_92f84_5 : decode cJx4a65c_grow_92f84 5 = .ok (.istore_n 2, 1) := by decide +kernel
theorem dJx4a65c_grow_92f84_6 : decode cJx4a65c_grow_92f84 6 = .ok (.iload_n 2, 1) := by decide +kernel
theorem dJx4a65c_grow_92f84_7 : decode cJx4a65c_grow_92f84 7 = .ok (.ifCond .gt 13, 3) := by decide +kernel
theorem dJx4a65c_grow_92f84_10 : decode cJx4a65c_grow_92f84 10 = .ok (.aload_n 0, 1) := by decide +kernel
theorem dJx4a65c_grow_92f84_11 : decode cJx4a65c_grow_92f84 11 = .ok (.getfield 9, 3) := by decide +kernel
theorem dJx4a65c_grow_92f84_14 : decode cJx4a65c_grow_92f84 14 = .ok (.getstatic 39, 3) := by decide +kernel
theorem dJx4a65c_grow_92f84_17 : decode cJx4a65c_grow_92f84 17 = .ok (.if_acmp .eq 28, 3) := by decide +kernel
theorem dJx4a65c_grow_92f84_20 : decode cJx4a65c_grow_92f84 20 = .ok (.iload_n 2, 1) := by decide +kernel
theorem dJx4a65c_grow_92f84_21 : decode cJx4a65c_grow_92f84 21 = .ok (.iload_n 1, 1) := by decide +kernel
theorem dJx4a65c_grow_92f84_22 : decode cJx4a65c_grow_92f84 22 = .ok (.iload_n 2, 1) := by decide +kernel
theorem dJx4a65c_grow_92f84_23 : decode cJx4a65c_grow_92f84 23 = .ok (.isub, 1) := by decide +kernel
theorem dJx4a65c_grow_92f84_24 : decode cJx4a65c_grow_92f84 24 = .ok (.iload_n 2, 1) := by decide +kernel
theorem dJx4a65c_grow_92f84_25 : decode cJx4a65c_grow_92f84 25 = .ok (.iconst 1, 1) := by decide +kernel
theorem dJx4a65c_grow_92f84_26 : decode cJx4a65c_grow_92f84 26 = .ok (.ishr, 1) := by decide +kernel
theorem dJx4a65c_grow_92f84_27 : decode cJx4a65c_grow_92f84 27 = .ok (.invokestatic 73, 3) := by decide +kernel
theorem dJx4a65c_grow_92f84_30 : decode cJx4a65c_grow_92f84 30 = .ok (.istore_n 3, 1) := by decide +kernel
theorem dJx4a65c_grow_92f84_31 : decode cJx4a65c_grow_92f84 31 = .ok (.aload_n 0, 1) := by decide +kernel
theorem dJx4a65c_grow_92f84_32 : decode cJx4a65c_grow_92f84 32 = .ok (.aload_n 0, 1) := by decide +kernel
theorem dJx4a65c_grow_92f84_33 : decode cJx4a65c_grow_92f84 33 = .ok (.getfield 9, 3) := by decide +kernel
theorem dJx4a65c_grow_92f84_36 : decode cJx4a65c_grow_92f84 36 = .ok (.iload_n 3, 1) := by decide +kernel
theorem dJx4a65c_grow_92f84_37 : decode cJx4a65c_grow_92f84 37 = .ok (.invokestatic 66, 3) := by decide +kernel
theorem dJx4a65c_grow_92f84_40 : decode cJx4a65c_grow_92f84 40 = .ok (.dup_x1, 1) := by decide +kernel
theorem dJx4a65c_grow_92f84_41 : decode cJx4a65c_grow_92f84 41 = .ok (.putfield 9, 3) := by decide +kernel
theorem dJx4a65c_grow_92f84_44 : decode cJx4a65c_grow_92f84 44 = .ok (.areturn, 1) := by decide +kernel
theorem dJx4a65c_grow_92f84_45 : decode cJx4a65c_grow_92f84 45 = .ok (.aload_n 0, 1) := by decide +kernel
theorem dJx4a65c_grow_92f84_46 : decode cJx4a65c_grow_92f84 46 = .ok (.bipush 10, 2) := by decide +kernel
theorem dJx4a65c_grow_92f84_48 : decode cJx4a65c_grow_92f84 48 = .ok (.iload_n 1, 1) := by decide +kernel
theorem dJx4a65c_grow_92f84_49 : decode cJx4a65c_grow_92f84 49 = .ok (.invokestatic 79, 3) := by decide +kernel
theorem dJx4a65c_grow_92f84_52 : decode cJx4a65c_grow_92f84 52 = .ok (.anewarray 7, 3) := by decide +kernel
theorem dJx4a65c_grow_92f84_55 : decode cJx4a65c_grow_92f84 55 = .ok (.dup_x1, 1) := by decide +kernel
theorem dJx4a65c_grow_92f84_56 : decode cJx4a65c_grow_92f84 56 = .ok (.putfield 9, 3) := by decide +kernel
theorem dJx4a65c_grow_92f84_59 : decode cJx4a65c_grow_92f84 59 = .ok (.areturn, 1) := by decide +kernel
set_option maxRecDepth 20000 in
theorem ggJx4a65c_grow_d5877_Jx4a65c_grow_92f84 : GoodIn wsJx4a65c_grow_d5877 wsJx4a65c_grow_92f84 := goodIn_r _ [6, 7, 8, 9, 10, 11, 12, 13, 14, 15, 16, 17, 18, 19, 20, 21, 22, 23, 24, 25, 26, 27, 28, 29, 30, 31, 32, 33, 34, 35, 36, 37, 38, 39, 40, 41, 42, 43, 44, 45] (by decide +kernel) (by decide +kernel)
set_option maxRecDepth 20000 in
theorem gJx4a65c_grow_d5877_Jx4a65c_grow_92f84 : GoodIn wsJx4a65c_grow_d5877 (wsV RJx4a65c 69 RJx4a65c yJx4a65c_grow_92f84 wsJx4a65c_grow_92f84) := goodIn_app (goodIn_of _ (by decide +kernel)) ggJx4a65c_grow_d5877_Jx4a65c_grow_92f84
theorem dJx4a65c_grow_d5877_0 : decode cJx4a65c_grow_d5877 0 = .ok (.aload_n 0, 1) := by decide +kernel
theorem dJx4a65c_grow_d5877_1 : decode cJx4a65c_grow_d5877 1 = .ok (.aload_n 0, 1) := by decide +kernel
theorem dJx4a65c_grow_d5877_2 : decode cJx4a65c_grow_d5877 2 = .ok (.getfield 48, 3) := by decide +kernel
theorem dJx4a65c_grow_d5877_5 : decode cJx4a65c_grow_d5877 5 = .ok (.iconst 1, 1) := by decide +kernel
theorem dJx4a65c_grow_d5877_6 : decode cJx4a65c_grow_d5877 6 = .ok (.iadd, 1) := by decide +kernel
theorem dJx4a65c_grow_d5877_7 : decode cJx4a65c_grow_d5877 7 = .ok (.invokevirtual 69, 3) := by decide +kernel
theorem dJx4a65c_grow_d5877_10 : decode cJx4a65c_grow_d5877 10 = .ok (.areturn, 1) := by decide +kernel
theorem dJx4a65c_size_8abf5_0 : decode cJx4a65c_size_8abf5 0 = .ok (.aload_n 0, 1) := by decide +kernel
theorem dJx4a65c_size_8abf5_1 : decode cJx4a65c_size_8abf5 1 = .ok (.getfield 48, 3) := by decide +kernel
theorem dJx4a65c_size_8abf5_4 : decode cJx4a65c_size_8abf5 4 = .ok (.ireturn, 1) := by decide +kernel
theorem dJx4a65c_elementData_915e3_0 : decode cJx4a65c_elementData_915e3 0 = .ok (.aload_n 0, 1) := by decide +kernel
theorem dJx4a65c_elementData_915e3_1 : decode cJx4a65c_elementData_915e3 1 = .ok (.getfield 9, 3) := by decide +kernel
theorem dJx4a65c_elementData_915e3_4 : decode cJx4a65c_elementData_915e3 4 = .ok (.iload_n 1, 1) := by decide +kernel
theorem dJx4a65c_elementData_915e3_5 : decode cJx4a65c_elementData_915e3 5 = .ok (.aaload, 1) := by decide +kernel
theorem dJx4a65c_elementData_915e3_6 : decode cJx4a65c_elementData_915e3 6 = .ok (.areturn, 1) := by decide +kernel
set_option maxRecDepth 20000 in
theorem ggJx4a65c_get_915e3_J15_checkIndex_7cf53 : GoodIn wsJx4a65c_get_915e3 wsJ15_checkIndex_7cf53 := goodIn_r _ [5, 6, 7, 8, 9] (by decide +kernel) (by decide +kernel)
set_option maxRecDepth 20000 in
theorem gJx4a65c_get_915e3_J15_checkIndex_7cf53 : GoodIn wsJx4a65c_get_915e3 (va_wsS RJx4a65c 118 yJ15_checkIndex_7cf53 wsJ15_checkIndex_7cf53) := goodIn_app (goodIn_of _ (by decide +kernel)) ggJx4a65c_get_915e3_J15_checkIndex_7cf53
set_option maxRecDepth 20000 in
theorem ggJx4a65c_get_915e3_Jx4a65c_elementData_915e3 : GoodIn wsJx4a65c_get_915e3 wsJx4a65c_elementData_915e3 := goodIn_r _ [14, 15, 16, 17, 18] (by decide +kernel) (by decide +kernel)
set_option maxRecDepth 20000 in
theorem gJx4a65c_get_915e3_Jx4a65c_elementData_915e3 : GoodIn wsJx4a65c_get_915e3 (wsV RJx4a65c 123 RJx4a65c yJx4a65c_elementData_915e3 wsJx4a65c_elementData_915e3) := goodIn_app (goodIn_of _ (by decide +kernel)) ggJx4a65c_get_915e3_Jx4a65c_elementData_915e3
theorem dJx4a65c_get_915e3_0 : decode cJx4a65c_get_915e3 0 = .ok (.iload_n 1, 1) := by decide +kernel
theorem dJx4a65c_get_915e3_1 : decode cJx4a65c_get_915e3 1 = .ok (.aload_n 0, 1) := by decide +kernel
theorem dJx4a65c_get_915e3_2 : decode cJx4a65c_get_915e3 2 = .ok (.getfield 48, 3) := by decide +kernel
theorem dJx4a65c_get_915e3_5 : decode cJx4a65c_get_915e3 5 = .ok (.invokestatic 118, 3) := by decide +kernel
theorem dJx4a65c_get_915e3_8 : decode cJx4a65c_get_915e3 8 = .ok (.pop, 1) := by decide +kernel
theorem dJx4a65c_get_915e3_9 : decode cJx4a65c_get_915e3 9 = .ok (.aload_n 0, 1) := by decide +kernel
theorem dJx4a65c_get_915e3_10 : decode cJx4a65c_get_915e3 10 = .ok (.iload_n 1, 1) := by decide +kernel
theorem dJx4a65c_get_915e3_11 : decode cJx4a65c_get_915e3 11 = .ok (.invokevirtual 123, 3) := by decide +kernel
theorem dJx4a65c_get_915e3_14 : decode cJx4a65c_get_915e3 14 = .ok (.areturn, 1) := by decide +kernel
set_option maxRecDepth 20000 in
theorem ggJx4a65c_add_72be8_Jx4a65c_grow_d5877 : GoodIn wsJx4a65c_add_72be8 wsJx4a65c_grow_d5877 := goodIn_r _ [6, 1, 7, 8, 9, 5, 10, 11, 12, 13, 14, 15, 16, 17, 18, 19, 20, 21, 22, 23, 24, 25, 26, 27, 28, 29, 30, 31, 32, 33, 34, 35, 36, 37, 38, 39, 40, 41, 42, 43, 44, 45, 46, 47, 48, 49] (by decide +kernel) (by decide +kernel)
set_option maxRecDepth 20000 in
theorem gJx4a65c_add_72be8_Jx4a65c_grow_d5877 : GoodIn wsJx4a65c_add_72be8 (wsV RJx4a65c 129 RJx4a65c yJx4a65c_grow_d5877 wsJx4a65c_grow_d5877) := goodIn_app (goodIn_of _ (by decide +kernel)) ggJx4a65c_add_72be8_Jx4a65c_grow_d5877
theorem dJx4a65c_add_72be8_0 : decode cJx4a65c_add_72be8 0 = .ok (.iload_n 3, 1) := by decide +kernel
theorem dJx4a65c_add_72be8_1 : decode cJx4a65c_add_72be8 1 = .ok (.aload_n 2, 1) := by decide +kernel
theorem dJx4a65c_add_72be8_2 : decode cJx4a65c_add_72be8 2 = .ok (.arraylength, 1) := by decide +kernel
theorem dJx4a65c_add_72be8_3 : decode cJx4a65c_add_72be8 3 = .ok (.if_icmp .ne 8, 3) := by decide +kernel
theorem dJx4a65c_add_72be8_6 : decode cJx4a65c_add_72be8 6 = .ok (.aload_n 0, 1) := by decide +kernel
theorem dJx4a65c_add_72be8_7 : decode cJx4a65c_add_72be8 7 = .ok (.invokevirtual 129, 3) := by decide +kernel
theorem dJx4a65c_add_72be8_10 : decode cJx4a65c_add_72be8 10 = .ok (.astore_n 2, 1) := by decide +kernel
theorem dJx4a65c_add_72be8_11 : decode cJx4a65c_add_72be8 11 = .ok (.aload_n 2, 1) := by decide +kernel
theorem dJx4a65c_add_72be8_12 : decode cJx4a65c_add_72be8 12 = .ok (.iload_n 3, 1) := by decide +kernel
theorem dJx4a65c_add_72be8_13 : decode cJx4a65c_add_72be8 13 = .ok (.aload_n 1, 1) := by decide +kernel
theorem dJx4a65c_add_72be8_14 : decode cJx4a65c_add_72be8 14 = .ok (.aastore, 1) := by decide +kernel
theorem dJx4a65c_add_72be8_15 : decode cJx4a65c_add_72be8 15 = .ok (.aload_n 0, 1) := by decide +kernel
theorem dJx4a65c_add_72be8_16 : decode cJx4a65c_add_72be8 16 = .ok (.iload_n 3, 1) := by decide +kernel
theorem dJx4a65c_add_72be8_17 : decode cJx4a65c_add_72be8 17 = .ok (.iconst 1, 1) := by decide +kernel
theorem dJx4a65c_add_72be8_18 : decode cJx4a65c_add_72be8 18 = .ok (.iadd, 1) := by decide +kernel
theorem dJx4a65c_add_72be8_19 : decode cJx4a65c_add_72be8 19 = .ok (.putfield 48, 3) := by decide +kernel
theorem dJx4a65c_add_72be8_22 : decode cJx4a65c_add_72be8 22 = .ok (.return_, 1) := by decide +kernel
set_option maxRecDepth 20000 in
theorem ggJx4a65c_add_9ea2d_Jx4a65c_add_72be8 : GoodIn wsJx4a65c_add_9ea2d wsJx4a65c_add_72be8 := goodIn_r _ [9, 4, 10, 11, 12, 8, 13, 14, 15, 16, 17, 3, 18, 19, 20, 21, 22, 23, 24, 25, 26, 27, 28, 29, 30, 31, 32, 33, 34, 35, 36, 37, 38, 39, 40, 41, 42, 43, 44, 45, 46, 47, 48, 49, 50, 51, 52, 53, 54, 55] (by decide +kernel) (by decide +kernel)
set_option maxRecDepth 20000 in
theorem gJx4a65c_add_9ea2d_Jx4a65c_add_72be8 : GoodIn wsJx4a65c_add_9ea2d (wsV RJx4a65c 131 RJx4a65c yJx4a65c_add_72be8 wsJx4a65c_add_72be8) := goodIn_app (goodIn_of _ (by decide +kernel)) ggJx4a65c_add_9ea2d_Jx4a65c_add_72be8
theorem dJx4a65c_add_9ea2d_0 : decode cJx4a65c_add_9ea2d 0 = .ok (.aload_n 0, 1) := by decide +kernel
theorem dJx4a65c_add_9ea2d_1 : decode cJx4a65c_add_9ea2d 1 = .ok (.dup, 1) := by decide +kernel
theorem dJx4a65c_add_9ea2d_2 : decode cJx4a65c_add_9ea2d 2 = .ok (.getfield 63, 3) := by decide +kernel
theorem dJx4a65c_add_9ea2d_5 : decode cJx4a65c_add_9ea2d 5 = .ok (.iconst 1, 1) := by decide +kernel
theorem dJx4a65c_add_9ea2d_6 : decode cJx4a65c_add_9ea2d 6 = .ok (.iadd, 1) := by decide +kernel
theorem dJx4a65c_add_9ea2d_7 : decode cJx4a65c_add_9ea2d 7 = .ok (.putfield 63, 3) := by decide +kernel
theorem dJx4a65c_add_9ea2d_10 : decode cJx4a65c_add_9ea2d 10 = .ok (.aload_n 0, 1) := by decide +kernel
theorem dJx4a65c_add_9ea2d_11 : decode cJx4a65c_add_9ea2d 11 = .ok (.aload_n 1, 1) := by decide +kernel
theorem dJx4a65c_add_9ea2d_12 : decode cJx4a65c_add_9ea2d 12 = .ok (.aload_n 0, 1) := by decide +kernel
theorem dJx4a65c_add_9ea2d_13 : decode cJx4a65c_add_9ea2d 13 = .ok (.getfield 9, 3) := by decide +kernel
theorem dJx4a65c_add_9ea2d_16 : decode cJx4a65c_add_9ea2d 16 = .ok (.aload_n 0, 1) := by decide +kernel
theorem dJx4a65c_add_9ea2d_17 : decode cJx4a65c_add_9ea2d 17 = .ok (.getfield 48, 3) := by decide +kernel
theorem dJx4a65c_add_9ea2d_20 : decode cJx4a65c_add_9ea2d 20 = .ok (.invokevirtual 131, 3) := by decide +kernel
theorem dJx4a65c_add_9ea2d_23 : decode cJx4a65c_add_9ea2d 23 = .ok (.iconst 1, 1) := by decide +kernel
theorem dJx4a65c_add_9ea2d_24 : decode cJx4a65c_add_9ea2d 24 = .ok (.ireturn, 1) := by decide +kernel
set_option maxRecDepth 20000 in
theorem ggJx4a65c_remove_915e3_J15_checkIndex_7cf53 : GoodIn wsJx4a65c_remove_915e3 wsJ15_checkIndex_7cf53 := goodIn_r _ [6, 7, 8, 9, 10] (by decide +kernel) (by decide +kernel)
set_option maxRecDepth 20000 in
theorem gJx4a65c_remove_915e3_J15_checkIndex_7cf53 : GoodIn wsJx4a65c_remove_915e3 (va_wsS RJx4a65c 118 yJ15_checkIndex_7cf53 wsJ15_checkIndex_7cf53) := goodIn_app (goodIn_of _ (by decide +kernel)) ggJx4a65c_remove_915e3_J15_checkIndex_7cf53
set_option maxRecDepth 20000 in
theorem ggJx4a65c_remove_915e3_Jx4a65c_fastRemove_b59b0 : GoodIn wsJx4a65c_remove_915e3 wsJx4a65c_fastRemove_b59b0 := goodIn_r _ [15, 16, 17, 1, 18, 19, 20, 21, 22, 23, 24] (by decide +kernel) (by decide +kernel)
set_option maxRecDepth 20000 in
theorem gJx4a65c_remove_915e3_Jx4a65c_fastRemove_b59b0 : GoodIn wsJx4a65c_remove_915e3 (wsV RJx4a65c 144 RJx4a65c yJx4a65c_fastRemove_b59b0 wsJx4a65c_fastRemove_b59b0) := goodIn_app (goodIn_of _ (by decide +kernel)) ggJx4a65c_remove_915e3_Jx4a65c_fastRemove_b59b0
theorem dJx4a65c_remove_915e3_0 : decode cJx4a65c_remove_915e3 0 = .ok (.iload_n 1, 1) := by decide +kernel
theorem dJx4a65c_remove_915e3_1 : decode cJx4a65c_remove_915e3 1 = .ok (.aload_n 0, 1) := by decide +kernel
theorem dJx4a65c_remove_915e3_2 : decode cJx4a65c_remove_915e3 2 = .ok (.getfield 48, 3) := by decide +kernel
theorem dJx4a65c_remove_915e3_5 : decode cJx4a65c_remove_915e3 5 = .ok (.invokestatic 118, 3) := by decide +kernel
theorem dJx4a65c_remove_915e3_8 : decode cJx4a65c_remove_915e3 8 = .ok (.pop, 1) := by decide +kernel
theorem dJx4a65c_remove_915e3_9 : decode cJx4a65c_remove_915e3 9 = .ok (.aload_n 0, 1) := by decide +kernel
theorem dJx4a65c_remove_915e3_10 : decode cJx4a65c_remove_915e3 10 = .ok (.getfield 9, 3) := by decide +kernel
theorem dJx4a65c_remove_915e3_13 : decode cJx4a65c_remove_915e3 13 = .ok (.astore_n 2, 1) := by decide +kernel
theorem dJx4a65c_remove_915e3_14 : decode cJx4a65c_remove_915e3 14 = .ok (.aload_n 2, 1) := by decide +kernel
theorem dJx4a65c_remove_915e3_15 : decode cJx4a65c_remove_915e3 15 = .ok (.iload_n 1, 1) := by decide +kernel
theorem dJx4a65c_remove_915e3_16 : decode cJx4a65c_remove_915e3 16 = .ok (.aaload, 1) := by decide +kernel
theorem dJx4a65c_remove_915e3_17 : decode cJx4a65c_remove_915e3 17 = .ok (.astore_n 3, 1) := by decide +kernel
theorem dJx4a65c_remove_915e3_18 : decode cJx4a65c_remove_915e3 18 = .ok (.aload_n 0, 1) := by decide +kernel
theorem dJx4a65c_remove_915e3_19 : decode cJx4a65c_remove_915e3 19 = .ok (.aload_n 2, 1) := by decide +kernel
theorem dJx4a65c_remove_915e3_20 : decode cJx4a65c_remove_915e3 20 = .ok (.iload_n 1, 1) := by decide +kernel
theorem dJx4a65c_remove_915e3_21 : decode cJx4a65c_remove_915e3 21 = .ok (.invokevirtual 144, 3) := by decide +kernel
theorem dJx4a65c_remove_915e3_24 : decode cJx4a65c_remove_915e3 24 = .ok (.aload_n 3, 1) := by decide +kernel
theorem dJx4a65c_remove_915e3_25 : decode cJx4a65c_remove_915e3 25 = .ok (.areturn, 1) := by decide +kernel
theorem dJx4a65c_fastRemove_b59b0_0 : decode cJx4a65c_fastRemove_b59b0 0 = .ok (.aload_n 0, 1) := by decide +kernel
theorem dJx4a65c_fastRemove_b59b0_1 : decode cJx4a65c_fastRemove_b59b0 1 = .ok (.dup, 1) := by decide +kernel
theorem dJx4a65c_fastRemove_b59b0_2 : decode cJx4a65c_fastRemove_b59b0 2 = .ok (.getfield 63, 3) := by decide +kernel
theorem dJx4a65c_fastRemove_b59b0_5 : decode cJx4a65c_fastRemove_b59b0 5 = .ok (.iconst 1, 1) := by decide +kernel
theorem dJx4a65c_fastRemove_b59b0_6 : decode cJx4a65c_fastRemove_b59b0 6 = .ok (.iadd, 1) := by decide +kernel
theorem dJx4a65c_fastRemove_b59b0_7 : decode cJx4a65c_fastRemove_b59b0 7 = .ok (.putfield 63, 3) := by decide +kernel
theorem dJx4a65c_fastRemove_b59b0_10 : decode cJx4a65c_fastRemove_b59b0 10 = .ok (.aload_n 0, 1) := by decide +kernel
theorem dJx4a65c_fastRemove_b59b0_11 : decode cJx4a65c_fastRemove_b59b0 11 = .ok (.getfield 48, 3) := by decide +kernel
theorem dJx4a65c_fastRemove_b59b0_14 : decode cJx4a65c_fastRemove_b59b0 14 = .ok (.iconst 1, 1) := by decide +kernel
theorem dJx4a65c_fastRemove_b59b0_15 : decode cJx4a65c_fastRemove_b59b0 15 = .ok (.isub, 1) := by decide +kernel
theorem dJx4a65c_fastRemove_b59b0_16 : decode cJx4a65c_fastRemove_b59b0 16 = .ok (.dup, 1) := by decide +kernel
theorem dJx4a65c_fastRemove_b59b0_17 : decode cJx4a65c_fastRemove_b59b0 17 = .ok (.istore_n 3, 1) := by decide +kernel
theorem dJx4a65c_fastRemove_b59b0_18 : decode cJx4a65c_fastRemove_b59b0 18 = .ok (.iload_n 2, 1) := by decide +kernel
theorem dJx4a65c_fastRemove_b59b0_19 : decode cJx4a65c_fastRemove_b59b0 19 = .ok (.if_icmp .le 15, 3) := by decide +kernel
theorem dJx4a65c_fastRemove_b59b0_22 : decode cJx4a65c_fastRemove_b59b0 22 = .ok (.aload_n 1, 1) := by decide +kernel
theorem dJx4a65c_fastRemove_b59b0_23 : decode cJx4a65c_fastRemove_b59b0 23 = .ok (.iload_n 2, 1) := by decide +kernel
theorem dJx4a65c_fastRemove_b59b0_24 : decode cJx4a65c_fastRemove_b59b0 24 = .ok (.iconst 1, 1) := by decide +kernel
theorem dJx4a65c_fastRemove_b59b0_25 : decode cJx4a65c_fastRemove_b59b0 25 = .ok (.iadd, 1) := by decide +kernel
theorem dJx4a65c_fastRemove_b59b0_26 : decode cJx4a65c_fastRemove_b59b0 26 = .ok (.aload_n 1, 1) := by decide +kernel
theorem dJx4a65c_fastRemove_b59b0_27 : decode cJx4a65c_fastRemove_b59b0 27 = .ok (.iload_n 2, 1) := by decide +kernel
theorem dJx4a65c_fastRemove_b59b0_28 : decode cJx4a65c_fastRemove_b59b0 28 = .ok (.iload_n 3, 1) := by decide +kernel
theorem dJx4a65c_fastRemove_b59b0_29 : decode cJx4a65c_fastRemove_b59b0 29 = .ok (.iload_n 2, 1) := by decide +kernel
theorem dJx4a65c_fastRemove_b59b0_30 : decode cJx4a65c_fastRemove_b59b0 30 = .ok (.isub, 1) := by decide +kernel
theorem dJx4a65c_fastRemove_b59b0_31 : decode cJx4a65c_fastRemove_b59b0 31 = .ok (.invokestatic 112, 3) := by decide +kernel
theorem dJx4a65c_fastRemove_b59b0_34 : decode cJx4a65c_fastRemove_b59b0 34 = .ok (.aload_n 1, 1) := by decide +kernel
theorem dJx4a65c_fastRemove_b59b0_35 : decode cJx4a65c_fastRemove_b59b0 35 = .ok (.aload_n 0, 1) := by decide +kernel
theorem dJx4a65c_fastRemove_b59b0_36 : decode cJx4a65c_fastRemove_b59b0 36 = .ok (.iload_n 3, 1) := by decide +kernel
theorem dJx4a65c_fastRemove_b59b0_37 : decode cJx4a65c_fastRemove_b59b0 37 = .ok (.dup_x1, 1) := by decide +kernel
theorem dJx4a65c_fastRemove_b59b0_38 : decode cJx4a65c_fastRemove_b59b0 38 = .ok (.putfield 48, 3) := by decide +kernel
theorem dJx4a65c_fastRemove_b59b0_41 : decode cJx4a65c_fastRemove_b59b0 41 = .ok (.aconst_null, 1) := by decide +kernel
theorem dJx4a65c_fastRemove_b59b0_42 : decode cJx4a65c_fastRemove_b59b0 42 = .ok (.aastore, 1) := by decide +kernel
theorem dJx4a65c_fastRemove_b59b0_43 : decode cJx4a65c_fastRemove_b59b0 43 = .ok (.return_, 1) := by decide +kernel
set_option maxRecDepth 20000 in
theorem ggJ7_copyOf_1904c_J7_copyOf_6403c : GoodIn wsJ7_copyOf_1904c wsJ7_copyOf_6403c := goodIn_r _ [8, 9, 10, 11, 12, 13, 14, 15, 16, 17, 18] (by decide +kernel) (by decide +kernel)
set_option maxRecDepth 20000 in
theorem gJ7_copyOf_1904c_J7_copyOf_6403c : GoodIn wsJ7_copyOf_1904c (va_wsS RJ7 300 yJ7_copyOf_6403c wsJ7_copyOf_6403c) := goodIn_app (goodIn_of _ (by decide +kernel)) ggJ7_copyOf_1904c_J7_copyOf_6403c
theorem dJ7_copyOf_1904c_0 : decode cJ7_copyOf_1904c 0 = .ok (.aload_n 0, 1) := by decide +kernel
theorem dJ7_copyOf_1904c_1 : decode cJ7_copyOf_1904c 1 = .ok (.iload_n 1, 1) := by decide +kernel
theorem dJ7_copyOf_1904c_2 : decode cJ7_copyOf_1904c 2 = .ok (.aload_n 0, 1) := by decide +kernel
theorem dJ7_copyOf_1904c_3 : decode cJ7_copyOf_1904c 3 = .ok (.invokevirtual 86, 3) := by decide +kernel
theorem dJ7_copyOf_1904c_6 : decode cJ7_copyOf_1904c 6 = .ok (.invokestatic 300, 3) := by decide +kernel
theorem dJ7_copyOf_1904c_9 : decode cJ7_copyOf_1904c 9 = .ok (.areturn, 1) := by decide +kernel
theorem dJ7_copyOf_6403c_0 : decode cJ7_copyOf_6403c 0 = .ok (.aload_n 2, 1) := by decide +kernel
theorem dJ7_copyOf_6403c_1 : decode cJ7_copyOf_6403c 1 = .ok (.ldc 110, 2) := by decide +kernel
theorem dJ7_copyOf_6403c_3 : decode cJ7_copyOf_6403c 3 = .ok (.if_acmp .ne 10, 3) := by decide +kernel
theorem dJ7_copyOf_6403c_6 : decode cJ7_copyOf_6403c 6 = .ok (.iload_n 1, 1) := by decide +kernel
theorem dJ7_copyOf_6403c_7 : decode cJ7_copyOf_6403c 7 = .ok (.anewarray 2, 3) := by decide +kernel
theorem dJ7_copyOf_6403c_10 : decode cJ7_copyOf_6403c 10 = .ok (.goto 14, 3) := by decide +kernel
theorem dJ7_copyOf_6403c_13 : decode cJ7_copyOf_6403c 13 = .ok (.aload_n 2, 1) := by decide +kernel
theorem dJ7_copyOf_6403c_14 : decode cJ7_copyOf_6403c 14 = .ok (.invokevirtual 90, 3) := by decide +kernel
theorem dJ7_copyOf_6403c_17 : decode cJ7_copyOf_6403c 17 = .ok (.iload_n 1, 1) := by decide +kernel
theorem dJ7_copyOf_6403c_18 : decode cJ7_copyOf_6403c 18 = .ok (.invokestatic 95, 3) := by decide +kernel
theorem dJ7_copyOf_6403c_21 : decode cJ7_copyOf_6403c 21 = .ok (.checkcast 110, 3) := by decide +kernel
theorem dJ7_copyOf_6403c_24 : decode cJ7_copyOf_6403c 24 = .ok (.astore_n 3, 1) := by decide +kernel
theorem dJ7_copyOf_6403c_25 : decode cJ7_copyOf_6403c 25 = .ok (.aload_n 0, 1) := by decide +kernel
theorem dJ7_copyOf_6403c_26 : decode cJ7_copyOf_6403c 26 = .ok (.iconst 0, 1) := by decide +kernel
theorem dJ7_copyOf_6403c_27 : decode cJ7_copyOf_6403c 27 = .ok (.aload_n 3, 1) := by decide +kernel
theorem dJ7_copyOf_6403c_28 : decode cJ7_copyOf_6403c 28 = .ok (.iconst 0, 1) := by decide +kernel
theorem dJ7_copyOf_6403c_29 : decode cJ7_copyOf_6403c 29 = .ok (.aload_n 0, 1) := by decide +kernel
theorem dJ7_copyOf_6403c_30 : decode cJ7_copyOf_6403c 30 = .ok (.arraylength, 1) := by decide +kernel
theorem dJ7_copyOf_6403c_31 : decode cJ7_copyOf_6403c 31 = .ok (.iload_n 1, 1) := by decide +kernel
theorem dJ7_copyOf_6403c_32 : decode cJ7_copyOf_6403c 32 = .ok (.invokestatic 304, 3) := by decide +kernel
theorem dJ7_copyOf_6403c_35 : decode cJ7_copyOf_6403c 35 = .ok (.invokestatic 150, 3) := by decide +kernel
theorem dJ7_copyOf_6403c_38 : decode cJ7_copyOf_6403c 38 = .ok (.aload_n 3, 1) := by decide +kernel
theorem dJ7_copyOf_6403c_39 : decode cJ7_copyOf_6403c 39 = .ok (.areturn, 1) := by decide +kernel
set_option maxRecDepth 20000 in
theorem ggJ15_checkIndex_7cf53_J3_checkIndex_8e157 : GoodIn wsJ15_checkIndex_7cf53 wsJ3_checkIndex_8e157 := goodIn_r _ [4] (by decide +kernel) (by decide +kernel)
set_option maxRecDepth 20000 in
theorem gJ15_checkIndex_7cf53_J3_checkIndex_8e157 : GoodIn wsJ15_checkIndex_7cf53 (va_wsS RJ15 105 yJ3_checkIndex_8e157 wsJ3_checkIndex_8e157) := goodIn_app (goodIn_of _ (by decide +kernel)) ggJ15_checkIndex_7cf53_J3_checkIndex_8e157
theorem dJ15_checkIndex_7cf53_0 : decode cJ15_checkIndex_7cf53 0 = .ok (.iload_n 0, 1) := by decide +kernel
theorem dJ15_checkIndex_7cf53_1 : decode cJ15_checkIndex_7cf53 1 = .ok (.iload_n 1, 1) := by decide +kernel
theorem dJ15_checkIndex_7cf53_2 : decode cJ15_checkIndex_7cf53 2 = .ok (.aconst_null, 1) := by decide +kernel
theorem dJ15_checkIndex_7cf53_3 : decode cJ15_checkIndex_7cf53 3 = .ok (.invokestatic 105, 3) := by decide +kernel
theorem dJ15_checkIndex_7cf53_6 : decode cJ15_checkIndex_7cf53 6 = .ok (.ireturn, 1) := by decide +kernel
set_option maxRecDepth 20000 in
theorem ggJ8_newLength_cabcc_J8_hugeLength_7cf53 : GoodIn wsJ8_newLength_cabcc wsJ8_hugeLength_7cf53 := goodIn_r _ [9, 5] (by decide +kernel) (by decide +kernel)
set_option maxRecDepth 20000 in
theorem gJ8_newLength_cabcc_J8_hugeLength_7cf53 : GoodIn wsJ8_newLength_cabcc (va_wsS RJ8 201 yJ8_hugeLength_7cf53 wsJ8_hugeLength_7cf53) := goodIn_app (goodIn_of _ (by decide +kernel)) ggJ8_newLength_cabcc_J8_hugeLength_7cf53
theorem dJ8_newLength_cabcc_0 : decode cJ8_newLength_cabcc 0 = .ok (.iload_n 0, 1) := by decide +kernel
theorem dJ8_newLength_cabcc_1 : decode cJ8_newLength_cabcc 1 = .ok (.iload_n 1, 1) := by decide +kernel
theorem dJ8_newLength_cabcc_2 : decode cJ8_newLength_cabcc 2 = .ok (.iload_n 2, 1) := by decide +kernel
theorem dJ8_newLength_cabcc_3 : decode cJ8_newLength_cabcc 3 = .ok (.invokestatic 194, 3) := by decide +kernel
theorem dJ8_newLength_cabcc_6 : decode cJ8_newLength_cabcc 6 = .ok (.iadd, 1) := by decide +kernel
theorem dJ8_newLength_cabcc_7 : decode cJ8_newLength_cabcc 7 = .ok (.istore_n 3, 1) := by decide +kernel
theorem dJ8_newLength_cabcc_8 : decode cJ8_newLength_cabcc 8 = .ok (.iconst 0, 1) := by decide +kernel
theorem dJ8_newLength_cabcc_9 : decode cJ8_newLength_cabcc 9 = .ok (.iload_n 3, 1) := by decide +kernel
theorem dJ8_newLength_cabcc_10 : decode cJ8_newLength_cabcc 10 = .ok (.if_icmp .ge 11, 3) := by decide +kernel
theorem dJ8_newLength_cabcc_13 : decode cJ8_newLength_cabcc 13 = .ok (.iload_n 3, 1) := by decide +kernel
theorem dJ8_newLength_cabcc_14 : decode cJ8_newLength_cabcc 14 = .ok (.ldc 200, 2) := by decide +kernel
theorem dJ8_newLength_cabcc_16 : decode cJ8_newLength_cabcc 16 = .ok (.if_icmp .gt 5, 3) := by decide +kernel
theorem dJ8_newLength_cabcc_19 : decode cJ8_newLength_cabcc 19 = .ok (.iload_n 3, 1) := by decide +kernel
theorem dJ8_newLength_cabcc_20 : decode cJ8_newLength_cabcc 20 = .ok (.ireturn, 1) := by decide +kernel
theorem dJ8_newLength_cabcc_21 : decode cJ8_newLength_cabcc 21 = .ok (.iload_n 0, 1) := by decide +kernel
theorem dJ8_newLength_cabcc_22 : decode cJ8_newLength_cabcc 22 = .ok (.iload_n 1, 1) := by decide +kernel
theorem dJ8_newLength_cabcc_23 : decode cJ8_newLength_cabcc 23 = .ok (.invokestatic 201, 3) := by decide +kernel
theorem dJ8_newLength_cabcc_26 : decode cJ8_newLength_cabcc 26 = .ok (.ireturn, 1) := by decide +kernel
theorem dJ8_hugeLength_7cf53_0 : decode cJ8_hugeLength_7cf53 0 = .ok (.iload_n 0, 1) := by decide +kernel
theorem dJ8_hugeLength_7cf53_1 : decode cJ8_hugeLength_7cf53 1 = .ok (.iload_n 1, 1) := by decide +kernel
theorem dJ8_hugeLength_7cf53_2 : decode cJ8_hugeLength_7cf53 2 = .ok (.iadd, 1) := by decide +kernel
theorem dJ8_hugeLength_7cf53_3 : decode cJ8_hugeLength_7cf53 3 = .ok (.istore_n 2, 1) := by decide +kernel
theorem dJ8_hugeLength_7cf53_4 : decode cJ8_hugeLength_7cf53 4 = .ok (.iload_n 2, 1) := by decide +kernel
theorem dJ8_hugeLength_7cf53_5 : decode cJ8_hugeLength_7cf53 5 = .ok (.ifCond .ge 44, 3) := by decide +kernel
theorem dJ8_hugeLength_7cf53_8 : decode cJ8_hugeLength_7cf53 8 = .ok (.new 204, 3) := by decide +kernel
theorem dJ8_hugeLength_7cf53_11 : decode cJ8_hugeLength_7cf53 11 = .ok (.dup, 1) := by decide +kernel
theorem dJ8_hugeLength_7cf53_12 : decode cJ8_hugeLength_7cf53 12 = .ok (.new 89, 3) := by decide +kernel
theorem dJ8_hugeLength_7cf53_15 : decode cJ8_hugeLength_7cf53 15 = .ok (.dup, 1) := by decide +kernel
theorem dJ8_hugeLength_7cf53_16 : decode cJ8_hugeLength_7cf53 16 = .ok (.invokespecial 91, 3) := by decide +kernel
theorem dJ8_hugeLength_7cf53_19 : decode cJ8_hugeLength_7cf53 19 = .ok (.ldc 206, 2) := by decide +kernel
theorem dJ8_hugeLength_7cf53_21 : decode cJ8_hugeLength_7cf53 21 = .ok (.invokevirtual 94, 3) := by decide +kernel
theorem dJ8_hugeLength_7cf53_24 : decode cJ8_hugeLength_7cf53 24 = .ok (.iload_n 0, 1) := by decide +kernel
theorem dJ8_hugeLength_7cf53_25 : decode cJ8_hugeLength_7cf53 25 = .ok (.invokevirtual 98, 3) := by decide +kernel
theorem dJ8_hugeLength_7cf53_28 : decode cJ8_hugeLength_7cf53 28 = .ok (.ldc 208, 2) := by decide +kernel
theorem dJ8_hugeLength_7cf53_30 : decode cJ8_hugeLength_7cf53 30 = .ok (.invokevirtual 94, 3) := by decide +kernel
theorem dJ8_hugeLength_7cf53_33 : decode cJ8_hugeLength_7cf53 33 = .ok (.iload_n 1, 1) := by decide +kernel
theorem dJ8_hugeLength_7cf53_34 : decode cJ8_hugeLength_7cf53 34 = .ok (.invokevirtual 98, 3) := by decide +kernel
theorem dJ8_hugeLength_7cf53_37 : decode cJ8_hugeLength_7cf53 37 = .ok (.ldc 210, 2) := by decide +kernel
theorem dJ8_hugeLength_7cf53_39 : decode cJ8_hugeLength_7cf53 39 = .ok (.invokevirtual 94, 3) := by decide +kernel
theorem dJ8_hugeLength_7cf53_42 : decode cJ8_hugeLength_7cf53 42 = .ok (.invokevirtual 101, 3) := by decide +kernel
theorem dJ8_hugeLength_7cf53_45 : decode cJ8_hugeLength_7cf53 45 = .ok (.invokespecial 212, 3) := by decide +kernel
theorem dJ8_hugeLength_7cf53_48 : decode cJ8_hugeLength_7cf53 48 = .ok (.athrow, 1) := by decide +kernel
theorem dJ8_hugeLength_7cf53_49 : decode cJ8_hugeLength_7cf53 49 = .ok (.iload_n 2, 1) := by decide +kernel
theorem dJ8_hugeLength_7cf53_50 : decode cJ8_hugeLength_7cf53 50 = .ok (.ldc 200, 2) := by decide +kernel
theorem dJ8_hugeLength_7cf53_52 : decode cJ8_hugeLength_7cf53 52 = .ok (.if_icmp .gt 6, 3) := by decide +kernel
theorem dJ8_hugeLength_7cf53_55 : decode cJ8_hugeLength_7cf53 55 = .ok (.ldc 200, 2) := by decide +kernel
theorem dJ8_hugeLength_7cf53_57 : decode cJ8_hugeLength_7cf53 57 = .ok (.ireturn, 1) := by decide +kernel
theorem dJ8_hugeLength_7cf53_58 : decode cJ8_hugeLength_7cf53 58 = .ok (.iload_n 2, 1) := by decide +kernel
theorem dJ8_hugeLength_7cf53_59 : decode cJ8_hugeLength_7cf53 59 = .ok (.ireturn, 1) := by decide +kernel
theorem dJ3_checkIndex_8e157_0 : decode cJ3_checkIndex_8e157 0 = .ok (.iload_n 0, 1) := by decide +kernel
theorem dJ3_checkIndex_8e157_1 : decode cJ3_checkIndex_8e157 1 = .ok (.ifCond .lt 8, 3) := by decide +kernel
theorem dJ3_checkIndex_8e157_4 : decode cJ3_checkIndex_8e157 4 = .ok (.iload_n 0, 1) := by decide +kernel
theorem dJ3_checkIndex_8e157_5 : decode cJ3_checkIndex_8e157 5 = .ok (.iload_n 1, 1) := by decide +kernel
theorem dJ3_checkIndex_8e157_6 : decode cJ3_checkIndex_8e157 6 = .ok (.if_icmp .lt 10, 3) := by decide +kernel
theorem dJ3_checkIndex_8e157_9 : decode cJ3_checkIndex_8e157 9 = .ok (.aload_n 2, 1) := by decide +kernel
theorem dJ3_checkIndex_8e157_10 : decode cJ3_checkIndex_8e157 10 = .ok (.iload_n 0, 1) := by decide +kernel
theorem dJ3_checkIndex_8e157_11 : decode cJ3_checkIndex_8e157 11 = .ok (.iload_n 1, 1) := by decide +kernel
theorem dJ3_checkIndex_8e157_12 : decode cJ3_checkIndex_8e157 12 = .ok (.invokestatic 95, 3) := by decide +kernel
theorem dJ3_checkIndex_8e157_15 : decode cJ3_checkIndex_8e157 15 = .ok (.athrow, 1) := by decide +kernel
theorem dJ3_checkIndex_8e157_16 : decode cJ3_checkIndex_8e157 16 = .ok (.iload_n 0, 1) := by decide +kernel
theorem dJ3_checkIndex_8e157_17 : decode cJ3_checkIndex_8e157 17 = .ok (.ireturn, 1) := by decide +kernel
set_option maxRecDepth 20000 in
theorem ggL_setPavilion_X2_setPavilion : GoodIn wsL_setPavilion wsX2_setPavilion := goodIn_ca (goodIn_ca (goodIn_r _ [7, 8, 9, 10, 11, 12, 6, 13, 14, 15, 16, 17, 18, 19, 20, 21, 22, 23, 24, 25] (by decide +kernel) (by decide +kernel)) (goodIn_sub (fun _ h => List.mem_cons_of_mem _ (List.mem_append_left _ (List.mem_append_right _ h))) (by decide +kernel))) (goodIn_sub (fun _ h => List.mem_cons_of_mem _ (List.mem_append_right _ h)) (by decide +kernel))
set_option maxRecDepth 20000 in
theorem gL_setPavilion_X2_setPavilion : GoodIn wsL_setPavilion (wsV RL 7 RX2 yX2_setPavilion wsX2_setPavilion) := goodIn_app (goodIn_of _ (by decide +kernel)) ggL_setPavilion_X2_setPavilion
theorem dL_setPavilion_0 : decode cL_setPavilion 0 = .ok (.aload_n 0, 1) := by decide +kernel
theorem dL_setPavilion_1 : decode cL_setPavilion 1 = .ok (.iload_n 1, 1) := by decide +kernel
theorem dL_setPavilion_2 : decode cL_setPavilion 2 = .ok (.iload_n 2, 1) := by decide +kernel
theorem dL_setPavilion_3 : decode cL_setPavilion 3 = .ok (.iload_n 3, 1) := by decide +kernel
theorem dL_setPavilion_4 : decode cL_setPavilion 4 = .ok (.invokevirtual 7, 3) := by decide +kernel
theorem dL_setPavilion_7 : decode cL_setPavilion 7 = .ok (.goto 11, 3) := by decide +kernel
theorem dL_setPavilion_10 : decode cL_setPavilion 10 = .ok (.astore 4, 2) := by decide +kernel
theorem dL_setPavilion_12 : decode cL_setPavilion 12 = .ok (.iconst 1, 1) := by decide +kernel
theorem dL_setPavilion_13 : decode cL_setPavilion 13 = .ok (.ireturn, 1) := by decide +kernel
theorem dL_setPavilion_14 : decode cL_setPavilion 14 = .ok (.astore 4, 2) := by decide +kernel
theorem dL_setPavilion_16 : decode cL_setPavilion 16 = .ok (.iconst 2, 1) := by decide +kernel
theorem dL_setPavilion_17 : decode cL_setPavilion 17 = .ok (.ireturn, 1) := by decide +kernel
theorem dL_setPavilion_18 : decode cL_setPavilion 18 = .ok (.iconst 0, 1) := by decide +kernel
theorem dL_setPavilion_19 : decode cL_setPavilion 19 = .ok (.ireturn, 1) := by decide +kernel
set_option maxRecDepth 20000 in
theorem ggL_open_X2_open : GoodIn wsL_open wsX2_open := goodIn_ca (goodIn_r _ [6, 7, 8, 9, 5, 10, 11, 12, 13, 14, 15, 16, 17, 18, 19, 20, 21, 22, 23, 24, 25, 26, 27, 28, 29, 30, 31, 32, 33, 34, 35, 36, 37, 38, 39, 40, 41, 42, 43, 44, 45, 46, 47, 48, 49, 50, 51, 52, 53] (by decide +kernel) (by decide +kernel)) (goodIn_sub (fun _ h => List.mem_cons_of_mem _ (List.mem_append_right _ h)) (by decide +kernel))
set_option maxRecDepth 20000 in
theorem gL_open_X2_open : GoodIn wsL_open (wsV RL 17 RX2 yX2_open wsX2_open) := goodIn_app (goodIn_of _ (by decide +kernel)) ggL_open_X2_open
theorem dL_open_0 : decode cL_open 0 = .ok (.aload_n 3, 1) := by decide +kernel
theorem dL_open_1 : decode cL_open 1 = .ok (.iconst 0, 1) := by decide +kernel
theorem dL_open_2 : decode cL_open 2 = .ok (.aload_n 0, 1) := by decide +kernel
theorem dL_open_3 : decode cL_open 3 = .ok (.iload_n 1, 1) := by decide +kernel
theorem dL_open_4 : decode cL_open 4 = .ok (.iload_n 2, 1) := by decide +kernel
theorem dL_open_5 : decode cL_open 5 = .ok (.invokevirtual 17, 3) := by decide +kernel
theorem dL_open_8 : decode cL_open 8 = .ok (.i2l, 1) := by decide +kernel
theorem dL_open_9 : decode cL_open 9 = .ok (.lastore, 1) := by decide +kernel
theorem dL_open_10 : decode cL_open 10 = .ok (.goto 7, 3) := by decide +kernel
theorem dL_open_13 : decode cL_open 13 = .ok (.astore 4, 2) := by decide +kernel
theorem dL_open_15 : decode cL_open 15 = .ok (.iconst 1, 1) := by decide +kernel
theorem dL_open_16 : decode cL_open 16 = .ok (.ireturn, 1) := by decide +kernel
theorem dL_open_17 : decode cL_open 17 = .ok (.iconst 0, 1) := by decide +kernel
theorem dL_open_18 : decode cL_open 18 = .ok (.ireturn, 1) := by decide +kernel
set_option maxRecDepth 20000 in
theorem ggL_plan_X2_plan : GoodIn wsL_plan wsX2_plan := goodIn_ca (goodIn_ca (goodIn_r _ [7, 8, 9, 10, 11, 12, 6, 13, 14, 15, 16, 17, 18, 19, 20, 21, 22, 23, 24, 25, 26, 27, 28, 29, 30, 31, 32, 33, 34, 35, 36, 37, 38, 39, 40, 41, 42, 43, 44, 45, 46, 47, 48, 49, 50, 51, 52, 53, 54, 55, 56, 57, 58, 59, 60, 61, 62, 63, 64, 65, 66, 67, 68, 69, 70, 71, 72, 73, 74, 75, 76, 77, 78, 79, 80, 81, 82, 83, 84, 85, 86, 87, 88, 89, 90, 91, 92, 93, 94, 95, 96, 97, 98, 99, 100, 101, 102, 103, 104, 105, 106, 107, 108, 109, 110, 111, 112, 113, 114, 115, 116, 117] (by decide +kernel) (by decide +kernel)) (goodIn_sub (fun _ h => List.mem_cons_of_mem _ (List.mem_append_left _ (List.mem_append_right _ h))) (by decide +kernel))) (goodIn_sub (fun _ h => List.mem_cons_of_mem _ (List.mem_append_right _ h)) (by decide +kernel))
set_option maxRecDepth 20000 in
theorem gL_plan_X2_plan : GoodIn wsL_plan (wsV RL 21 RX2 yX2_plan wsX2_plan) := goodIn_app (goodIn_of _ (by decide +kernel)) ggL_plan_X2_plan
theorem dL_plan_0 : decode cL_plan 0 = .ok (.aload_n 3, 1) := by decide +kernel
theorem dL_plan_1 : decode cL_plan 1 = .ok (.iconst 0, 1) := by decide +kernel
theorem dL_plan_2 : decode cL_plan 2 = .ok (.aload_n 0, 1) := by decide +kernel
theorem dL_plan_3 : decode cL_plan 3 = .ok (.iload_n 1, 1) := by decide +kernel
theorem dL_plan_4 : decode cL_plan 4 = .ok (.iload_n 2, 1) := by decide +kernel
theorem dL_plan_5 : decode cL_plan 5 = .ok (.invokevirtual 21, 3) := by decide +kernel
theorem dL_plan_8 : decode cL_plan 8 = .ok (.i2l, 1) := by decide +kernel
theorem dL_plan_9 : decode cL_plan 9 = .ok (.lastore, 1) := by decide +kernel
theorem dL_plan_10 : decode cL_plan 10 = .ok (.goto 11, 3) := by decide +kernel
theorem dL_plan_13 : decode cL_plan 13 = .ok (.astore 4, 2) := by decide +kernel
theorem dL_plan_15 : decode cL_plan 15 = .ok (.iconst 1, 1) := by decide +kernel
theorem dL_plan_16 : decode cL_plan 16 = .ok (.ireturn, 1) := by decide +kernel
theorem dL_plan_17 : decode cL_plan 17 = .ok (.astore 4, 2) := by decide +kernel
theorem dL_plan_19 : decode cL_plan 19 = .ok (.iconst 2, 1) := by decide +kernel
theorem dL_plan_20 : decode cL_plan 20 = .ok (.ireturn, 1) := by decide +kernel
theorem dL_plan_21 : decode cL_plan 21 = .ok (.iconst 0, 1) := by decide +kernel
theorem dL_plan_22 : decode cL_plan 22 = .ok (.ireturn, 1) := by decide +kernel
set_option maxRecDepth 20000 in
theorem ggL_drop_X2_drop : GoodIn wsL_drop wsX2_drop := goodIn_ca (goodIn_ca (goodIn_r _ [7, 8, 9, 10, 11, 12, 6, 13, 14, 15, 16, 17, 18, 19, 20, 21, 22, 23, 24, 25, 26, 27, 28, 29, 30, 31, 32, 33, 34, 35, 36, 37, 38, 39, 40, 41, 42, 43, 44, 45, 46, 47, 48, 49, 50, 51, 52, 53, 54, 55, 56, 57, 58, 59, 60, 61, 62, 63, 64, 65, 66, 67, 68, 69, 70, 71, 72, 73, 74, 75, 76, 77, 78, 79, 80, 81, 82, 83, 84, 85, 86, 87, 88, 89, 90, 91, 92, 93, 94, 95, 96, 97, 98, 99, 100] (by decide +kernel) (by decide +kernel)) (goodIn_sub (fun _ h => List.mem_cons_of_mem _ (List.mem_append_left _ (List.mem_append_right _ h))) (by decide +kernel))) (goodIn_sub (fun _ h => List.mem_cons_of_mem _ (List.mem_append_right _ h)) (by decide +kernel))
set_option maxRecDepth 20000 in
theorem gL_drop_X2_drop : GoodIn wsL_drop (wsV RL 27 RX2 yX2_drop wsX2_drop) := goodIn_app (goodIn_of _ (by decide +kernel)) ggL_drop_X2_drop
theorem dL_drop_0 : decode cL_drop 0 = .ok (.aload_n 3, 1) := by decide +kernel
theorem dL_drop_1 : decode cL_drop 1 = .ok (.iconst 0, 1) := by decide +kernel
theorem dL_drop_2 : decode cL_drop 2 = .ok (.aload_n 0, 1) := by decide +kernel
theorem dL_drop_3 : decode cL_drop 3 = .ok (.iload_n 1, 1) := by decide +kernel
theorem dL_drop_4 : decode cL_drop 4 = .ok (.iload_n 2, 1) := by decide +kernel
theorem dL_drop_5 : decode cL_drop 5 = .ok (.invokevirtual 27, 3) := by decide +kernel
theorem dL_drop_8 : decode cL_drop 8 = .ok (.i2l, 1) := by decide +kernel
theorem dL_drop_9 : decode cL_drop 9 = .ok (.lastore, 1) := by decide +kernel
theorem dL_drop_10 : decode cL_drop 10 = .ok (.goto 11, 3) := by decide +kernel
theorem dL_drop_13 : decode cL_drop 13 = .ok (.astore 4, 2) := by decide +kernel
theorem dL_drop_15 : decode cL_drop 15 = .ok (.iconst 1, 1) := by decide +kernel
theorem dL_drop_16 : decode cL_drop 16 = .ok (.ireturn, 1) := by decide +kernel
theorem dL_drop_17 : decode cL_drop 17 = .ok (.astore 4, 2) := by decide +kernel
theorem dL_drop_19 : decode cL_drop 19 = .ok (.iconst 2, 1) := by decide +kernel
theorem dL_drop_20 : decode cL_drop 20 = .ok (.ireturn, 1) := by decide +kernel
theorem dL_drop_21 : decode cL_drop 21 = .ok (.iconst 0, 1) := by decide +kernel
theorem dL_drop_22 : decode cL_drop 22 = .ok (.ireturn, 1) := by decide +kernel
set_option maxRecDepth 20000 in
theorem ggL_ask_X2_ask : GoodIn wsL_ask wsX2_ask := goodIn_ca (goodIn_ca (goodIn_r _ [7, 8, 9, 10, 11, 12, 6, 13, 14, 15, 16, 17, 18, 19, 20, 21, 22, 23, 24, 25, 26, 27, 28, 29, 30, 31, 32, 33, 34, 35, 36, 37, 38, 39, 40, 41, 42, 43, 44, 45, 46, 47, 48, 49] (by decide +kernel) (by decide +kernel)) (goodIn_sub (fun _ h => List.mem_cons_of_mem _ (List.mem_append_left _ (List.mem_append_right _ h))) (by decide +kernel))) (goodIn_sub (fun _ h => List.mem_cons_of_mem _ (List.mem_append_right _ h)) (by decide +kernel))
set_option maxRecDepth 20000 in
theorem gL_ask_X2_ask : GoodIn wsL_ask (wsV RL 30 RX2 yX2_ask wsX2_ask) := goodIn_app (goodIn_of _ (by decide +kernel)) ggL_ask_X2_ask
theorem dL_ask_0 : decode cL_ask 0 = .ok (.aload_n 3, 1) := by decide +kernel
theorem dL_ask_1 : decode cL_ask 1 = .ok (.iconst 0, 1) := by decide +kernel
theorem dL_ask_2 : decode cL_ask 2 = .ok (.aload_n 0, 1) := by decide +kernel
theorem dL_ask_3 : decode cL_ask 3 = .ok (.iload_n 1, 1) := by decide +kernel
theorem dL_ask_4 : decode cL_ask 4 = .ok (.iload_n 2, 1) := by decide +kernel
theorem dL_ask_5 : decode cL_ask 5 = .ok (.invokevirtual 30, 3) := by decide +kernel
theorem dL_ask_8 : decode cL_ask 8 = .ok (.i2l, 1) := by decide +kernel
theorem dL_ask_9 : decode cL_ask 9 = .ok (.lastore, 1) := by decide +kernel
theorem dL_ask_10 : decode cL_ask 10 = .ok (.goto 11, 3) := by decide +kernel
theorem dL_ask_13 : decode cL_ask 13 = .ok (.astore 4, 2) := by decide +kernel
theorem dL_ask_15 : decode cL_ask 15 = .ok (.iconst 1, 1) := by decide +kernel
theorem dL_ask_16 : decode cL_ask 16 = .ok (.ireturn, 1) := by decide +kernel
theorem dL_ask_17 : decode cL_ask 17 = .ok (.astore 4, 2) := by decide +kernel
theorem dL_ask_19 : decode cL_ask 19 = .ok (.iconst 2, 1) := by decide +kernel
theorem dL_ask_20 : decode cL_ask 20 = .ok (.ireturn, 1) := by decide +kernel
theorem dL_ask_21 : decode cL_ask 21 = .ok (.iconst 0, 1) := by decide +kernel
theorem dL_ask_22 : decode cL_ask 22 = .ok (.ireturn, 1) := by decide +kernel
set_option maxRecDepth 20000 in
theorem ggL_advance_X2_advance : GoodIn wsL_advance wsX2_advance := goodIn_ca (goodIn_ca (goodIn_r _ [7, 8, 9, 10, 11, 12, 13, 14, 15, 6, 16, 17, 18, 19, 20, 21, 22, 23, 24, 25, 26, 27, 28, 29, 30, 31, 32, 33, 34, 35, 36, 37, 38, 39, 40, 41, 42, 43, 44, 45, 46, 47, 48, 49, 50, 51, 52, 53, 54, 55, 56, 57, 58, 59, 60, 61, 62, 63, 64, 65, 66, 67, 68, 69, 70, 71, 72, 73, 74, 75, 76, 77, 78, 79, 80, 81, 82, 83, 84, 85, 86, 87, 88, 89, 90, 91, 92, 93, 94, 95, 96, 97, 98, 99, 100, 101, 102, 103, 104, 105, 106, 107, 108, 109, 110, 111, 112, 113, 114, 115, 116, 117, 118, 119, 120, 121, 122, 123, 124, 125, 126, 127, 128, 129, 130, 131, 132] (by decide +kernel) (by decide +kernel)) (goodIn_sub (fun _ h => List.mem_cons_of_mem _ (List.mem_append_left _ (List.mem_append_right _ h))) (by decide +kernel))) (goodIn_sub (fun _ h => List.mem_cons_of_mem _ (List.mem_append_right _ h)) (by decide +kernel))
set_option maxRecDepth 20000 in
theorem gL_advance_X2_advance : GoodIn wsL_advance (wsV RL 33 RX2 yX2_advance wsX2_advance) := goodIn_app (goodIn_of _ (by decide +kernel)) ggL_advance_X2_advance
theorem dL_advance_0 : decode cL_advance 0 = .ok (.aload_n 2, 1) := by decide +kernel
theorem dL_advance_1 : decode cL_advance 1 = .ok (.iconst 0, 1) := by decide +kernel
theorem dL_advance_2 : decode cL_advance 2 = .ok (.aload_n 0, 1) := by decide +kernel
theorem dL_advance_3 : decode cL_advance 3 = .ok (.iload_n 1, 1) := by decide +kernel
theorem dL_advance_4 : decode cL_advance 4 = .ok (.invokevirtual 33, 3) := by decide +kernel
theorem dL_advance_7 : decode cL_advance 7 = .ok (.i2l, 1) := by decide +kernel
theorem dL_advance_8 : decode cL_advance 8 = .ok (.lastore, 1) := by decide +kernel
theorem dL_advance_9 : decode cL_advance 9 = .ok (.goto 9, 3) := by decide +kernel
theorem dL_advance_12 : decode cL_advance 12 = .ok (.astore_n 3, 1) := by decide +kernel
theorem dL_advance_13 : decode cL_advance 13 = .ok (.iconst 1, 1) := by decide +kernel
theorem dL_advance_14 : decode cL_advance 14 = .ok (.ireturn, 1) := by decide +kernel
theorem dL_advance_15 : decode cL_advance 15 = .ok (.astore_n 3, 1) := by decide +kernel
theorem dL_advance_16 : decode cL_advance 16 = .ok (.iconst 2, 1) := by decide +kernel
theorem dL_advance_17 : decode cL_advance 17 = .ok (.ireturn, 1) := by decide +kernel
theorem dL_advance_18 : decode cL_advance 18 = .ok (.iconst 0, 1) := by decide +kernel
theorem dL_advance_19 : decode cL_advance 19 = .ok (.ireturn, 1) := by decide +kernel
set_option maxRecDepth 20000 in
theorem ggL_send_X2_send : GoodIn wsL_send wsX2_send := goodIn_ca (goodIn_ca (goodIn_r _ [7, 8, 9, 10, 11, 12, 6, 13, 14, 15, 16, 17, 18, 19, 20, 21, 22, 23, 24, 25, 26, 27, 28, 29, 30, 31, 32, 33, 34, 35, 36, 37, 38, 39, 40, 41, 42, 43, 44] (by decide +kernel) (by decide +kernel)) (goodIn_sub (fun _ h => List.mem_cons_of_mem _ (List.mem_append_left _ (List.mem_append_right _ h))) (by decide +kernel))) (goodIn_sub (fun _ h => List.mem_cons_of_mem _ (List.mem_append_right _ h)) (by decide +kernel))
set_option maxRecDepth 20000 in
theorem gL_send_X2_send : GoodIn wsL_send (wsV RL 37 RX2 yX2_send wsX2_send) := goodIn_app (goodIn_of _ (by decide +kernel)) ggL_send_X2_send
theorem dL_send_0 : decode cL_send 0 = .ok (.aload_n 3, 1) := by decide +kernel
theorem dL_send_1 : decode cL_send 1 = .ok (.iconst 0, 1) := by decide +kernel
theorem dL_send_2 : decode cL_send 2 = .ok (.aload_n 0, 1) := by decide +kernel
theorem dL_send_3 : decode cL_send 3 = .ok (.iload_n 1, 1) := by decide +kernel
theorem dL_send_4 : decode cL_send 4 = .ok (.iload_n 2, 1) := by decide +kernel
theorem dL_send_5 : decode cL_send 5 = .ok (.invokevirtual 37, 3) := by decide +kernel
theorem dL_send_8 : decode cL_send 8 = .ok (.ifCond .eq 7, 3) := by decide +kernel
theorem dL_send_11 : decode cL_send 11 = .ok (.lconst 1, 1) := by decide +kernel
theorem dL_send_12 : decode cL_send 12 = .ok (.goto 4, 3) := by decide +kernel
theorem dL_send_15 : decode cL_send 15 = .ok (.lconst 0, 1) := by decide +kernel
theorem dL_send_16 : decode cL_send 16 = .ok (.lastore, 1) := by decide +kernel
theorem dL_send_17 : decode cL_send 17 = .ok (.goto 11, 3) := by decide +kernel
theorem dL_send_20 : decode cL_send 20 = .ok (.astore 4, 2) := by decide +kernel
theorem dL_send_22 : decode cL_send 22 = .ok (.iconst 1, 1) := by decide +kernel
theorem dL_send_23 : decode cL_send 23 = .ok (.ireturn, 1) := by decide +kernel
theorem dL_send_24 : decode cL_send 24 = .ok (.astore 4, 2) := by decide +kernel
theorem dL_send_26 : decode cL_send 26 = .ok (.iconst 2, 1) := by decide +kernel
theorem dL_send_27 : decode cL_send 27 = .ok (.ireturn, 1) := by decide +kernel
theorem dL_send_28 : decode cL_send 28 = .ok (.iconst 0, 1) := by decide +kernel
theorem dL_send_29 : decode cL_send 29 = .ok (.ireturn, 1) := by decide +kernel
set_option maxRecDepth 20000 in
theorem ggL_reprint_X2_reprint : GoodIn wsL_reprint wsX2_reprint := goodIn_ca (goodIn_r _ [6, 7, 8, 9, 10, 11, 12, 13, 14, 15, 16, 17, 18] (by decide +kernel) (by decide +kernel)) (goodIn_sub (fun _ h => List.mem_cons_of_mem _ (List.mem_append_right _ h)) (by decide +kernel))
set_option maxRecDepth 20000 in
theorem gL_reprint_X2_reprint : GoodIn wsL_reprint (wsV RL 41 RX2 yX2_reprint wsX2_reprint) := goodIn_app (goodIn_of _ (by decide +kernel)) ggL_reprint_X2_reprint
theorem dL_reprint_0 : decode cL_reprint 0 = .ok (.aload_n 2, 1) := by decide +kernel
theorem dL_reprint_1 : decode cL_reprint 1 = .ok (.iconst 0, 1) := by decide +kernel
theorem dL_reprint_2 : decode cL_reprint 2 = .ok (.aload_n 0, 1) := by decide +kernel
theorem dL_reprint_3 : decode cL_reprint 3 = .ok (.iload_n 1, 1) := by decide +kernel
theorem dL_reprint_4 : decode cL_reprint 4 = .ok (.invokevirtual 41, 3) := by decide +kernel
theorem dL_reprint_7 : decode cL_reprint 7 = .ok (.i2l, 1) := by decide +kernel
theorem dL_reprint_8 : decode cL_reprint 8 = .ok (.lastore, 1) := by decide +kernel
theorem dL_reprint_9 : decode cL_reprint 9 = .ok (.goto 6, 3) := by decide +kernel
theorem dL_reprint_12 : decode cL_reprint 12 = .ok (.astore_n 3, 1) := by decide +kernel
theorem dL_reprint_13 : decode cL_reprint 13 = .ok (.iconst 1, 1) := by decide +kernel
theorem dL_reprint_14 : decode cL_reprint 14 = .ok (.ireturn, 1) := by decide +kernel
theorem dL_reprint_15 : decode cL_reprint 15 = .ok (.iconst 0, 1) := by decide +kernel
theorem dL_reprint_16 : decode cL_reprint 16 = .ok (.ireturn, 1) := by decide +kernel
set_option maxRecDepth 20000 in
theorem ggL_stateOf_X2_stateOf : GoodIn wsL_stateOf wsX2_stateOf := goodIn_ca (goodIn_r _ [6, 7, 8, 9, 5, 10, 11, 12, 13, 14, 15, 16, 17, 18, 19, 20, 21, 22, 23, 24, 25, 26] (by decide +kernel) (by decide +kernel)) (goodIn_sub (fun _ h => List.mem_cons_of_mem _ (List.mem_append_right _ h)) (by decide +kernel))
set_option maxRecDepth 20000 in
theorem gL_stateOf_X2_stateOf : GoodIn wsL_stateOf (wsV RL 44 RX2 yX2_stateOf wsX2_stateOf) := goodIn_app (goodIn_of _ (by decide +kernel)) ggL_stateOf_X2_stateOf
theorem dL_stateOf_0 : decode cL_stateOf 0 = .ok (.aload_n 2, 1) := by decide +kernel
theorem dL_stateOf_1 : decode cL_stateOf 1 = .ok (.iconst 0, 1) := by decide +kernel
theorem dL_stateOf_2 : decode cL_stateOf 2 = .ok (.aload_n 0, 1) := by decide +kernel
theorem dL_stateOf_3 : decode cL_stateOf 3 = .ok (.iload_n 1, 1) := by decide +kernel
theorem dL_stateOf_4 : decode cL_stateOf 4 = .ok (.invokevirtual 44, 3) := by decide +kernel
theorem dL_stateOf_7 : decode cL_stateOf 7 = .ok (.i2l, 1) := by decide +kernel
theorem dL_stateOf_8 : decode cL_stateOf 8 = .ok (.lastore, 1) := by decide +kernel
theorem dL_stateOf_9 : decode cL_stateOf 9 = .ok (.goto 6, 3) := by decide +kernel
theorem dL_stateOf_12 : decode cL_stateOf 12 = .ok (.astore_n 3, 1) := by decide +kernel
theorem dL_stateOf_13 : decode cL_stateOf 13 = .ok (.iconst 1, 1) := by decide +kernel
theorem dL_stateOf_14 : decode cL_stateOf 14 = .ok (.ireturn, 1) := by decide +kernel
theorem dL_stateOf_15 : decode cL_stateOf 15 = .ok (.iconst 0, 1) := by decide +kernel
theorem dL_stateOf_16 : decode cL_stateOf 16 = .ok (.ireturn, 1) := by decide +kernel
